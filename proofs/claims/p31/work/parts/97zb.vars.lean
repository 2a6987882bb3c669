section
/-! the class: variable, CLAIMS -/
def teS (σ : kS) (r v : Nat) (x y : Int32) : kS := va_up (va_up (va_up (va_up σ (24 + 35 * r) (upd (σ (24 + 35 * r)) v x)) (25 + 35 * r) (upd (σ (25 + 35 * r)) v y)) (26 + 35 * r) (upd (σ (26 + 35 * r)) v 0)) (23 + 35 * r) (upd (σ (23 + 35 * r)) 3 (nI (v + 1)))
theorem up_ne {σ : kS} {a c : Nat} {f : Nat → Int32} (h : c ≠ a) : va_up σ a f c = σ c := by
  unfold va_up
  rw [if_neg h]
theorem up_eq {σ : kS} {a : Nat} {f : Nat → Int32} : va_up σ a f a = f := by
  unfold va_up
  rw [if_pos rfl]
set_option maxRecDepth 100000 in
set_option maxHeartbeats 4000000 in
theorem mc_tell (L : Nat) (xs : Nat → Int32) (d : Nat) (σ : kS) (r v : Nat) (x y : Int32) (hr : r < 4) (hv : v < 6) (h : σ (23 + 35 * r) 3 = nI v) : kXM kT L xs (d + 1) 61 [.ref (23 + 35 * r), .int x, .int y] σ (fun q σ' => q = none ∧ σ' = teS σ r v x y) := by
  unfold kXM
  iterate 1 (refine kX_one rfl ?_)
  refine kX_getN rfl rfl (kT_ro hr) rfl ?_
  refine kX_top (h) ?_
  iterate 1 (refine kX_one rfl ?_)
  repeat refine kX_one rfl ?_
  refine kX_if (fun q => ?_) (fun q => ?_)
  · have q := qge q v 6
    omega
  · iterate 1 (refine kX_one rfl ?_)
    refine kX_getN rfl rfl (kT_ro hr) rfl ?_
    iterate 1 (refine kX_one rfl ?_)
    refine kX_getN rfl rfl (kT_ro hr) rfl ?_
    refine kX_top (h) ?_
    iterate 1 (refine kX_one rfl ?_)
    refine kX_iastN rfl (kT_ra hr) (by decide) (v) (by first | rfl | decide) (hv) ?_
    iterate 1 (refine kX_one rfl ?_)
    refine kX_getN rfl rfl (kT_ro hr) rfl ?_
    iterate 1 (refine kX_one rfl ?_)
    refine kX_getN rfl rfl (kT_ro hr) rfl ?_
    refine kX_top (y := nI v) (by rw [up_ne (by omega)]; exact h) ?_
    iterate 1 (refine kX_one rfl ?_)
    refine kX_iastN rfl (kT_rs hr) (by decide) (v) (by first | rfl | decide) (hv) ?_
    iterate 1 (refine kX_one rfl ?_)
    refine kX_getN rfl rfl (kT_ro hr) rfl ?_
    iterate 1 (refine kX_one rfl ?_)
    refine kX_getN rfl rfl (kT_ro hr) rfl ?_
    refine kX_top (y := nI v) (by rw [up_ne (by omega), up_ne (by omega)]; exact h) ?_
    iterate 1 (refine kX_one rfl ?_)
    refine kX_bastN rfl (kT_rr hr) (by decide) (v) (by first | rfl | decide) (hv) (Or.inl rfl) ?_
    iterate 2 (refine kX_one rfl ?_)
    refine kX_getN rfl rfl (kT_ro hr) rfl ?_
    refine kX_top (y := nI v) (by rw [up_ne (by omega), up_ne (by omega), up_ne (by omega)]; exact h) ?_
    iterate 2 (refine kX_one rfl ?_)
    refine kX_putN rfl rfl (kT_ro hr) rfl (rfl) rfl ?_
    refine kX_ret (i := .return_) (len := 1) rfl (Or.inr rfl) rfl ⟨rfl, ?_⟩
    unfold teS
    rw [← nI_1]
    funext c
    by_cases e3 : c = 23 + 35 * r
    · subst e3
      rw [up_eq, up_eq, up_ne (by omega), up_ne (by omega), up_ne (by omega)]
      rfl
    · rw [up_ne e3, up_ne e3]
      by_cases e2 : c = 26 + 35 * r
      · subst e2
        rw [up_eq, up_eq, up_ne (by omega), up_ne (by omega)]
        rfl
      · rw [up_ne e2, up_ne e2]
        by_cases e1 : c = 25 + 35 * r
        · subst e1
          rw [up_eq, up_eq, up_ne (by omega)]
        · rw [up_ne e1, up_ne e1]
/-- CLAIMS change -/
theorem cJ_cl {σ τ : kS} {n R S C C' : Nat} (h : cJ σ n R S C) (e : ∀ c, c ≠ 13 → c < 163 ∨ 181 ≤ c → τ c = σ c) (e13 : ∀ j, j ≠ 8 → τ 13 j = σ 13 j) (hc : cCl τ C') : cJ τ n R S C' := by
  obtain ⟨h1, h2, h3, h4, h5, h6, h7, h8, h9, h10, h11⟩ := h
  have el : ∀ c, c < 13 → τ c = σ c := fun c hc => e c (by omega) (by omega)
  have eh : ∀ c, 181 ≤ c → τ c = σ c := fun c hc => e c (by omega) (by omega)
  have hg : ∀ z, z < n → τ 8 z = σ 8 z := fun z _ => by rw [el _ (by decide)]
  have hgt : ∀ g, 200 ≤ g → τ 2 g = σ 2 g ∧ τ 3 g = σ 3 g ∧ τ 4 g = σ 4 g ∧ τ 6 g = σ 6 g := fun g _ => by
    rw [el 2 (by decide), el 3 (by decide), el 4 (by decide), el 6 (by decide)]
    exact ⟨rfl, rfl, rfl, rfl⟩
  refine ⟨cT_eq (by rw [el 1 (by decide)]) (el _ (by decide)) (fun u _ => ?_) h1, ⟨h2.1, (e13 _ (by decide)).trans h2.2.1, fun r hr => ?_⟩, cSe_eq hg (e13 _ (by decide)) (e _ (by decide) (by decide)) (e _ (by decide) (by decide)) h3, hc, cKn_eq (e13 _ (by decide)) h5, cKw_eq (by decide) (eh _ (by decide)) (eh _ (by decide)) (eh _ (by decide)) hgt h6, cKw_eq (by decide) (eh _ (by decide)) (eh _ (by decide)) (eh _ (by decide)) hgt h7, cKw_eq (by decide) (eh _ (by decide)) (eh _ (by decide)) (eh _ (by decide)) hgt h8, cRu_eq hg (eh _ (by decide)) (eh _ (by decide)) (eh _ (by decide)) (by rw [eh 186 (by decide)]) (fun g g1 _ => ⟨(hgt g g1).2.1, (hgt g g1).2.2.1⟩) h9, cSr_eq hg (by rw [eh 196 (by decide)]) (eh _ (by decide)) (eh _ (by decide)) (eh _ (by decide)) (by rw [eh 195 (by decide)]) (eh _ (by decide)) h10, cQ_eq (eh _ (by decide)) (eh _ (by decide)) h11⟩
  · rw [el 2 (by decide), el 3 (by decide), el 4 (by decide), el 8 (by decide), el 12 (by decide), el 6 (by decide)]
    exact ⟨rfl, rfl, rfl, rfl, rfl, rfl⟩
  · have hr4 := h2.1
    exact cR1_eq (fun c c1 c2 => e c (by omega) (by omega)) (h2.2.2 r hr)
end
section
/-! the class: join, know, ofRole -/
theorem cJ_kn {σ τ : kS} {n R S C : Nat} (h : cJ σ n R S C) (e : ∀ c, c ≠ 13 → c ≠ 19 → τ c = σ c) (e13 : ∀ j, j ≠ 10 → τ 13 j = σ 13 j) (hk : cKn τ) : cJ τ n R S C := by
  obtain ⟨h1, h2, h3, h4, h5, h6, h7, h8, h9, h10, h11⟩ := h
  have hcl : cCl τ C := cCl_eq (e13 _ (by decide)) (fun c c1 c2 => e c (by omega) (by omega)) h4
  have := cJ_lo (R' := R) ⟨h1, h2, h3, h4, h5, h6, h7, h8, h9, h10, h11⟩ (τ := va_up (va_up τ 13 (σ 13)) 19 (σ 19)) (fun c hc => ?_) (fun j _ => ?_) ?_ (Nat.le_refl _)
  · obtain ⟨g1, g2, g3, g4, g5, g6, g7, g8, g9, g10, g11⟩ := this
    exact ⟨g1, ⟨g2.1, (e13 _ (by decide)).trans h2.2.1, fun r hr => cR1_eq (fun c c1 c2 => e c (by omega) (by omega)) (h2.2.2 r hr)⟩, ⟨g3.1, (e13 _ (by decide)).trans h3.2.1, g3.2.2.1, g3.2.2.2⟩, hcl, hk, g6, g7, g8, g9, g10, g11⟩
  · by_cases q : c = 19
    · subst q
      exact up_eq
    · rw [up_ne q]
      by_cases q2 : c = 13
      · subst q2
        exact up_eq
      · rw [up_ne q2, e c q2 q]
  · rw [up_ne (by decide), up_eq]
  · refine ⟨h2.1, by rw [up_ne (by decide), up_eq]; exact h2.2.1, fun r hr => ?_⟩
    have hR4 := h2.1
    exact cR1_eq (fun c c1 c2 => by rw [up_ne (by omega), up_ne (by omega), e c (by omega) (by omega)]) (h2.2.2 r hr)
end
section
/-! the class: ofRole, countOf -/
set_option maxRecDepth 100000 in
set_option maxHeartbeats 4000000 in
theorem mc_countOf (L : Nat) (xs : Nat → Int32) (d : Nat) (σ : kS) (r v : Nat) (x : Int32) (hr : r < 4) (hv : v ≤ 6) (h : σ (23 + 35 * r) 3 = nI v) : kXM kT L xs (d + 1) 64 [.ref (23 + 35 * r), .int x] σ (fun q σ' => q = some (.int (nI (cnt (fun k => σ (24 + 35 * r) k = x) v))) ∧ σ = σ') := by
  unfold kXM
  have loop : ∀ k : Nat, k ≤ v → kX kT L xs (d + 1) 64 4 [(3, .int (nI k)), (2, .int (nI (cnt (fun k => σ (24 + 35 * r) k = x) k))), (0, .ref (23 + 35 * r)), (1, .int x)] [] σ (fun q σ' => q = some (.int (nI (cnt (fun k => σ (24 + 35 * r) k = x) v))) ∧ σ = σ') := by
    refine kX_while (fun k : Nat => [(3, .int (nI k)), (2, .int (nI (cnt (fun k => σ (24 + 35 * r) k = x) k))), (0, .ref (23 + 35 * r)), (1, .int x)]) (fun _ => σ) (fun k => k ≤ v) (fun k => v - k) ?_
    intro k hk ih
    iterate 2 (refine kX_one rfl ?_)
    refine kX_getN rfl rfl (kT_ro hr) rfl ?_
    refine kX_top (h) ?_
    repeat refine kX_one rfl ?_
    refine kX_if (fun q => ?_) (fun q => ?_)
    · have q := qge q k v
      obtain rfl : k = v := by omega
      repeat refine kX_one rfl ?_
      refine kX_ret (i := .ireturn) (len := 1) rfl (Or.inr rfl) rfl (⟨rfl, rfl⟩)
    · have q := qgeF q k v
      have k25 : ∀ m, cnt (fun k => σ (24 + 35 * r) k = x) (k + 1) = m → kX kT L xs (d + 1) 64 25 [(3, .int (nI k)), (2, .int (nI m)), (0, .ref (23 + 35 * r)), (1, .int x)] [] σ (fun q σ' => q = some (.int (nI (cnt (fun k => σ (24 + 35 * r) k = x) v))) ∧ σ = σ') := by
        intro m hm
        subst hm
        iterate 2 (refine kX_one rfl ?_)
        have := ih (k + 1) q (by omega)
        rw [← nI_1] at this
        exact kX_lv _ rfl rfl rfl this
      iterate 1 (refine kX_one rfl ?_)
      refine kX_getN rfl rfl (kT_ro hr) rfl ?_
      iterate 1 (refine kX_one rfl ?_)
      refine kX_ialdN rfl (kT_ra hr) (by decide) (k) (by first | rfl | decide) (by omega) ?_
      iterate 1 (refine kX_one rfl ?_)
      repeat refine kX_one rfl ?_
      refine kX_if (fun q2 => ?_) (fun q2 => ?_)
      · have q2 : ¬ σ (24 + 35 * r) k = x := qne q2
        exact k25 _ (by rw [cnt, if_neg q2]; rfl)
      · have q2 : σ (24 + 35 * r) k = x := qneF q2
        iterate 1 (refine kX_one rfl ?_)
        have := k25 (cnt (fun k => σ (24 + 35 * r) k = x) k + 1) (by rw [cnt, if_pos q2])
        rw [← nI_1] at this
        exact kX_lv _ rfl rfl rfl this
  iterate 4 (refine kX_one rfl ?_)
  exact kX_lv _ rfl rfl rfl (loop 0 (Nat.zero_le _))
end
section
/-! the class: newSession -/
/-- nothing, or a GROUND TERM -/
def gV (σ : kS) (n : Nat) (w : Int32) : Prop := w = -1 ∨ ∃ z, z < n ∧ w = nI z ∧ σ 8 z = 1
/-- where newSession stands -/
def nsI (σ τ : kS) (n n' S v : Nat) : Prop := n ≤ n' ∧ cT τ n' ∧ cGr σ (va_up τ 17 (σ 17)) n ∧ (∀ j, j < 7 * S → τ 17 j = σ 17 j) ∧ ∀ k, k < v → gV τ n' (τ 17 (7 * S + 1 + k))
theorem gV_up {σ τ : kS} {n m : Nat} {w : Int32} (hm : n ≤ m) (e : ∀ z, z < n → τ 8 z = σ 8 z) (h : gV σ n w) : gV τ m w := by
  rcases h with q | ⟨z, z1, z2, z3⟩
  · exact Or.inl q
  · exact Or.inr ⟨z, by omega, z2, by rw [e z z1]; exact z3⟩
theorem nsI_c {σ τ : kS} {n n' S v : Nat} (h : nsI σ τ n n' S v) {c : Nat} (hc : c ∉ tC) (h17 : c ≠ 17) : τ c = σ c := by
  have := h.2.2.1.1 c hc
  rw [up_ne h17] at this
  exact this
theorem cnt_mono2 {f : Nat → Prop} {a b : Nat} (h : a ≤ b) : cnt f a ≤ cnt f b := by
  induction b with
  | zero =>
    obtain rfl : a = 0 := by omega
    exact Nat.le_refl _
  | succ b ih =>
    by_cases e : a = b + 1
    · subst e
      exact Nat.le_refl _
    · have h1 := ih (by omega)
      have h2 : cnt f b ≤ cnt f (b + 1) := by
        rw [cnt]
        omega
      omega
theorem ixo (S v : Nat) : nI (S * 7) + Int32.ofInt 1 + nI v = nI (7 * S + 1 + v) := by
  rw [show Int32.ofInt 1 = nI 1 from rfl, nI_add, nI_add, Nat.mul_comm S 7]
end
section
/-! the class: session, all of it -/
theorem ag_ground {σ : kS} {n : Nat} {a : Int32} (h : cT σ n) (hA : ∃ t, t < n ∧ a = nI t ∧ σ 2 t = 0) : gV σ n a := by
  obtain ⟨t, t1, t2, t3⟩ := hA
  have hn := h.1
  obtain ⟨-, -, -, -, -, a6, a7, -⟩ := h.2.2.2 t t1
  refine Or.inr ⟨t, t1, t2, ?_⟩
  have h3 : σ 2 t ≠ nI 3 := by rw [t3]; decide
  obtain ⟨f1, f2⟩ := a7 (by rw [t3]; decide)
  rw [a6 h3, f1, f2]
  exact ⟨cG_m1 σ t (by omega), cG_m1 σ t (by omega)⟩
end
section
/-! the class: VARIABLES in a TERM; what an EVENT binds -/
def tL (n : Nat) (A : Nat → Int32) (m : Nat) : Prop := ∀ j, j < m → ∃ u, u < n ∧ A j = nI u
theorem tL_up {n m u : Nat} {A : Nat → Int32} (h : tL n A m) (hu : u < n) : tL n (upd A m (nI u)) (m + 1) := fun j hj => by
  by_cases e : j = m
  · subst e
    exact ⟨u, hu, pk_us⟩
  · rw [pk_un e]
    exact h j (by omega)
def lvU (σ : kS) (ST VS : Nat → Int32) : kS := va_up (va_up σ 20 ST) 21 VS
end
section
/-! the class: bindIn -/
/-- what an EVENT binds, up to m -/
def bnI (τ : kS) (a m : Nat) : Prop := m ≤ 6 ∧ τ a 4 = nI m ∧ ∀ j, j < m → (∃ p, p < 6 ∧ τ (a + 1) j = nI p) ∧ ∃ so, so ≤ 3 ∧ τ (a + 2) j = nI so
def bnF (ρ τ : kS) (r a : Nat) : Prop := (∀ c, c ≠ 26 + 35 * r → c ≠ a → c ≠ a + 1 → c ≠ a + 2 → τ c = ρ c) ∧ ∀ j, j ≠ 4 → τ a j = ρ a j
end
section
/-! the class: plan -/
theorem min_ok {t n : Nat} (h : t < n) (hn : n ≤ 200) : jmmv 3 (nI t) (nI n - 1) = nI t := by
  obtain ⟨m, rfl⟩ : ∃ m, n = m + 1 := ⟨n - 1, by omega⟩
  rw [nI_pred]
  unfold jmmv
  rw [if_neg (by decide), if_neg (by decide), if_neg]
  rw [Int32.lt_iff_toInt_lt, nI_toInt (by omega), nI_toInt (by omega)]
  omega
end
section
/-! the class: plan, newEvent, event -/
def plF (σ τ : kS) (a : Nat) : Prop := (∀ c, c ≠ 22 → c ≠ a → c ≠ a + 3 → c ≠ a + 4 → τ c = σ c) ∧ ∀ j, j ≠ 7 → τ a j = σ a j
def plJ (τ : kS) (a n q m : Nat) : Prop := q ≤ 24 ∧ τ a 7 = nI q ∧ tL n (τ (a + 3)) q ∧ ∀ j, j < m → ∃ f, f ≤ 24 ∧ τ (a + 4) j = nI f
end
section
/-! the class: what an intruder has -/
def isK (K st : Nat) : Prop := (K = 186 ∧ st = 200) ∨ (K = 204 ∧ st = 776) ∨ (K = 213 ∧ st = 1352)
theorem isK_b {K st : Nat} (h : isK K st) : 186 ≤ K ∧ K + 9 ≤ 222 ∧ 200 ≤ st ∧ st + 576 ≤ 1928 := by
  rcases h with ⟨rfl, rfl⟩ | ⟨rfl, rfl⟩ | ⟨rfl, rfl⟩ <;> omega
theorem kT_kn {K st : Nat} (h : isK K st) : kT[K]? = some (.inr (4, [.ref 1, .int (nI st), .ref (K + 1), .int 0, .ref (K + 2), .ref (K + 3), .ref (K + 4), .int 0, .ref (K + 5), .ref (K + 6), .ref (K + 7), .ref (K + 8), .int 0, .int 0])) := by
  rcases h with ⟨rfl, rfl⟩ | ⟨rfl, rfl⟩ | ⟨rfl, rfl⟩ <;> rfl
theorem kT_k1 {K st : Nat} (h : isK K st) : kT[K + 1]? = some (.inl (0, 256, .inl (fun _ => 0))) := by
  rcases h with ⟨rfl, rfl⟩ | ⟨rfl, rfl⟩ | ⟨rfl, rfl⟩ <;> rfl
theorem kT_k2 {K st i : Nat} (h : isK K st) (hi : i = 2 ∨ i = 3 ∨ i = 4) : kT[K + i]? = some (.inl (0, 776, .inl (fun _ => 0))) := by
  rcases h with ⟨rfl, rfl⟩ | ⟨rfl, rfl⟩ | ⟨rfl, rfl⟩ <;> rcases hi with rfl | rfl | rfl <;> rfl
theorem kT_k5 {K st i : Nat} (h : isK K st) (hi : i = 5 ∨ i = 6) : kT[K + i]? = some (.inl (0, 1928, .inl (fun _ => 0))) := by
  rcases h with ⟨rfl, rfl⟩ | ⟨rfl, rfl⟩ | ⟨rfl, rfl⟩ <;> rcases hi with rfl | rfl <;> rfl
theorem kT_k7 {K st : Nat} (h : isK K st) : kT[K + 7]? = some (.inl (0, 200, .inl (fun _ => 0))) ∧ kT[K + 8]? = some (.inl (0, 576, .inl (fun _ => 0))) := by
  rcases h with ⟨rfl, rfl⟩ | ⟨rfl, rfl⟩ | ⟨rfl, rfl⟩ <;> exact ⟨rfl, rfl⟩
def nB (σ : kS) (K st n u : Nat) : Prop := isK K st ∧ n ≤ 200 ∧ u ≤ 576 ∧ σ 1 11 = nI n ∧ σ K 1 = nI st ∧ σ K 3 = nI u
def nR (σ : kS) (K : Nat) : Prop := ∃ ln, ln ≤ 776 ∧ σ K 7 = nI ln ∧ ∀ i, i < ln → ∃ g, g < 1928 ∧ σ (K + 2) i = nI g
/-- what the row's methods leave -/
def nP (σ τ : kS) (K : Nat) : Prop := (∀ c, c < K ∨ K + 9 ≤ c → τ c = σ c) ∧ τ (K + 1) = σ (K + 1) ∧ (∀ j, j ≠ 7 → j ≠ 13 → τ K j = σ K j) ∧ nR τ K
theorem nP_refl {σ : kS} {K : Nat} (h : nR σ K) : nP σ σ K := ⟨fun _ _ => rfl, rfl, fun _ _ _ => rfl, h⟩
theorem nP_trans {σ τ ρ : kS} {K : Nat} (h1 : nP σ τ K) (h2 : nP τ ρ K) : nP σ ρ K := ⟨fun c hc => (h2.1 c hc).trans (h1.1 c hc), h2.2.1.trans h1.2.1, fun j x1 x2 => (h2.2.2.1 j x1 x2).trans (h1.2.2.1 j x1 x2), h2.2.2.2⟩
/-- it is a TERM, or one of the intruder's own -/
def nH (n st u : Nat) (x : Int32) : Prop := isN x n ∨ ∃ g, st ≤ g ∧ g < st + u ∧ x = nI g
set_option maxRecDepth 100000 in
set_option maxHeartbeats 4000000 in
theorem mc_unn (L : Nat) (xs : Nat → Int32) (d : Nat) (σ : kS) (K st n u : Nat) (x : Int32) (h : nB σ K st n u) : kXM kT L xs (d + 1) 46 [.ref K, .int x] σ (fun r σ' => r = some (.int (isB (∃ g, st ≤ g ∧ g < st + u ∧ x = nI g))) ∧ σ = σ') := by
  obtain ⟨h1, h2, h3, h4, h5, h6⟩ := h
  have hb := isK_b h1
  have hlt : ∀ a : Nat, a < 100000 → (x < nI a ↔ x.toInt < a) := fun a ha => by rw [Int32.lt_iff_toInt_lt, nI_toInt (by omega)]
  unfold kXM
  iterate 2 (refine kX_one rfl ?_)
  refine kX_getN rfl rfl (kT_kn h1) rfl ?_
  refine kX_top (h5) ?_
  repeat refine kX_one rfl ?_
  refine kX_if (fun q => ?_) (fun q => ?_)
  · have q : x < nI st := of_decide_eq_true q
    repeat refine kX_one rfl ?_
    refine kX_ret (i := .ireturn) (len := 1) rfl (Or.inr rfl) rfl ⟨rF (fun z => ?_), rfl⟩
    obtain ⟨g, g1, g2, rfl⟩ := z
    rw [hlt st (by omega), nI_toInt (by omega)] at q
    omega
  · have q : ¬ x < nI st := of_decide_eq_false q
    rw [hlt st (by omega)] at q
    have hx0 : ¬ x < 0 := fun z => q (by
      rw [Int32.lt_iff_toInt_lt] at z
      have : (0 : Int32).toInt = 0 := rfl
      omega)
    obtain ⟨g, hg, rfl⟩ := nI_of hx0
    rw [nI_toInt hg] at q
    iterate 2 (refine kX_one rfl ?_)
    refine kX_getN rfl rfl (kT_kn h1) rfl ?_
    refine kX_top (h5) ?_
    iterate 1 (refine kX_one rfl ?_)
    refine kX_getN rfl rfl (kT_kn h1) rfl ?_
    refine kX_top (h6) ?_
    iterate 1 (refine kX_one rfl ?_)
    refine kX_top (nI_add st u) ?_
    repeat refine kX_one rfl ?_
    refine kX_if (fun q2 => ?_) (fun q2 => ?_)
    · have q2 := qge q2 g (st + u)
      repeat refine kX_one rfl ?_
      refine kX_ret (i := .ireturn) (len := 1) rfl (Or.inr rfl) rfl ⟨rF (fun z => ?_), rfl⟩
      obtain ⟨g', g1, g2, e⟩ := z
      have := nI_inj e
      omega
    · have q2 := qgeF q2 g (st + u)
      repeat refine kX_one rfl ?_
      refine kX_ret (i := .ireturn) (len := 1) rfl (Or.inr rfl) rfl (⟨rT ⟨g, by omega, q2, rfl⟩, rfl⟩)
set_option maxRecDepth 100000 in
set_option maxHeartbeats 4000000 in
theorem mc_kHas (L : Nat) (xs : Nat → Int32) (d : Nat) (σ : kS) (K st n u : Nat) (x : Int32) (h : nB σ K st n u) : kXM kT L xs (d + 1) 47 [.ref K, .int x] σ (fun r σ' => r = some (.int (isB (nH n st u x))) ∧ σ = σ') := by
  obtain ⟨h1, h2, h3, h4, h5, h6⟩ := h
  have hb := isK_b h1
  have hlt : ∀ a : Nat, a < 100000 → (x < nI a ↔ x.toInt < a) := fun a ha => by rw [Int32.lt_iff_toInt_lt, nI_toInt (by omega)]
  unfold kXM
  have k15 : ¬ isN x n → kX kT L xs (d + 1) 47 15 (lv_args 0 [.ref K, .int x]) [] σ (fun r σ' => r = some (.int (isB (nH n st u x))) ∧ σ = σ') := by
    intro hno
    iterate 2 (refine kX_one rfl ?_)
    refine kX_getN rfl rfl (kT_kn h1) rfl ?_
    refine kX_top (h5) ?_
    repeat refine kX_one rfl ?_
    refine kX_if (fun q => ?_) (fun q => ?_)
    · have q : x < nI st := of_decide_eq_true q
      repeat refine kX_one rfl ?_
      refine kX_ret (i := .ireturn) (len := 1) rfl (Or.inr rfl) rfl ⟨rF (fun z => ?_), rfl⟩
      rcases z with z | ⟨g, g1, g2, rfl⟩
      · exact hno z
      · rw [hlt st (by omega), nI_toInt (by omega)] at q
        omega
    · have q : ¬ x < nI st := of_decide_eq_false q
      rw [hlt st (by omega)] at q
      have hx0 : ¬ x < 0 := fun z => q (by
        rw [Int32.lt_iff_toInt_lt] at z
        have : (0 : Int32).toInt = 0 := rfl
        omega)
      obtain ⟨g, hg, rfl⟩ := nI_of hx0
      rw [nI_toInt hg] at q
      iterate 2 (refine kX_one rfl ?_)
      refine kX_getN rfl rfl (kT_kn h1) rfl ?_
      refine kX_top (h5) ?_
      iterate 1 (refine kX_one rfl ?_)
      refine kX_getN rfl rfl (kT_kn h1) rfl ?_
      refine kX_top (h6) ?_
      iterate 1 (refine kX_one rfl ?_)
      refine kX_top (nI_add st u) ?_
      repeat refine kX_one rfl ?_
      refine kX_if (fun q2 => ?_) (fun q2 => ?_)
      · have q2 := qge q2 g (st + u)
        repeat refine kX_one rfl ?_
        refine kX_ret (i := .ireturn) (len := 1) rfl (Or.inr rfl) rfl ⟨rF (fun z => ?_), rfl⟩
        rcases z with z | ⟨g', g1, g2, e⟩
        · exact hno z
        · have := nI_inj e
          omega
      · have q2 := qgeF q2 g (st + u)
        repeat refine kX_one rfl ?_
        refine kX_ret (i := .ireturn) (len := 1) rfl (Or.inr rfl) rfl (⟨rT (Or.inr ⟨g, by omega, q2, rfl⟩), rfl⟩)
  iterate 1 (refine kX_one rfl ?_)
  repeat refine kX_one rfl ?_
  refine kX_if (fun q => ?_) (fun q => ?_)
  · have q : x < 0 := of_decide_eq_true q
    refine k15 (fun z => ?_)
    obtain ⟨j, j1, rfl⟩ := z
    exact nI_pos (by omega) q
  · have q : ¬ x < 0 := of_decide_eq_false q
    obtain ⟨j, hj, rfl⟩ := nI_of q
    iterate 2 (refine kX_one rfl ?_)
    refine kX_getN rfl rfl (kT_kn h1) rfl ?_
    iterate 1 (refine kX_one rfl ?_)
    refine kX_top (h4) ?_
    repeat refine kX_one rfl ?_
    refine kX_if (fun q2 => ?_) (fun q2 => ?_)
    · have q2 := qlt q2 j n
      repeat refine kX_one rfl ?_
      refine kX_ret (i := .ireturn) (len := 1) rfl (Or.inr rfl) rfl (⟨rT (Or.inl ⟨j, q2, rfl⟩), rfl⟩)
    · have q2 := qltF q2 j n
      refine k15 (fun z => ?_)
      obtain ⟨j', j1, e⟩ := z
      have := nI_inj e
      omega
theorem nP_make {σ : kS} {K : Nat} {f : Nat → Int32} (h : nR σ K) : nP σ (va_up σ (K + 6) f) K := by
  refine ⟨fun c hc => up_ne (by omega), up_ne (by omega), fun j _ _ => by rw [up_ne (by omega)], ?_⟩
  unfold nR
  rw [up_ne (by omega), up_ne (by omega)]
  exact h
end
section
/-! the class: start, find, findOrPut, groundOf -/
def nF (σ τ : kS) (K st : Nat) : Prop := (∀ c, c < K ∨ K + 9 ≤ c → c ≠ 2 → c ≠ 3 → c ≠ 4 → c ≠ 5 → c ≠ 6 → τ c = σ c) ∧ ∀ j, j < st ∨ st + 576 ≤ j → τ 2 j = σ 2 j ∧ τ 3 j = σ 3 j ∧ τ 4 j = σ 4 j ∧ τ 6 j = σ 6 j
theorem nF_refl (σ : kS) (K st : Nat) : nF σ σ K st := ⟨fun _ _ _ _ _ _ _ => rfl, fun _ _ => ⟨rfl, rfl, rfl, rfl⟩⟩
theorem nF_trans {σ τ ρ : kS} {K st : Nat} (h1 : nF σ τ K st) (h2 : nF τ ρ K st) : nF σ ρ K st := ⟨fun c a1 a2 a3 a4 a5 a6 => (h2.1 c a1 a2 a3 a4 a5 a6).trans (h1.1 c a1 a2 a3 a4 a5 a6), fun j hj => ⟨(h2.2 j hj).1.trans (h1.2 j hj).1, (h2.2 j hj).2.1.trans (h1.2 j hj).2.1, (h2.2 j hj).2.2.1.trans (h1.2 j hj).2.2.1, (h2.2 j hj).2.2.2.trans (h1.2 j hj).2.2.2⟩⟩
theorem nF_P {σ τ : kS} {K st : Nat} (hK : isK K st) (h : nP σ τ K) : nF σ τ K st := by
  have hb := isK_b hK
  refine ⟨fun c a1 _ _ _ _ _ => h.1 c a1, fun j _ => ?_⟩
  rw [h.1 2 (by omega), h.1 3 (by omega), h.1 4 (by omega), h.1 6 (by omega)]
  exact ⟨rfl, rfl, rfl, rfl⟩
theorem cT_nF {σ τ : kS} {K st n : Nat} (hK : isK K st) (hF : nF σ τ K st) (h : cT σ n) : cT τ n := by
  have hb := isK_b hK
  have hn := h.1
  refine cT_eq (by rw [hF.1 1 (by omega) (by decide) (by decide) (by decide) (by decide) (by decide)]) (hF.1 _ (by omega) (by decide) (by decide) (by decide) (by decide) (by decide)) (fun u hu => ?_) h
  obtain ⟨a1, a2, a3, a4⟩ := hF.2 u (by omega)
  rw [hF.1 8 (by omega) (by decide) (by decide) (by decide) (by decide) (by decide), hF.1 12 (by omega) (by decide) (by decide) (by decide) (by decide) (by decide)]
  exact ⟨a1, a2, a3, rfl, rfl, a4⟩
/-- an intruder's stretch, as it grows -/
def nW (σ : kS) (K st n u : Nat) : Prop := nB σ K st n u ∧ nR σ K ∧ cKe σ K st u ∧ cKg σ n st u ∧ cT σ n
end
section
/-! the class: findOrPut, groundOf -/
def fpS (σ : kS) (K g sl : Nat) (w x y z : Int32) (u : Nat) : kS := va_up (va_up (va_up (va_up (va_up (va_up (va_up σ 2 (upd (σ 2) g w)) 3 (upd (σ 3) g x)) 4 (upd (σ 4) g y)) 5 (upd (σ 5) g z)) 6 (upd (σ 6) g (σ (K + 1) sl))) (K + 1) (upd (σ (K + 1)) sl (nI g))) K (upd (σ K) 3 (nI (u + 1)))
end
section
/-! the class: groundOf -/
theorem nF_gr {σ τ : kS} {K st : Nat} (hK : isK K st) (h : nF σ τ K st) : τ 8 = σ 8 := by
  have := isK_b hK
  exact h.1 _ (by omega) (by decide) (by decide) (by decide) (by decide) (by decide)
end
section
/-! the class: fillKnowledge -/
theorem cKw_n {σ : kS} {K st n : Nat} (hK : isK K st) (hT : cT σ n) (h : cKw σ K st) : ∃ u, nB σ K st n u ∧ nR σ K ∧ cKe σ K st u := by
  obtain ⟨h1, u, ln, h2, h3, h4, h5, h6, h7⟩ := h
  exact ⟨u, ⟨hK, hT.1, h2, hT.2.1, h1, h4⟩, ⟨ln, h3, h5, h6⟩, h7⟩
theorem nW_w {σ : kS} {K st n u : Nat} (h : nW σ K st n u) : cKw σ K st := by
  obtain ⟨⟨a1, a2, a3, a4, a5, a6⟩, ⟨ln, l1, l2, l3⟩, he, -, -⟩ := h
  exact ⟨a5, u, ln, a3, l1, a6, l2, l3, he⟩
theorem ix7w (base s : Nat) : nI base + nI s * (Int8.ofInt 7).toInt32 + Int32.ofInt 1 = nI (base + 7 * s + 1) := by
  rw [ix7, show Int32.ofInt 1 = nI 1 from rfl, nI_add, Nat.mul_comm s 7]
end
section
/-! the class: the run's intruder -/
theorem cKw_eq2 {σ τ : kS} {K st : Nat} (e0 : τ K = σ K) (e1 : τ (K + 1) = σ (K + 1)) (e2 : τ (K + 2) = σ (K + 2)) (e : ∀ g, st ≤ g → g < st + 576 → τ 2 g = σ 2 g ∧ τ 3 g = σ 3 g ∧ τ 4 g = σ 4 g ∧ τ 6 g = σ 6 g) (h : cKw σ K st) : cKw τ K st := by
  obtain ⟨h1, u, ln, h2, h3, h4, h5, h6, h7, h8⟩ := h
  refine ⟨by rw [e0]; exact h1, u, ln, h2, h3, by rw [e0]; exact h4, by rw [e0]; exact h5, by rw [e2]; exact h6, fun s hs => ?_, fun g g1 g2 => ?_⟩
  · rw [e1]
    rcases h7 s hs with q | ⟨g, q1, q2, q3, q4⟩
    · exact Or.inl q
    · refine Or.inr ⟨g, q1, q2, q3, ?_⟩
      rw [(e g q1 (by omega)).1, (e g q1 (by omega)).2.1, (e g q1 (by omega)).2.2.1]
      exact q4
  · rw [(e g g1 (by omega)).2.2.2, (e g g1 (by omega)).1]
    exact h8 g g1 g2
/-- the run's intruder has changed, and what he is gathered for -/
theorem cJ_in {σ τ : kS} {n R S C u : Nat} (h : cJ σ n R S C) (hF : nF (va_up (va_up σ 184 (τ 184)) 181 (τ 181)) τ 186 200) (hW : nW τ 186 200 n u) (h181 : ∀ j, j ≠ 9 → τ 181 j = σ 181 j) (hg : τ 181 9 = -1 ∨ ∃ g, g ≤ n ∧ τ 181 9 = nI g) : cJ τ n R S C := by
  obtain ⟨h1, h2, h3, h4, h5, h6, h7, h8, h9, h10, h11⟩ := h
  have e : ∀ c, 7 ≤ c → c ≠ 181 → c ≠ 184 → c < 186 ∨ 195 ≤ c → τ c = σ c := fun c c1 c2 c3 c4 => by
    have := hF.1 c (by omega) (by omega) (by omega) (by omega) (by omega) (by omega)
    rw [up_ne c2, up_ne c3] at this
    exact this
  have hgr : ∀ z, z < n → τ 8 z = σ 8 z := fun z _ => by rw [e _ (by decide) (by decide) (by decide) (by decide)]
  have hen : ∀ g, 776 ≤ g → τ 2 g = σ 2 g ∧ τ 3 g = σ 3 g ∧ τ 4 g = σ 4 g ∧ τ 6 g = σ 6 g := fun g hg => hF.2 g (by omega)
  refine ⟨hW.2.2.2.2, cRo_gr (Nat.le_refl _) (fun c c1 c2 => e c (by omega) (by omega) (by omega) (by omega)) h2, cSe_eq hgr (by rw [e 13 (by decide) (by decide) (by decide) (by decide)]) (e _ (by decide) (by decide) (by decide) (by decide)) (e _ (by decide) (by decide) (by decide) (by decide)) h3, cCl_eq (by rw [e 13 (by decide) (by decide) (by decide) (by decide)]) (fun c c1 c2 => e c (by omega) (by omega) (by omega) (by omega)) h4, cKn_eq (by rw [e 13 (by decide) (by decide) (by decide) (by decide)]) h5, nW_w hW, cKw_eq2 (e _ (by decide) (by decide) (by decide) (by decide)) (e _ (by decide) (by decide) (by decide) (by decide)) (e _ (by decide) (by decide) (by decide) (by decide)) (fun g g1 _ => hen g (by omega)) h7, cKw_eq2 (e _ (by decide) (by decide) (by decide) (by decide)) (e _ (by decide) (by decide) (by decide) (by decide)) (e _ (by decide) (by decide) (by decide) (by decide)) (fun g g1 _ => hen g (by omega)) h8, ?_, cSr_eq hgr (by rw [e 196 (by decide) (by decide) (by decide) (by decide)]) (e _ (by decide) (by decide) (by decide) (by decide)) (e _ (by decide) (by decide) (by decide) (by decide)) (e _ (by decide) (by decide) (by decide) (by decide)) (by rw [e 195 (by decide) (by decide) (by decide) (by decide)]) (e _ (by decide) (by decide) (by decide) (by decide)) h10, cQ_eq (e _ (by decide) (by decide) (by decide) (by decide)) (e _ (by decide) (by decide) (by decide) (by decide)) h11⟩
  unfold cRu
  rw [h181 _ (by decide), h181 _ (by decide), e 183 (by decide) (by decide) (by decide) (by decide), e 182 (by decide) (by decide) (by decide) (by decide)]
  rcases h9 with q | ⟨q1, q2, q3, q4⟩
  · exact Or.inl q
  · refine Or.inr ⟨q1, q2, cV_eq hgr q3, ?_⟩
    rcases hg with hg | ⟨g, g1, g2⟩
    · exact Or.inl hg
    · exact Or.inr ⟨g, g1, g2, fun _ => ⟨u, hW.1.2.2.1, hW.1.2.2.2.2.2, hW.2.2.2.1⟩⟩
theorem ix7z (s : Nat) : nI s * (Int8.ofInt 7).toInt32 + Int32.ofInt 1 = nI (7 * s + 1) := by
  rw [show (Int8.ofInt 7).toInt32 = nI 7 from rfl, pk_mul, show Int32.ofInt 1 = nI 1 from rfl, nI_add, Nat.mul_comm s 7]
end
section
/-! the class: step, send, undo -/
theorem ix7s (s : Nat) : nI s * (Int8.ofInt 7).toInt32 = nI (7 * s) := by
  rw [show (Int8.ofInt 7).toInt32 = nI 7 from rfl, pk_mul, Nat.mul_comm s 7]
theorem e181 (r k : Nat) (hr : r < 4) (hk : k < 6) : 28 + 35 * r + 5 * k + 1 < 181 ∨ 186 ≤ 28 + 35 * r + 5 * k + 1 := by omega
theorem ix7b (s p : Nat) : nI (7 * s) + Int32.ofInt 1 + nI p = nI (7 * s + 1 + p) := by
  rw [show Int32.ofInt 1 = nI 1 from rfl, nI_add, nI_add]
end
section
/-! the class: broken -/
def cB (σ : kS) (n R S C : Nat) : Prop := cRo σ n R ∧ (S ≤ 4 ∧ σ 13 6 = nI S ∧ ∀ s, s < S → ∃ r, r < R ∧ σ 15 s = nI r) ∧ cCl σ C
theorem cB_of {σ : kS} {n R S C : Nat} (h : cJ σ n R S C) : cB σ n R S C := ⟨h.2.1, ⟨h.2.2.1.1, h.2.2.1.2.1, h.2.2.1.2.2.1⟩, h.2.2.2.1⟩
theorem cB_eq {σ τ : kS} {n R S C : Nat} (e : ∀ c, 13 ≤ c → c < 181 → τ c = σ c) (h : cB σ n R S C) : cB τ n R S C := by
  obtain ⟨h1, ⟨a1, a2, a3⟩, h3⟩ := h
  refine ⟨cRo_gr (Nat.le_refl _) (fun c c1 c2 => e c c1 (by omega)) h1, ⟨a1, by rw [e 13 (by decide) (by decide)]; exact a2, by rw [e 15 (by decide) (by decide)]; exact a3⟩, cCl_eq (by rw [e 13 (by decide) (by decide)]) (fun c c1 c2 => e c (by omega) (by omega)) h3⟩
end
section
/-! the class: receive -/
theorem kX_acpyN {T : List jC} {L : Nat} {xs : Nat → Int32} {d mi pc : Nat} {lv : jL} {σ : kS} {Q : Option Value → kS → Prop} {x y z : Int32} {a0 a n0 n1 idx : Nat} {f0 g0 : Nat → Int32} {rest : List Value} (hi : jm_ins mi pc = some (.invokestatic idx, 3)) (hm : jm_mm (jm_own mi) idx = none) (hc : jm_ac (jm_own mi) idx = true) (ht : jm_mth (jm_own mi) idx = none) (h0 : T[a0]? = some (.inl (0, n0, .inl f0))) (h1 : T[a]? = some (.inl (0, n1, .inl g0))) (sp dp n : Nat) (hx : x = nI sp) (hy : y = nI dp) (hz : z = nI n) (b0 : sp + n ≤ n0) (b1 : dp + n ≤ n1) (m0 : n0 ≤ 100000) (m1 : n1 ≤ 100000) (hr : (rest.map fun v => v.category).sum ≤ 8) (g : kX T L xs (d + 1) mi (pc + 3) lv rest (va_up σ a (va_cpy (σ a0) (σ a) sp dp n)) Q) : kX T L xs (d + 1) mi pc lv (.int z :: .int y :: .ref a :: .int x :: .ref a0 :: rest) σ Q := by
  subst hx hy hz
  have c1 : (nI sp).toNatClampNeg = sp := nI_clamp (by omega)
  have c2 : (nI dp).toNatClampNeg = dp := nI_clamp (by omega)
  have c3 : (nI n).toNatClampNeg = n := nI_clamp (by omega)
  have p1 : ¬ nI sp < 0 := nI_pos (by omega)
  have p2 : ¬ nI dp < 0 := nI_pos (by omega)
  have p3 : ¬ nI n < 0 := nI_pos (by omega)
  exact kX_one (by unfold kone; rw [hi]; simp [jlen, kplain, jend, jcall, jA, kH, hm, hc, ht, h0, h1, p1, p2, p3, c1, c2, c3, b0, b1, hr]) g
end
section
/-! the class: row -/
def pv : Nat → Int32
  | 0 => -1
  | i + 1 => nI i
theorem pv_sub (q : Nat) : nI q - Int32.ofInt 1 = pv q := by
  cases q with
  | zero => rfl
  | succ i => exact nI_pred i
theorem pv_dec (i : Nat) : pv i = nI i + -1 := by
  rw [← pv_sub, Int32.sub_eq_add_neg]
  rfl
/-- what is kept while numbers are given -/
def gN (σ : kS) (n u : Nat) : Prop := nB σ 186 200 n u ∧ cKe σ 186 200 u ∧ cKg σ n 200 u ∧ cT σ n
end
section
/-! the class: the STATES of the search -/
def stA (σ τ : kS) (N : Nat) (f s : Int32) : Prop := (∀ c, c < 196 ∨ 202 ≤ c → τ c = σ c) ∧ τ 197 = va_cpy (σ 202) (σ 197) 0 (28 * N) 28 ∧ τ 198 = upd (σ 198) N f ∧ τ 199 = upd (σ 199) N s ∧ τ 196 5 = nI (N + 1)
end
section
/-! the class: the ways to receive -/
theorem op_at {k : Nat} (h : k < 4) : (fun i => ([224, 225, 226, 227] : List Nat)[i]?) k = some (224 + k) := by
  have : k = 0 ∨ k = 1 ∨ k = 2 ∨ k = 3 := by omega
  rcases this with rfl | rfl | rfl | rfl <;> rfl
theorem kT_op {k : Nat} (h : k < 4) : kT[224 + k]? = some (.inl (0, 200, .inl (fun _ => 0))) := by
  have : k = 0 ∨ k = 1 ∨ k = 2 ∨ k = 3 := by omega
  rcases this with rfl | rfl | rfl | rfl <;> rfl
end
section
/-! the class: choose, first, next -/
theorem ev_b (r k i : Nat) (hr : r < 4) (hk : k < 6) (hi : i < 5) : 28 + 35 * r + 5 * k + i < 163 := by omega
/-- only the way has changed -/
def fF (σ τ : kS) : Prop := ∀ c, c ≠ 222 → c ≠ 229 → c ≠ 202 → τ c = σ c
end
section
/-! the class: the search -/
def sF (σ τ : kS) : Prop := (∀ c, c < 195 ∨ 232 ≤ c → c ≠ 2 → c ≠ 3 → c ≠ 4 → c ≠ 5 → c ≠ 6 → τ c = σ c) ∧ ∀ j, j < 776 → τ 2 j = σ 2 j ∧ τ 3 j = σ 3 j ∧ τ 4 j = σ 4 j ∧ τ 6 j = σ 6 j
theorem sF_trans {σ τ ρ : kS} (h1 : sF σ τ) (h2 : sF τ ρ) : sF σ ρ := ⟨fun c a1 a2 a3 a4 a5 a6 => (h2.1 c a1 a2 a3 a4 a5 a6).trans (h1.1 c a1 a2 a3 a4 a5 a6), fun j hj => ⟨(h2.2 j hj).1.trans (h1.2 j hj).1, (h2.2 j hj).2.1.trans (h1.2 j hj).2.1, (h2.2 j hj).2.2.1.trans (h1.2 j hj).2.2.1, (h2.2 j hj).2.2.2.trans (h1.2 j hj).2.2.2⟩⟩
theorem sF_of {σ τ : kS} (e : ∀ c, c < 195 ∨ 232 ≤ c → τ c = σ c) : sF σ τ := ⟨fun c a1 _ _ _ _ _ => e c a1, fun j _ => by
  rw [e 2 (by decide), e 3 (by decide), e 4 (by decide), e 6 (by decide)]
  exact ⟨rfl, rfl, rfl, rfl⟩⟩
theorem sF_13 {σ τ : kS} (h : sF σ τ) (c : Nat) (h1 : 13 ≤ c) (h2 : c < 195) : τ c = σ c := h.1 c (Or.inl h2) (by omega) (by omega) (by omega) (by omega) (by omega)
theorem sF_g {σ τ : kS} (h : sF σ τ) : τ 8 = σ 8 := h.1 _ (by decide) (by decide) (by decide) (by decide) (by decide) (by decide)
theorem cT_sF {σ τ : kS} {n : Nat} (h : sF σ τ) (hT : cT σ n) : cT τ n := by
  have hn := hT.1
  exact cT_eq (by rw [h.1 1 (by decide) (by decide) (by decide) (by decide) (by decide) (by decide)]) (h.1 _ (by decide) (by decide) (by decide) (by decide) (by decide) (by decide)) (fun u hu => ⟨(h.2 u (by omega)).1, (h.2 u (by omega)).2.1, (h.2 u (by omega)).2.2.1, by rw [sF_g h], by rw [h.1 12 (by decide) (by decide) (by decide) (by decide) (by decide) (by decide)], (h.2 u (by omega)).2.2.2⟩) hT
def tpI (f : Nat → Int32) (l : Nat) : Nat → Nat
  | 0 => l
  | i + 1 => fN (f (tpI f l i))
end
section
/-! the class: tryWays -/
theorem lw_le {w v : Int64} (q : jcmp .le (lg_cmp w v) 0 = true) : w ≤ v := by
  have q : lg_cmp w v ≤ 0 := of_decide_eq_true q
  unfold lg_cmp at q
  by_cases e : w > v
  · rw [if_pos e] at q
    exact absurd q (by decide)
  · rw [Int64.le_iff_toInt_le]
    have e : ¬ v < w := e
    rw [Int64.lt_iff_toInt_lt] at e
    omega
end
section
/-! the class: goThrough, start, search -/
theorem ix28 (i : Nat) : nI i * (Int8.ofInt 28).toInt32 = nI (28 * i) := by
  rw [show (Int8.ofInt 28).toInt32 = nI 28 from rfl, pk_mul, Nat.mul_comm i 28]
end
section
/-! the class: play -/
theorem max_ok (k : Nat) (h : k < 2147483648) : jmmv 1 0 (nI k) = nI k := by
  unfold jmmv
  rw [if_pos rfl]
  by_cases e : (0 : Int32) < nI k
  · rw [if_pos e]
  · rw [if_neg e]
    rw [Int32.lt_iff_toInt_lt, nI_toInt h] at e
    have : (0 : Int32).toInt = 0 := rfl
    have : k = 0 := by omega
    rw [this]
    rfl
set_option maxRecDepth 100000 in
set_option maxHeartbeats 4000000 in
theorem mc_attackBase (L : Nat) (xs : Nat → Int32) (d : Nat) (σ : kS) (N : Nat) (hN : N < 600) (hc : σ 196 5 = nI (N + 1)) : kXM kT L xs (d + 1) 78 [.ref 195] σ (fun r σ' => r = some (.int (nI (28 * N))) ∧ σ = σ') := by
  unfold kXM
  iterate 4 (refine kX_one rfl ?_)
  refine kX_top (hc) ?_
  iterate 2 (refine kX_one rfl ?_)
  refine kX_top (y := nI N) (nI_pred N) ?_
  iterate 1 (refine kX_one rfl ?_)
  refine kX_top (y := nI N) (max_ok N (by omega)) ?_
  iterate 2 (refine kX_one rfl ?_)
  refine kX_top (y := nI (28 * N)) (ix28 N) ?_
  refine kX_ret (i := .ireturn) (len := 1) rfl (Or.inr rfl) rfl (⟨rfl, rfl⟩)
end
section
/-! the start again: besides, no part can be made yet -/
def kzr (h : List jC) (k n : Nat) : Bool := match h[k]? with
  | some c => (List.range n).all (fun j => decide (kcon c j = 0))
  | none => false
theorem kzr_ok {h : List jC} {k n j : Nat} (hh : kzr h k n = true) (hj : j < n) : kof h k j = 0 := by
  unfold kzr at hh
  unfold kof
  split at hh
  · next c hc =>
    rw [hc]
    exact of_decide_eq_true (List.all_eq_true.mp hh j (List.mem_range.mpr hj))
  · cases hh
end
section
/-! the class at first -/
theorem cJ_0 {h0 : List jC} (hs : kshps kT h0 = true) (h7 : ∀ j, j < 256 → kof h0 7 j = -1) (h187 : ∀ j, j < 256 → kof h0 187 j = -1) (h205 : ∀ j, j < 256 → kof h0 205 j = -1) (h214 : ∀ j, j < 256 → kof h0 214 j = -1) (h231 : ∀ j, j < 200 → kof h0 231 j = 0) : cJ (kof h0) 0 0 0 0 := by
  have v : ∀ {p : Nat → Prop} {t : Nat}, t < 0 → p t := fun h => absurd h (Nat.not_lt_zero _)
  have kw : ∀ K st, isK K st → (∀ j, j < 256 → kof h0 (K + 1) j = -1) → cKw (kof h0) K st := fun K st hK hh => ⟨kof_obj hs (kT_kn hK) rfl, 0, 0, by decide, by decide, kof_obj hs (kT_kn hK) rfl, kof_obj hs (kT_kn hK) rfl, fun i hi => absurd hi (Nat.not_lt_zero i), fun s hs' => Or.inl (hh s hs'), fun g g1 g2 => absurd g2 (by omega)⟩
  refine ⟨⟨by decide, kof_obj (k := 1) hs rfl rfl, fun s hs' => Or.inl (h7 s hs'), fun t ht => absurd ht (Nat.not_lt_zero t)⟩, ⟨by decide, kof_obj (k := 13) hs rfl rfl, fun r hr => absurd hr (Nat.not_lt_zero r)⟩, ⟨by decide, kof_obj (k := 13) hs rfl rfl, fun s hs' => absurd hs' (Nat.not_lt_zero s), fun s k hs' _ => absurd hs' (Nat.not_lt_zero s)⟩, ⟨by decide, kof_obj (k := 13) hs rfl rfl, fun c hc => absurd hc (Nat.not_lt_zero c)⟩, ⟨0, by decide, kof_obj (k := 13) hs rfl rfl⟩, kw 186 200 (Or.inl ⟨rfl, rfl⟩) h187, kw 204 776 (Or.inr (Or.inl ⟨rfl, rfl⟩)) h205, kw 213 1352 (Or.inr (Or.inr ⟨rfl, rfl⟩)) h214, Or.inl (kof_obj (k := 181) hs rfl rfl), cSr_0 (kof_obj (k := 196) hs rfl rfl) (kof_obj (k := 195) hs rfl rfl), ⟨fun j hj => Or.inl (h231 j hj), 0, by decide, kof_obj (k := 222) hs rfl rfl⟩⟩
end
section
/-! one side's call leaves the other side's invariant -/
def hiS (σ τ : kS) : kS := fun c => if 232 ≤ c then σ c else τ c
theorem mI_hiS {σ τ : kS} {n b R S C : Nat} {kl : List Nat} (h : mI σ n b R S C kl) : mI (hiS σ τ) n b R S C kl := by
  obtain ⟨g1, g2, g3, g4, g5, g6, g7⟩ := h
  refine ⟨g1, g2, g3, g4, g5, ?_, ?_⟩
  · rcases g6 with g6 | ⟨g6, ds, d1, d2, d3⟩
    · exact Or.inl g6
    · refine Or.inr ⟨g6, ds, d1, d2, ?_⟩
      rcases d3 with d3 | ⟨d3, d4, l, l1, l2, l3⟩
      · exact Or.inl d3
      · refine Or.inr ⟨d3, d4, l, l1, l2, ?_⟩
        rw [trRun_eq (σ := σ) (τ := hiS σ τ) ⟨rfl, rfl, rfl, rfl, rfl, rfl, rfl, rfl, rfl⟩, ← l3]
        rfl
  · exact g7
theorem mI_hi {σ τ : kS} {n b R S C : Nat} {kl : List Nat} (e : ∀ c, 232 ≤ c → τ c = σ c) (h : mI σ n b R S C kl) : mI τ n b R S C kl := by
  have : τ = hiS σ τ := funext fun c => by
    unfold hiS
    by_cases hc : 232 ≤ c
    · rw [if_pos hc]
      exact e c hc
    · rw [if_neg hc]
  rw [this]
  exact mI_hiS h
end
section
/-! .. and the class's -/
theorem cJ_low {σ τ : kS} {n R S C : Nat} (e : ∀ c, c < 232 → τ c = σ c) (h : cJ σ n R S C) : cJ τ n R S C := by
  obtain ⟨h1, h2, h3, h4, h5, h6, h7, h8, h9, h10, h11⟩ := h
  have hg : ∀ z, z < n → τ 8 z = σ 8 z := fun z _ => by rw [e _ (by decide)]
  have hgt : ∀ g, 200 ≤ g → τ 2 g = σ 2 g ∧ τ 3 g = σ 3 g ∧ τ 4 g = σ 4 g ∧ τ 6 g = σ 6 g := fun g _ => by
    rw [e 2 (by decide), e 3 (by decide), e 4 (by decide), e 6 (by decide)]
    exact ⟨rfl, rfl, rfl, rfl⟩
  refine ⟨cT_eq (by rw [e 1 (by decide)]) (e _ (by decide)) (fun u _ => ⟨by rw [e 2 (by decide)], by rw [e 3 (by decide)], by rw [e 4 (by decide)], by rw [e 8 (by decide)], by rw [e 12 (by decide)], by rw [e 6 (by decide)]⟩) h1, cRo_gr (Nat.le_refl _) (fun c c1 c2 => e c (by omega)) h2, cSe_eq hg (by rw [e 13 (by decide)]) (e _ (by decide)) (e _ (by decide)) h3, cCl_eq (by rw [e 13 (by decide)]) (fun c c1 c2 => e c (by omega)) h4, cKn_eq (by rw [e 13 (by decide)]) h5, cKw_eq (by decide) (e _ (by decide)) (e _ (by decide)) (e _ (by decide)) hgt h6, cKw_eq (by decide) (e _ (by decide)) (e _ (by decide)) (e _ (by decide)) hgt h7, cKw_eq (by decide) (e _ (by decide)) (e _ (by decide)) (e _ (by decide)) hgt h8, ?_, cSr_eq hg (by rw [e 196 (by decide)]) (e _ (by decide)) (e _ (by decide)) (e _ (by decide)) (by rw [e 195 (by decide)]) (e _ (by decide)) h10, cQ_eq (e _ (by decide)) (e _ (by decide)) h11⟩
  unfold cRu
  rw [e 181 (by decide), e 183 (by decide), e 182 (by decide), e 186 (by decide)]
  rcases h9 with q | ⟨q1, q2, q3, q4⟩
  · exact Or.inl q
  · refine Or.inr ⟨q1, q2, cV_eq hg q3, ?_⟩
    rcases q4 with q4 | ⟨g, g1, g2, g3⟩
    · exact Or.inl q4
    · refine Or.inr ⟨g, g1, g2, fun hgn => ?_⟩
      obtain ⟨u, u1, u2, u3⟩ := g3 hgn
      exact ⟨u, u1, u2, cKg_eq hg (fun g _ _ => ⟨by rw [e 3 (by decide)], by rw [e 4 (by decide)]⟩) u3⟩
end
section
/-! alike: the class's table as the reference's -/
/-- the class's place of a TERM -/
def cpt (σ : kS) (t : Nat) : Nat := fN (cSl (σ 2 t) (σ 3 t) (σ 4 t))
/-- TERM t is the same on both sides -/
def aT1 (σ : kS) (t : Nat) : Prop := σ 2 t = σ 233 t ∧ σ 3 t = σ 234 t ∧ σ 4 t = σ 235 t ∧ σ 5 t = σ 236 t ∧ σ 8 t = σ 237 t ∧ (σ 233 t = nI 0 → σ 9 t = σ 238 t) ∧ (σ 233 t = nI 3 → σ 10 t = σ 239 t ∧ σ 11 t = σ 240 t ∧ σ 12 t = σ 241 t)
/-- the class's chains -/
def cCn (σ : kS) (n : Nat) : Prop := hcP 256 1928 (fun t => t < n ∧ 3 < fN (σ 2 t)) (cpt σ) (σ 7) (σ 6)
def aT (σ : kS) (n : Nat) : Prop := (∀ t, t < n → aT1 σ t) ∧ cCn σ n
def cIs (σ : kS) (t : Nat) (w x y : Int32) : Prop := σ 2 t = w ∧ σ 3 t = x ∧ σ 4 t = y
/-- what a search in a chain gives -/
def cFn (σ : kS) (P : Nat → Prop) (w x y : Int32) (r : Option Value) : Prop := (r = some (.int (-1)) ∧ ∀ t, P t → ¬ cIs σ t w x y) ∨ ∃ t, P t ∧ r = some (.int (nI t)) ∧ cIs σ t w x y
set_option maxRecDepth 100000 in
set_option maxHeartbeats 4000000 in
theorem mf_findFrom (L : Nat) (xs : Nat → Int32) (d : Nat) (σ : kS) (P : Nat → Prop) (c w x y : Int32) (hP : ∀ t, P t → t < 1928 ∧ isTop P t (σ 6 t)) (hc : isTop P 1928 c) : kXM kT L xs (d + 1) 103 [.ref 1, .int c, .int w, .int x, .int y] σ (fun r σ' => cFn σ P w x y r ∧ σ = σ') := by
  unfold kXM
  have k79 : ∀ lv, (∀ t, P t → ¬ cIs σ t w x y) → kX kT L xs (d + 1) 103 79 lv [] σ (fun r σ' => cFn σ P w x y r ∧ σ = σ') := by
    intro lv hq
    iterate 1 (refine kX_one rfl ?_)
    refine kX_ret (i := .ireturn) (len := 1) rfl (Or.inr rfl) rfl (⟨Or.inl ⟨rfl, hq⟩, rfl⟩)
  have loop : ∀ q : Nat × Nat × Int32, (q.1 + q.2.1 ≤ 1928 ∧ isTop P q.2.1 q.2.2 ∧ ∀ t, P t → q.2.1 ≤ t → ¬ cIs σ t w x y) → kX kT L xs (d + 1) 103 6 [(6, .int (nI q.1)), (5, .int q.2.2), (0, .ref 1), (1, .int c), (2, .int w), (3, .int x), (4, .int y)] [] σ (fun r σ' => cFn σ P w x y r ∧ σ = σ') := by
    refine kX_while (fun q : Nat × Nat × Int32 => [(6, .int (nI q.1)), (5, .int q.2.2), (0, .ref 1), (1, .int c), (2, .int w), (3, .int x), (4, .int y)]) (fun _ => σ) _ (fun q => 1928 - q.1) ?_
    rintro ⟨m, bd, a⟩ ⟨i1, i2, i3⟩ ih
    dsimp only at i1 i2 i3 ih ⊢
    iterate 2 (refine kX_one rfl ?_)
    repeat refine kX_one rfl ?_
    refine kX_if (fun q => ?_) (fun q => ?_)
    · have q := qge q m 1928
      exact k79 _ (fun t ht => i3 t ht (by omega))
    · have q := qgeF q m 1928
      rcases i2 with ⟨rfl, i2⟩ | ⟨t, htb, rfl, hPt, i2⟩
      · iterate 2 (refine kX_one rfl ?_)
        exact k79 _ (fun t ht => by
          by_cases e : bd ≤ t
          · exact i3 t ht e
          · exact absurd ht (i2 t (by omega)))
      · have ht := (hP t hPt).1
        iterate 1 (refine kX_one rfl ?_)
        repeat refine kX_one rfl ?_
        refine kX_ifF (decide_eq_false (nI_pos (by omega))) ?_
        iterate 2 (refine kX_one rfl ?_)
        repeat refine kX_one rfl ?_
        refine kX_if (fun q2 => ?_) (fun q2 => ?_)
        · have q2 := qge q2 t 1928
          omega
        · have k64 : ¬ cIs σ t w x y → kX kT L xs (d + 1) 103 64 [(6, .int (nI m)), (5, .int (nI t)), (0, .ref 1), (1, .int c), (2, .int w), (3, .int x), (4, .int y)] [] σ (fun r σ' => cFn σ P w x y r ∧ σ = σ') := by
            intro hne
            iterate 3 (refine kX_one rfl ?_)
            refine kX_ialdN rfl rfl (by decide) (t) (by first | rfl | decide) (ht) ?_
            iterate 3 (refine kX_one rfl ?_)
            have := ih (m + 1, t, σ 6 t) ⟨by simp only; omega, (hP t hPt).2, fun u hu hut => by
              simp only at hut
              by_cases e : u = t
              · subst e
                exact hne
              · by_cases e2 : bd ≤ u
                · exact i3 u hu e2
                · exact absurd hu (i2 u (by omega) (by omega))⟩ (by simp only; omega)
            dsimp only at this
            rw [← nI_1] at this
            exact kX_lv _ rfl rfl rfl this
          iterate 3 (refine kX_one rfl ?_)
          refine kX_ialdN rfl rfl (by decide) (t) (by first | rfl | decide) (ht) ?_
          iterate 1 (refine kX_one rfl ?_)
          repeat refine kX_one rfl ?_
          refine kX_if (fun q3 => ?_) (fun q3 => ?_)
          · exact k64 (fun z => qne q3 z.1)
          · have q3 : σ 2 t = w := qneF q3
            iterate 3 (refine kX_one rfl ?_)
            refine kX_ialdN rfl rfl (by decide) (t) (by first | rfl | decide) (ht) ?_
            iterate 1 (refine kX_one rfl ?_)
            repeat refine kX_one rfl ?_
            refine kX_if (fun q4 => ?_) (fun q4 => ?_)
            · exact k64 (fun z => qne q4 z.2.1)
            · have q4 : σ 3 t = x := qneF q4
              iterate 3 (refine kX_one rfl ?_)
              refine kX_ialdN rfl rfl (by decide) (t) (by first | rfl | decide) (ht) ?_
              iterate 1 (refine kX_one rfl ?_)
              repeat refine kX_one rfl ?_
              refine kX_if (fun q5 => ?_) (fun q5 => ?_)
              · exact k64 (fun z => qne q5 z.2.2)
              · have q5 : σ 4 t = y := qneF q5
                iterate 1 (refine kX_one rfl ?_)
                refine kX_ret (i := .ireturn) (len := 1) rfl (Or.inr rfl) rfl (⟨Or.inr ⟨t, hPt, rfl, q3, q4, q5⟩, rfl⟩)
  iterate 4 (refine kX_one rfl ?_)
  exact kX_lv _ rfl rfl rfl (loop (0, 1928, c) ⟨Nat.le_refl _, hc, fun t ht q => by
    have := (hP t ht).1
    simp only at q
    omega⟩)
theorem cSl_ok (w x y : Int32) : fN (cSl w x y) < 256 ∧ cSl w x y = nI (fN (cSl w x y)) := by
  obtain ⟨k, k1, k2⟩ := cSl_lt w x y
  rw [k2, fN_nI (by omega)]
  exact ⟨k1, rfl⟩
/-- only one chain is looked through -/
theorem cFn_all {σ : kS} {V : Nat → Prop} {w x y : Int32} {r : Option Value} (h : cFn σ (fun t => V t ∧ cpt σ t = fN (cSl w x y)) w x y r) : cFn σ V w x y r := by
  rcases h with ⟨h1, h2⟩ | ⟨t, h1, h2, h3⟩
  · refine Or.inl ⟨h1, fun t ht q => h2 t ⟨ht, ?_⟩ q⟩
    unfold cpt
    rw [q.1, q.2.1, q.2.2]
  · exact Or.inr ⟨t, h1.1, h2, h3⟩
set_option maxRecDepth 100000 in
set_option maxHeartbeats 4000000 in
theorem mf_find (L : Nat) (xs : Nat → Int32) (d : Nat) (σ : kS) (n : Nat) (w x y : Int32) (hn : n ≤ 200) (h : cCn σ n) : kXM kT L xs (d + 2) 102 [.ref 1, .int w, .int x, .int y] σ (fun r σ' => cFn σ (fun t => t < n ∧ 3 < fN (σ 2 t)) w x y r ∧ σ = σ') := by
  unfold kXM
  iterate 6 (refine kX_one rfl ?_)
  refine kX_cal (mc_slot L xs d σ w x y) rfl (Or.inr rfl) rfl rfl rfl (fun r1 σ1 q1 => ?_)
  obtain ⟨rfl, rfl⟩ := q1
  obtain ⟨s1, s2⟩ := cSl_ok w x y
  refine kX_ialdN rfl rfl (by decide) (fN (cSl w x y)) (s2) (s1) ?_
  iterate 3 (refine kX_one rfl ?_)
  refine kX_cal (mf_findFrom L xs d σ (fun t => (t < n ∧ 3 < fN (σ 2 t)) ∧ cpt σ t = fN (cSl w x y)) (σ 7 (fN (cSl w x y))) w x y (fun t ht => ⟨by omega, ?_⟩) (h.1 _ s1)) rfl (Or.inr rfl) rfl rfl rfl (fun r1 σ1 q1 => ?_)
  · have := h.2 t ht.1
    rw [ht.2] at this
    exact this
  · obtain ⟨hq, rfl⟩ := q1
    have hq := cFn_all hq
    have hr : ∃ v, r1 = some (.int v) := by
      rcases hq with ⟨e, -⟩ | ⟨t, -, e, -⟩
      · exact ⟨_, e⟩
      · exact ⟨_, e⟩
    obtain ⟨v, rfl⟩ := hr
    refine kX_ret (i := .ireturn) (len := 1) rfl (Or.inr rfl) rfl (⟨hq, rfl⟩)
/-- the SIZE of what may be there -/
noncomputable def czs (σ : kS) (n : Nat) (x : Int32) : Int32 := cit (isN x n) (σ 5 (fN x)) 0
theorem czs_of {σ : kS} {n : Nat} {x y : Int32} (hn : n ≤ 200) (h1 : ∀ t, t < n → x = nI t → y = σ 5 t) (h2 : ¬ isN x n → y = 0) : y = czs σ n x := by
  unfold czs
  by_cases h : isN x n
  · rw [cit_T h]
    obtain ⟨t, t1, rfl⟩ := h
    rw [fN_nI (by omega)]
    exact h1 t t1 rfl
  · rw [cit_F h]
    exact h2 h
theorem czs_t {σ : kS} {n t : Nat} (ht : t < n) (hn : n ≤ 200) : czs σ n (nI t) = σ 5 t := by
  unfold czs
  rw [cit_T ⟨t, ht, rfl⟩, fN_nI (by omega)]
theorem czs_m1 {σ : kS} {n : Nat} (hn : n ≤ 200) : czs σ n (-1) = 0 := cit_F (fun ⟨j, j1, j2⟩ => nI_m1 (by omega) j2.symm)
set_option maxRecDepth 100000 in
set_option maxHeartbeats 4000000 in
theorem mf_sizeOf (L : Nat) (xs : Nat → Int32) (d : Nat) (σ : kS) (n : Nat) (x : Int32) (hn : n ≤ 200) (h : σ 1 11 = nI n) : kXM kT L xs (d + 2) 101 [.ref 1, .int x] σ (fun r σ' => r = some (.int (czs σ n x)) ∧ σ = σ') := by
  refine kX_post (mc_sizeOf L xs d σ n x hn h) (fun r σ' q => ?_)
  obtain ⟨⟨y, rfl, h1, h2⟩, rfl⟩ := q
  exact ⟨by rw [czs_of hn h1 h2], rfl⟩
end
section
/-! alike: new TERMS of the class, to the letter -/
theorem isB_1 {P : Prop} : isB P = 1 ↔ P := ⟨fun h => Classical.byContradiction (fun n => by rw [isB_F n] at h; exact absurd h (by decide)), isB_T⟩
theorem isB_of {P : Prop} {g : Int32} (hg : g = 0 ∨ g = 1) (h : g = 1 ↔ P) : isB P = g := by
  by_cases hp : P
  · rw [isB_T hp, h.mpr hp]
  · rw [isB_F hp]
    rcases hg with rfl | rfl
    · rfl
    · exact absurd (h.mp rfl) hp
set_option maxRecDepth 100000 in
set_option maxHeartbeats 4000000 in
theorem mf_put (L : Nat) (xs : Nat → Int32) (d : Nat) (σ : kS) (n : Nat) (w x y : Int32) (hn : n ≤ 200) (h : σ 1 11 = nI n) (h01 : ∀ z, z < n → σ 8 z = 0 ∨ σ 8 z = 1) : kXM kT L xs (d + 3) 107 [.ref 1, .int w, .int x, .int y] σ (fun r σ' => (n = 200 ∧ r = some (.int (-1)) ∧ σ = σ') ∨ (n < 200 ∧ r = some (.int (nI n)) ∧ σ' = cPut σ n w x y (1 + czs σ n x + czs σ n y) (isB (cG σ n x ∧ cG σ n y)))) := by
  unfold kXM
  iterate 1 (refine kX_one rfl ?_)
  refine kX_cal (mc_isFull L xs (d + 1) σ n hn h) rfl (Or.inr rfl) rfl rfl rfl (fun r1 σ1 q1 => ?_)
  obtain ⟨rfl, rfl⟩ := q1
  repeat refine kX_one rfl ?_
  refine kX_if (fun q => ?_) (fun q => ?_)
  · have hlt : n < 200 := by
      have : ¬ n = 200 := fun z => isB_ne.mpr z (qeq q)
      omega
    have hρ : cP3 σ n w x y 1 11 = nI n := h
    have k104 : ∀ z g, z = 1 + czs σ n x + czs σ n y → (g = 0 ∨ g = 1) → (g = 1 ↔ cG σ n x ∧ cG σ n y) → kX kT L xs (d + 3) 107 104 [(4, .int (nI n)), (0, .ref 1), (1, .int w), (2, .int x), (3, .int y)] [.int g, .int (nI n), .ref 8] (va_up (cP3 σ n w x y) 5 (upd (σ 5) n z)) (fun r σ' => (n = 200 ∧ r = some (.int (-1)) ∧ σ = σ') ∨ (n < 200 ∧ r = some (.int (nI n)) ∧ σ' = cPut σ n w x y (1 + czs σ n x + czs σ n y) (isB (cG σ n x ∧ cG σ n y)))) := by
      intro z g hz hg hgc
      refine kX_bastN rfl rfl (by decide) (n) (by first | rfl | decide) (hlt) (hg) ?_
      iterate 4 (refine kX_one rfl ?_)
      refine kX_bastN rfl rfl (by decide) (n) (by first | rfl | decide) (hlt) (Or.inl rfl) ?_
      iterate 5 (refine kX_one rfl ?_)
      refine kX_st (cPut σ n w x y z g) ?_ ?_
      · unfold cPut
        rw [← nI_1]
        funext c; unfold cP3; first
          | ((repeat (refine va_case ?_ ?_; (· (intro h; first | (subst h; rfl) | (unfold va_up; repeat' split; (all_goals first | rfl | omega | (subst_vars; rfl) | (funext j; unfold upd; repeat' split; all_goals first | rfl | omega | (subst_vars; rfl)))))); intro h)); (repeat (refine va_case2 ?_ ?_; (· (intro h; first | exact absurd h (by assumption) | (subst h; rfl) | (subst h; funext j; unfold upd; repeat' split; (all_goals first | rfl | omega | (subst_vars; rfl))))); intro h)); rfl)
          | (unfold va_up; repeat' split
             all_goals first | rfl | omega | (subst_vars; rfl) | (funext j; unfold upd; repeat' split; all_goals first | rfl | omega | (subst_vars; rfl)))
      iterate 1 (refine kX_one rfl ?_)
      refine kX_ret (i := .ireturn) (len := 1) rfl (Or.inr rfl) rfl (Or.inr ⟨hlt, rfl, by rw [hz, isB_of hg hgc]⟩)
    have hgx : ∀ c : Int32, isB (isN c n) = 0 → cG σ n c := fun c hc z z1 z2 => absurd hc (isB_ne.mpr ⟨z, z1, z2⟩)
    have hgy : ∀ t, t < n → σ 8 t = 1 → cG σ n (nI t) := fun t ht hg z z1 z2 => by
      rw [← nI_inj z2]
      exact hg
    have hgz : ∀ t, t < n → σ 8 t = 0 → ¬ cG σ n (nI t) := fun t ht hg z => by
      have := z t ht rfl
      rw [hg] at this
      exact absurd this (by decide)
    have h1of : ∀ t, t < n → σ 8 t ≠ 0 → σ 8 t = 1 := fun t ht q => (h01 t ht).elim (fun z => absurd z q) id
    have k82 : ∀ z, z = 1 + czs σ n x + czs σ n y → cG σ n x → kX kT L xs (d + 3) 107 82 [(4, .int (nI n)), (0, .ref 1), (1, .int w), (2, .int x), (3, .int y)] [.int (nI n), .ref 8] (va_up (cP3 σ n w x y) 5 (upd (σ 5) n z)) (fun r σ' => (n = 200 ∧ r = some (.int (-1)) ∧ σ = σ') ∨ (n < 200 ∧ r = some (.int (nI n)) ∧ σ' = cPut σ n w x y (1 + czs σ n x + czs σ n y) (isB (cG σ n x ∧ cG σ n y)))) := by
      intro z hz hx
      iterate 2 (refine kX_one rfl ?_)
      refine kX_cal (mc_has L xs (d + 1) _ n y hn hρ) rfl (Or.inr rfl) rfl rfl rfl (fun r1 σ1 q1 => ?_)
      obtain ⟨rfl, rfl⟩ := q1
      repeat refine kX_one rfl ?_
      refine kX_if (fun q2 => ?_) (fun q2 => ?_)
      · iterate 2 (refine kX_one rfl ?_)
        exact k104 z 1 hz (Or.inr rfl) ⟨fun _ => ⟨hx, hgx y (qeq q2)⟩, fun _ => rfl⟩
      · obtain ⟨t, t1, rfl⟩ := isB_ne.mp (qeqF q2)
        iterate 3 (refine kX_one rfl ?_)
        refine kX_baldN rfl rfl (by decide) (t) (by first | rfl | decide) (by omega) ?_
        repeat refine kX_one rfl ?_
        refine kX_if (fun q3 => ?_) (fun q3 => ?_)
        · have q3 : σ 8 t = 0 := qeq q3
          iterate 1 (refine kX_one rfl ?_)
          exact k104 z 0 hz (Or.inl rfl) ⟨fun z => absurd z (by decide), fun z => absurd z.2 (hgz t t1 q3)⟩
        · have q3 : σ 8 t ≠ 0 := qeqF q3
          iterate 2 (refine kX_one rfl ?_)
          exact k104 z 1 hz (Or.inr rfl) ⟨fun _ => ⟨hx, hgy t t1 (h1of t t1 q3)⟩, fun _ => rfl⟩
    iterate 2 (refine kX_one rfl ?_)
    refine kX_top (h) ?_
    iterate 5 (refine kX_one rfl ?_)
    refine kX_iastN rfl rfl (by decide) (n) (by first | rfl | decide) (by omega) ?_
    iterate 4 (refine kX_one rfl ?_)
    refine kX_iastN rfl rfl (by decide) (n) (by first | rfl | decide) (by omega) ?_
    iterate 4 (refine kX_one rfl ?_)
    refine kX_iastN rfl rfl (by decide) (n) (by first | rfl | decide) (by omega) ?_
    iterate 6 (refine kX_one rfl ?_)
    refine kX_cal (mf_sizeOf L xs d (cP3 σ n w x y) n x hn hρ) rfl (Or.inr rfl) rfl rfl rfl (fun r1 σ1 q1 => ?_)
    obtain ⟨rfl, rfl⟩ := q1
    iterate 3 (refine kX_one rfl ?_)
    refine kX_cal (mf_sizeOf L xs d (cP3 σ n w x y) n y hn hρ) rfl (Or.inr rfl) rfl rfl rfl (fun r1 σ1 q1 => ?_)
    obtain ⟨rfl, rfl⟩ := q1
    iterate 1 (refine kX_one rfl ?_)
    refine kX_iastN rfl rfl (by decide) (n) (by first | rfl | decide) (by omega) ?_
    refine kX_to [(4, .int (nI n)), (0, .ref 1), (1, .int w), (2, .int x), (3, .int y)] (va_up (cP3 σ n w x y) 5 (upd (σ 5) n (1 + czs σ n x + czs σ n y))) rfl rfl rfl rfl ?_
    iterate 5 (refine kX_one rfl ?_)
    refine kX_cal (mc_has L xs (d + 1) _ n x hn hρ) rfl (Or.inr rfl) rfl rfl rfl (fun r1 σ1 q1 => ?_)
    obtain ⟨rfl, rfl⟩ := q1
    repeat refine kX_one rfl ?_
    refine kX_if (fun q2 => ?_) (fun q2 => ?_)
    · exact k82 _ rfl (hgx x (qeq q2))
    · obtain ⟨t, t1, rfl⟩ := isB_ne.mp (qeqF q2)
      iterate 3 (refine kX_one rfl ?_)
      refine kX_baldN rfl rfl (by decide) (t) (by first | rfl | decide) (by omega) ?_
      repeat refine kX_one rfl ?_
      refine kX_if (fun q3 => ?_) (fun q3 => ?_)
      · have q3 : σ 8 t = 0 := qeq q3
        iterate 1 (refine kX_one rfl ?_)
        exact k104 _ 0 rfl (Or.inl rfl) ⟨fun z => absurd z (by decide), fun z => absurd z.1 (hgz t t1 q3)⟩
      · have q3 : σ 8 t ≠ 0 := qeqF q3
        exact k82 _ rfl (hgy t t1 (h1of t t1 q3))
  · have q := isB_ne.mp (qeqF q)
    repeat refine kX_one rfl ?_
    refine kX_ret (i := .ireturn) (len := 1) rfl (Or.inr rfl) rfl (Or.inl ⟨q, rfl, rfl⟩)
def cAt (σ : kS) (n k : Nat) (b : Int32) : kS := va_up (cPut σ n (nI k) (-1) (-1) 1 1) 9 (upd (upd (σ 9) n 0) n b)
def cVa (σ : kS) (n p : Nat) (r0 so : Int32) : kS := va_up (va_up (va_up (va_up (cPut σ n (nI 3) (-1) (-1) 1 1) 8 (upd (upd (σ 8) n 1) n 0)) 10 (upd (σ 10) n r0)) 12 (upd (σ 12) n (nI p))) 11 (upd (σ 11) n so)
noncomputable def cCo (σ : kS) (n k : Nat) (x y : Int32) : kS := va_up (va_up (cPut σ n (nI k) x y (1 + czs σ n x + czs σ n y) (isB (cG σ n x ∧ cG σ n y))) 6 (upd (σ 6) n (σ 7 (fN (cSl (nI k) x y))))) 7 (upd (σ 7) (fN (cSl (nI k) x y)) (nI n))
theorem cT_at {σ : kS} {n k : Nat} {b : Int32} (h : cT σ n) (hn : n < 200) (hk : k ≤ 2) : cT (cAt σ n k b) (n + 1) ∧ cGr σ (cAt σ n k b) n := by
  refine ⟨?_, cGr_trans (cGr_put σ n _ _ _ _ _ hn) (cGr_up (Or.inl rfl)) (Nat.le_refl _)⟩
  refine cT_push h hn rfl (fun u hu => ⟨pk_un (by omega), pk_un (by omega), pk_un (by omega), pk_un (by omega), rfl, rfl⟩) (fun s hs => Or.inl rfl) ?_
  exact cTt_new (k := k) pk_us pk_us pk_us pk_us (by omega) (Or.inl rfl) (Or.inl rfl) (Or.inr rfl) (fun q => by omega) (fun _ => ⟨fun _ => ⟨cG_m1 _ n (by omega), cG_m1 _ n (by omega)⟩, fun _ => rfl⟩) (fun _ => ⟨rfl, rfl⟩) (fun q => by omega) (fun q => by omega)
theorem cT_va {σ : kS} {n p : Nat} {r0 so : Int32} (h : cT σ n) (hn : n < 200) (hp : p < 6) : cT (cVa σ n p r0 so) (n + 1) ∧ cGr σ (cVa σ n p r0 so) n := by
  constructor
  · refine cT_push h hn rfl (fun u hu => ⟨pk_un (by omega), pk_un (by omega), pk_un (by omega), (pk_un (by omega)).trans (pk_un (by omega)), pk_un (by omega), rfl⟩) (fun s hs => Or.inl rfl) ?_
    exact cTt_new (k := 3) pk_us pk_us pk_us pk_us (by omega) (Or.inl rfl) (Or.inl rfl) (Or.inl rfl) (fun _ => ⟨rfl, p, hp, pk_us⟩) (fun q => absurd rfl q) (fun _ => ⟨rfl, rfl⟩) (fun q => by omega) (fun q => by omega)
  · refine ⟨fun c hc => ?_, fun u hu => (pk_un (by omega)).trans (pk_un (by omega)), fun g hg => ⟨pk_un (by omega), pk_un (by omega), pk_un (by omega), rfl⟩⟩
    simp only [tC, List.mem_cons, List.not_mem_nil, or_false, not_or] at hc
    simp [cVa, cPut, va_up, hc]
theorem cT_co {σ : kS} {n k : Nat} {x y : Int32} (h : cT σ n) (hn : n < 200) (hk : 4 ≤ k) (hk9 : k ≤ 9) (hx : cCh n x) (hy : cCh n y) (ho : ¬ (cG σ n x ∧ cG σ n y) → ∃ x', x' < n ∧ x = nI x' ∧ ((∃ y', y' < n ∧ y = nI y') ∨ (y = -1 ∧ (k = 7 ∨ k = 9)))) : cT (cCo σ n k x y) (n + 1) ∧ cGr σ (cCo σ n k x y) n := by
  obtain ⟨s1, s2⟩ := cSl_ok (nI k) x y
  have hh := h.2.2.1 _ s1
  have hG : ∀ c, cG (cCo σ n k x y) n c ↔ cG σ n c := fun c => cG_eq (fun u hu => pk_un (by omega))
  refine ⟨?_, ?_⟩
  · refine cT_push h hn rfl (fun u hu => ⟨pk_un (by omega), pk_un (by omega), pk_un (by omega), pk_un (by omega), rfl, pk_un (by omega)⟩) (fun s hs => ?_) ?_
    · by_cases e : s = fN (cSl (nI k) x y)
      · subst e
        refine Or.inr ⟨pk_us, ?_⟩
        show 4 ≤ fN (upd (σ 2) n (nI k) n)
        rw [pk_us, fN_nI (by omega)]
        exact hk
      · exact Or.inl (pk_un e)
    · refine cTt_new (k := k) pk_us pk_us pk_us pk_us hk9 hx hy (isB_01 _) (fun q => by omega) (fun _ => by rw [hG, hG]; exact isB_1) (fun q => by omega) (fun _ q => ho (fun z => ?_)) (fun _ => ?_)
      · rw [isB_T z] at q
        exact absurd q (by decide)
      · show upd (σ 6) n (σ 7 (fN (cSl (nI k) x y))) n = -1 ∨ ∃ u, u < n ∧ upd (σ 6) n (σ 7 (fN (cSl (nI k) x y))) n = nI u ∧ 4 ≤ fN (upd (σ 2) n (nI k) u)
        rw [pk_us]
        rcases hh with q | ⟨u, u1, u2, u3⟩
        · exact Or.inl q
        · exact Or.inr ⟨u, u1, u2, by rw [pk_un (by omega)]; exact u3⟩
  · refine ⟨fun c hc => ?_, fun u hu => pk_un (by omega), fun g hg => ⟨pk_un (by omega), pk_un (by omega), pk_un (by omega), pk_un (by omega)⟩⟩
    simp only [tC, List.mem_cons, List.not_mem_nil, or_false, not_or] at hc
    simp [cCo, cPut, va_up, hc]
theorem czs_11 {σ : kS} {n : Nat} (hn : n ≤ 200) : (1 + czs σ n (-1) + czs σ n (-1) : Int32) = 1 := by
  rw [czs_m1 hn]
  decide
theorem cG_11 {σ : kS} {n : Nat} (hn : n ≤ 200) : isB (cG σ n (-1) ∧ cG σ n (-1)) = 1 := isB_T ⟨cG_m1 σ n hn, cG_m1 σ n hn⟩
set_option maxRecDepth 100000 in
set_option maxHeartbeats 4000000 in
theorem mf_newAtom (L : Nat) (xs : Nat → Int32) (d : Nat) (σ : kS) (n k : Nat) (b : Int32) (h : cT σ n) (hk : k ≤ 2) (hb : b = 0 ∨ b = 1) (hn : n < 200) : kXM kT L xs (d + 4) 104 [.ref 1, .int (nI k), .int b] σ (fun r σ' => r = some (.int (nI n)) ∧ σ' = cAt σ n k b) := by
  unfold kXM
  iterate 4 (refine kX_one rfl ?_)
  refine kX_cal (mf_put L xs d σ n (nI k) (-1) (-1) h.1 h.2.1 (cT_01 h)) rfl (Or.inr rfl) rfl rfl rfl (fun r1 σ1 q1 => ?_)
  rcases q1 with ⟨q, -⟩ | ⟨-, rfl, rfl⟩
  · omega
  · rw [czs_11 h.1, cG_11 h.1]
    iterate 2 (refine kX_one rfl ?_)
    repeat refine kX_one rfl ?_
    refine kX_if (fun q => ?_) (fun q => ?_)
    · exact absurd (qeq q) (nI_m1 (by omega))
    · iterate 4 (refine kX_one rfl ?_)
      refine kX_bastN rfl rfl (by decide) (n) (by first | rfl | decide) (hn) (hb) ?_
      repeat refine kX_one rfl ?_
      refine kX_ret (i := .ireturn) (len := 1) rfl (Or.inr rfl) rfl (⟨rfl, rfl⟩)
set_option maxRecDepth 100000 in
set_option maxHeartbeats 4000000 in
theorem mf_newVariable (L : Nat) (xs : Nat → Int32) (d : Nat) (σ : kS) (n p : Nat) (r0 so : Int32) (h : cT σ n) (hn : n < 200) : kXM kT L xs (d + 4) 105 [.ref 1, .int r0, .int (nI p), .int so] σ (fun r σ' => r = some (.int (nI n)) ∧ σ' = cVa σ n p r0 so) := by
  unfold kXM
  iterate 4 (refine kX_one rfl ?_)
  refine kX_cal (mf_put L xs d σ n (nI 3) (-1) (-1) h.1 h.2.1 (cT_01 h)) rfl (Or.inr rfl) rfl rfl rfl (fun r1 σ1 q1 => ?_)
  rcases q1 with ⟨q, -⟩ | ⟨-, rfl, rfl⟩
  · omega
  · rw [czs_11 h.1, cG_11 h.1]
    iterate 3 (refine kX_one rfl ?_)
    repeat refine kX_one rfl ?_
    refine kX_if (fun q => ?_) (fun q => ?_)
    · exact absurd (qeq q) (nI_m1 (by omega))
    · iterate 4 (refine kX_one rfl ?_)
      refine kX_bastN rfl rfl (by decide) (n) (by first | rfl | decide) (hn) (Or.inl rfl) ?_
      iterate 4 (refine kX_one rfl ?_)
      refine kX_iastN rfl rfl (by decide) (n) (by first | rfl | decide) (hn) ?_
      iterate 4 (refine kX_one rfl ?_)
      refine kX_iastN rfl rfl (by decide) (n) (by first | rfl | decide) (hn) ?_
      iterate 4 (refine kX_one rfl ?_)
      refine kX_iastN rfl rfl (by decide) (n) (by first | rfl | decide) (hn) ?_
      repeat refine kX_one rfl ?_
      refine kX_ret (i := .ireturn) (len := 1) rfl (Or.inr rfl) rfl (⟨rfl, rfl⟩)
set_option maxRecDepth 100000 in
set_option maxHeartbeats 4000000 in
theorem mf_newCompound (L : Nat) (xs : Nat → Int32) (d : Nat) (σ : kS) (n k : Nat) (x y : Int32) (h : cT σ n) (hn : n < 200) : kXM kT L xs (d + 4) 106 [.ref 1, .int (nI k), .int x, .int y] σ (fun r σ' => r = some (.int (nI n)) ∧ σ' = cCo σ n k x y) := by
  unfold kXM
  iterate 4 (refine kX_one rfl ?_)
  refine kX_cal (mf_put L xs d σ n (nI k) x y h.1 h.2.1 (cT_01 h)) rfl (Or.inr rfl) rfl rfl rfl (fun r1 σ1 q1 => ?_)
  rcases q1 with ⟨q, -⟩ | ⟨-, rfl, rfl⟩
  · omega
  · iterate 3 (refine kX_one rfl ?_)
    repeat refine kX_one rfl ?_
    refine kX_if (fun q => ?_) (fun q => ?_)
    · exact absurd (qeq q) (nI_m1 (by omega))
    · iterate 3 (refine kX_one rfl ?_)
      refine kX_cal (mc_slot L xs (d + 2) _ (nI k) x y) rfl (Or.inr rfl) rfl rfl rfl (fun r1 σ1 q1 => ?_)
      obtain ⟨rfl, rfl⟩ := q1
      obtain ⟨s1, s2⟩ := cSl_ok (nI k) x y
      iterate 7 (refine kX_one rfl ?_)
      refine kX_ialdN rfl rfl (by decide) (fN (cSl (nI k) x y)) (s2) (s1) ?_
      refine kX_iastN rfl rfl (by decide) (n) (by first | rfl | decide) (by omega) ?_
      iterate 4 (refine kX_one rfl ?_)
      refine kX_iastN rfl rfl (by decide) (fN (cSl (nI k) x y)) (s2) (s1) ?_
      repeat refine kX_one rfl ?_
      refine kX_ret (i := .ireturn) (len := 1) rfl (Or.inr rfl) rfl (⟨rfl, rfl⟩)
end
section
/-! alike: all that both sides hold -/
/-- nothing: -1 of the class, -6 of the reference -/
def nnI (x : Int32) : Int32 := if x = -1 then -6 else x
noncomputable def fl (P : Nat → Prop) : List Nat → List Nat
  | [] => []
  | x :: l => cit (P x) (x :: fl P l) (fl P l)
/-- the VARIABLES that the EVENT e of the role r binds, as they stand in it -/
noncomputable def bls (σ : kS) (r e : Nat) : List Nat := fl (fun u => nbv σ r e (fN (σ 241 u))) (ddl [] (tvs (σ 233) (σ 234) (σ 235) (fN (σ 248 (6 * r + e)))))
/-- u is neither GROUND nor a VARIABLE -/
def opn (σ : kS) (u : Nat) : Prop := tgd (σ 233) (σ 234) (σ 235) u = false ∧ σ 233 u ≠ nI 3
/-- the plan of an EVENT that receives, in the cells from a on -/
def aP (σ : kS) (a t : Nat) (bl : List Nat) : Prop := ∃ pl : List Nat, pl.length ≤ 24 ∧ σ a 7 = nI pl.length ∧ lst (σ (a + 3)) pl ∧ t ∈ pl ∧ (∀ u ∈ pl, u ≤ t ∧ ∀ v ∈ tvs (σ 233) (σ 234) (σ 235) u, v ∈ tvs (σ 233) (σ 234) (σ 235) t) ∧
  (∀ i (h : i < pl.length), opn σ (pl[i]'h) → (∃ j, ∃ (hj : j < pl.length), j < i ∧ σ 234 (pl[i]'h) = nI (pl[j]'hj)) ∧ (σ 235 (pl[i]'h) = -1 ∨ ∃ j, ∃ (hj : j < pl.length), j < i ∧ σ 235 (pl[i]'h) = nI (pl[j]'hj))) ∧
  ∀ j, j < bl.length → ∃ f, f ≤ pl.length ∧ σ (a + 4) (j + 1) = nI f ∧ ∀ i (h : i < pl.length), i < f → ∀ v ∈ tvs (σ 233) (σ 234) (σ 235) (pl[i]'h), ∀ j', ∀ (hj : j' < bl.length), j ≤ j' → v ≠ bl[j']'hj
def aE (σ : kS) (r e : Nat) : Prop := σ (28 + 35 * r + 5 * e) 1 = σ 248 (6 * r + e) ∧ (σ (28 + 35 * r + 5 * e) 0 ≠ 0 ↔ σ 249 (6 * r + e) ≠ 0) ∧ (σ 249 (6 * r + e) ≠ 0 → σ (28 + 35 * r + 5 * e) 4 = 0) ∧
  (σ 249 (6 * r + e) = 0 → σ (28 + 35 * r + 5 * e) 4 = nI (bls σ r e).length ∧ (bls σ r e).length ≤ 6 ∧ (∀ j (h : j < (bls σ r e).length), σ (29 + 35 * r + 5 * e) j = σ 241 ((bls σ r e)[j]'h) ∧ σ (30 + 35 * r + 5 * e) j = σ 240 ((bls σ r e)[j]'h)) ∧ aP σ (28 + 35 * r + 5 * e) (fN (σ 248 (6 * r + e))) (bls σ r e))
def aR1 (σ : kS) (r : Nat) : Prop := σ (23 + 35 * r) 3 = σ 244 r ∧ σ (23 + 35 * r) 5 = σ 247 r ∧ (σ (23 + 35 * r) 6 ≠ 0 ↔ σ 250 r ≠ 0) ∧
  (∀ k, k < fN (σ 244 r) → σ (24 + 35 * r) k = σ 246 (6 * r + k) ∧ σ (25 + 35 * r) k = σ 240 (fN (σ 245 (6 * r + k))) ∧ (σ 246 (6 * r + k) = nI 2 → (σ (26 + 35 * r) k ≠ 0 ↔ bdv σ r (fN (σ 247 r)) k))) ∧ ∀ e, e < fN (σ 247 r) → aE σ r e
def aR (σ : kS) (R : Nat) : Prop := ∀ r, r < R → aR1 σ r
/-- all PARAMETERS of the session s are HONEST, as it was made -/
def hoF (σ : kS) (s : Nat) : Prop := ∀ k, k < fN (σ 244 (fN (σ 255 s))) → σ 246 (6 * fN (σ 255 s) + k) = 0 → σ 238 (fN (σ 256 (6 * s + k))) ≠ 0
def aS1 (σ : kS) (s : Nat) : Prop := σ 15 s = σ 255 s ∧ σ 17 (7 * s) = 0 ∧ (∀ k, k < 6 → nnI (σ 17 (7 * s + 1 + k)) = if k < fN (σ 244 (fN (σ 255 s))) then σ 256 (6 * s + k) else -6) ∧ (σ 16 s ≠ 0 ↔ hoF σ s)
def aS (σ : kS) (S : Nat) : Prop := ∀ s, s < S → aS1 σ s
def aC1 (σ : kS) (c : Nat) : Prop := (σ (163 + 3 * c) 0 ≠ 0 ↔ σ 257 c ≠ 0) ∧ σ (163 + 3 * c) 1 = σ 258 c ∧ (σ 257 c ≠ 0 → σ (163 + 3 * c) 3 = σ 259 c) ∧ (σ 257 c = 0 → σ (163 + 3 * c) 2 = σ 259 c ∧ σ (163 + 3 * c) 3 = σ 260 c) ∧ σ (163 + 3 * c) 6 = σ 261 c ∧ ∀ i, i < fN (σ 261 c) → σ (164 + 3 * c) i = σ 262 (4 * c + i) ∧ σ (165 + 3 * c) i = σ 263 (4 * c + i)
def aC (σ : kS) (C : Nat) : Prop := ∀ c, c < C → aC1 σ c
def aK (σ : kS) (kl : List Nat) : Prop := σ 13 10 = nI kl.length ∧ lst (σ 19) kl
/-- TERMS of an intruder -/
def kV (n st u t : Nat) : Prop := t < n ∨ (st ≤ t ∧ t < st + u)
def kTv (σ : kS) (t : Nat) : Jvm.Term := tvl (σ 2) (σ 3) (σ 4) t
def kAG (σ : kS) (n y : Nat) : Prop := y < n ∧ (σ 2 y = nI 0 ∨ (σ 2 y = nI 3 ∧ σ 11 y = nI 0))
/-- how deep a TERM is -/
def tdp (K F S : Nat → Int32) (t : Nat) : Nat := tA (fun _ => 0) (fun _ a b => 1 + max a (b.getD 0)) K F S t
/-- the table of an intruder: n TERMS, u without number -/
def kTb (σ : kS) (K st n u : Nat) : Prop := u ≤ 576 ∧ σ K 3 = nI u ∧ σ K 1 = nI st ∧ tbW (kV n st u) (kAG σ n) (σ 2) (σ 3) (σ 4) (σ 5) ∧ (∀ g, st ≤ g → g < st + u → 3 < fN (σ 2 g) ∧ tgd (σ 2) (σ 3) (σ 4) g = true ∧ tdp (σ 2) (σ 3) (σ 4) g ≤ 47) ∧ hcP 256 1928 (fun g => st ≤ g ∧ g < st + u) (cpt σ) (σ (K + 1)) (σ 6)
/-- the marks of an intruder that began m times -/
def kMs (σ : kS) (K m : Nat) : Prop := σ K 12 = nI m ∧ (∀ g, g < 1928 → ∃ q, q ≤ m ∧ σ (K + 5) g = nI q) ∧ (∀ g, g < 1928 → ∃ q, q ≤ m ∧ (σ (K + 6) g = nI q ∨ σ (K + 6) g = -(nI q))) ∧ ∀ a, a < 200 → ∃ q, q ≤ m ∧ σ (K + 7) a = nI q
def kIn (σ : kS) (l : rwT) (g : Jvm.Term) : Prop := ∃ t, rwI l t ∧ kTv σ t = g
/-- what an intruder's row makes -/
def kMk (σ : kS) (l : rwT) (t : Nat) : Prop := vmk (kIn σ l) (mA σ) (σ 238) (kTv σ t)
/-- the row l of an intruder that began m times -/
def kRw (σ : kS) (K st n u m : Nat) (l : rwT) : Prop := σ K 7 = nI l.length ∧ (∀ i (h : i < l.length), σ (K + 2) i = nI (l[i]'h).1 ∧ σ (K + 3) i = (l[i]'h).2.1 ∧ σ (K + 4) i = (l[i]'h).2.2) ∧ (∀ t, rwI l t → kV n st u t ∧ tgd (σ 2) (σ 3) (σ 4) t = true) ∧ (l.map (fun q => q.1)).Pairwise (fun x y => x ≠ y) ∧
  (∀ g, kV n st u g → (σ (K + 5) g = nI m ↔ rwI l g)) ∧ (∀ a, a < n → (σ (K + 7) a = nI m ↔ ∃ t, rwI l t ∧ σ 2 t = nI 7 ∧ σ 3 t = nI a)) ∧
  (∀ t, rwI l t → σ (K + 6) t = nI m) ∧ ∀ g, kV n st u g → tgd (σ 2) (σ 3) (σ 4) g = true → (σ (K + 6) g = nI m → kMk σ l g) ∧ (σ (K + 6) g = -(nI m) → σ K 13 ≠ 0 ∧ ¬ kMk σ l g)
/-- no mark of this start where there is no TERM -/
def kQf (σ : kS) (K st n u m : Nat) : Prop := ∀ g, g < 1928 → ¬ kV n st u g → σ (K + 5) g ≠ nI m ∧ σ (K + 6) g ≠ nI m ∧ σ (K + 6) g ≠ -(nI m)
/-- .. as trees -/
def kTr (σ : kS) (l : rwT) : trT := l.map (fun q => (kTv σ q.1, q.2.1, nnI q.2.2))
/-- an intruder whose row is whole: tr -/
def kOk (σ : kS) (K st n : Nat) (tr : trT) : Prop := ∃ u m l, 0 < m ∧ m < 2147483647 ∧ kTb σ K st n u ∧ kMs σ K m ∧ kRw σ K st n u m l ∧ kTr σ l = tr ∧ σ K 13 = 1 ∧ kQf σ K st n u m
/-- the RUN -/
def aU (σ : kS) (n S : Nat) (kl : List Nat) : Prop := (σ 181 8 ≠ 0 ↔ σ 232 52 ≠ 0) ∧ (σ 232 52 ≠ 0 → σ 181 7 = σ 232 55 ∧ (∀ i, i < fN (σ 232 55) → σ 183 i = σ 274 i) ∧ (∀ s, s < S → σ 182 (7 * s) = σ 264 s ∧ ∀ k, k < 6 → nnI (σ 182 (7 * s + 1 + k)) = σ 265 (6 * s + k)) ∧ (∀ s, s < S → ∀ k, k < 6 → σ 17 (7 * s + 1 + k) ≠ -1 → σ 182 (7 * s + 1 + k) = σ 17 (7 * s + 1 + k)) ∧
  (σ 181 9 = nI n → ∃ ds, σ 232 55 = nI ds.length ∧ lst (σ 274) ds ∧ ds.length ≤ 24 ∧ (∀ s ∈ ds, s < S) ∧ kOk σ 186 200 n (trRun σ kl ds)))
/-- what was found -/
def aF (σ : kS) (n R S : Nat) : Prop := σ 196 5 = σ 232 69 ∧ σ 195 10 = σ 232 70 ∧ σ 195 11 = σ 232 71 ∧ nnI (σ 195 9) = σ 232 72 ∧ (∃ N, N ≤ 600 ∧ σ 232 69 = nI N) ∧
  (σ 195 9 ≠ -1 → ∃ (as : List Nat) (N : Nat), 0 < N ∧ N ≤ 600 ∧ σ 232 69 = nI N ∧ as.length ≤ 24 ∧ σ 232 72 = nI as.length ∧ lst (σ 288) as ∧ lst (σ 203) as ∧ (∀ s ∈ as, s < S ∧ as.count s ≤ fN (σ 247 (fN (σ 255 s)))) ∧
    ∀ i (h : i < as.length), ∃ st, st < 600 ∧ σ 289 i = nI st ∧ ∀ k, k < 6 → σ 285 (24 * st + 6 * (as[i]'h) + k) = cit (bdv σ (fN (σ 255 (as[i]'h))) ((as.take i).count (as[i]'h) + 1) k) (nnI (σ 197 (28 * (N - 1) + 7 * (as[i]'h) + 1 + k))) (-6))
/-- the three intruders began at most m times -/
def aM (σ : kS) (m : Nat) : Prop := ∃ m1 m2 m3, m1 ≤ m ∧ m2 ≤ m ∧ m3 ≤ m ∧ kMs σ 186 m1 ∧ kMs σ 204 m2 ∧ kMs σ 213 m3
def aB (σ : kS) (n R S C : Nat) (kl : List Nat) (m : Nat) : Prop := aR σ R ∧ aS σ S ∧ aC σ C ∧ aK σ kl ∧ aU σ n S kl ∧ aF σ n R S ∧ aM σ m
/-- both sides are alike -/
def aJ (σ : kS) (n b R S C : Nat) (kl : List Nat) (m : Nat) : Prop := mI σ n b R S C kl ∧ cJ σ n R S C ∧ aT σ n ∧ aB σ n R S C kl m
def bJ (m : Nat) (σ : kS) : Prop := ∃ n b R S C kl, aJ σ n b R S C kl m
end
section
/-! alike: what stays -/
theorem fl_mem {P : Nat → Prop} {x : Nat} : ∀ {l : List Nat}, x ∈ fl P l ↔ x ∈ l ∧ P x
  | [] => ⟨fun h => (by cases h), fun h => (by cases h.1)⟩
  | y :: l => by
    unfold fl
    by_cases h : P y
    · rw [cit_T h, List.mem_cons, fl_mem (l := l), List.mem_cons]
      constructor
      · rintro (rfl | q)
        · exact ⟨Or.inl rfl, h⟩
        · exact ⟨Or.inr q.1, q.2⟩
      · rintro ⟨rfl | q, q2⟩
        · exact Or.inl rfl
        · exact Or.inr ⟨q, q2⟩
    · rw [cit_F h, fl_mem (l := l), List.mem_cons]
      constructor
      · rintro ⟨q, q2⟩
        exact ⟨Or.inr q, q2⟩
      · rintro ⟨rfl | q, q2⟩
        · exact absurd q2 h
        · exact ⟨q, q2⟩
theorem cit_iff {α : Type} {P Q : Prop} {a b : α} (h : P ↔ Q) : cit P a b = cit Q a b := by
  by_cases hp : P
  · rw [cit_T hp, cit_T (h.mp hp)]
  · rw [cit_F hp, cit_F (fun q => hp (h.mpr q))]
theorem fl_congr {P Q : Nat → Prop} : ∀ {l : List Nat}, (∀ x ∈ l, P x ↔ Q x) → fl P l = fl Q l
  | [], _ => rfl
  | y :: l, h => by
    unfold fl
    rw [fl_congr (l := l) (fun x hx => h x (List.mem_cons_of_mem _ hx)), cit_iff (h y List.mem_cons_self)]
theorem fl_nd {P : Nat → Prop} : ∀ {l : List Nat}, l.Pairwise (fun x y => x ≠ y) → (fl P l).Pairwise (fun x y => x ≠ y)
  | [], _ => List.Pairwise.nil
  | y :: l, h => by
    unfold fl
    obtain ⟨h1, h2⟩ := List.pairwise_cons.mp h
    by_cases hp : P y
    · rw [cit_T hp]
      exact List.pairwise_cons.mpr ⟨fun x hx => h1 x (fl_mem.mp hx).1, fl_nd h2⟩
    · rw [cit_F hp]
      exact fl_nd h2
/-- the role r, and the first n TERMS, are as they were on both sides -/
def fR (σ ω : kS) (r n : Nat) : Prop := roO σ ω r ∧ (∀ u, u < n → ω 233 u = σ 233 u ∧ ω 234 u = σ 234 u ∧ ω 235 u = σ 235 u ∧ ω 240 u = σ 240 u ∧ ω 241 u = σ 241 u) ∧ ∀ c, 23 + 35 * r ≤ c → c < 58 + 35 * r → ω c = σ c
theorem fT_all {σ ω : kS} {n b t : Nat} (h : mTb σ n b) (hF : ∀ u, u < n → ω 233 u = σ 233 u ∧ ω 234 u = σ 234 u ∧ ω 235 u = σ 235 u) (ht : t < n) : tvl (ω 233) (ω 234) (ω 235) t = tvl (σ 233) (σ 234) (σ 235) t ∧ tgd (ω 233) (ω 234) (ω 235) t = tgd (σ 233) (σ 234) (σ 235) t ∧ tvs (ω 233) (ω 234) (ω 235) t = tvs (σ 233) (σ 234) (σ 235) t := by
  refine ⟨tA_congr (mTb_num h) (fun u hu => ⟨(hF u hu).1, (hF u hu).2.1, (hF u hu).2.2, rfl⟩) t ht, tA_congr (mTb_num h) (fun u hu => ⟨(hF u hu).1, (hF u hu).2.1, (hF u hu).2.2, by rw [(hF u hu).1]⟩) t ht, tA_congr (mTb_num h) (fun u hu => ⟨(hF u hu).1, (hF u hu).2.1, (hF u hu).2.2, by rw [(hF u hu).1]⟩) t ht⟩
theorem fR_all {σ ω : kS} {n b r t : Nat} (h : mTb σ n b) (hF : fR σ ω r n) (ht : t < n) : tvl (ω 233) (ω 234) (ω 235) t = tvl (σ 233) (σ 234) (σ 235) t ∧ tgd (ω 233) (ω 234) (ω 235) t = tgd (σ 233) (σ 234) (σ 235) t ∧ tvs (ω 233) (ω 234) (ω 235) t = tvs (σ 233) (σ 234) (σ 235) t :=
  fT_all h (fun u hu => ⟨(hF.2.1 u hu).1, (hF.2.1 u hu).2.1, (hF.2.1 u hu).2.2.1⟩) ht
theorem fR_bdv {σ ω : kS} {n b R r dn k : Nat} (h : mTb σ n b) (hR : mRo σ n R) (hF : fR σ ω r n) (hr : r < R) (hdn : dn ≤ fN (σ 247 r)) : bdv ω r dn k ↔ bdv σ r dn k := by
  have hn := h.1
  obtain ⟨⟨v, v1, v2⟩, ev, ev1, ev2⟩ := hR.2.2.1 r hr
  have hv6 : fN (σ 244 r) ≤ 6 := by rw [v2, fN_nI (by omega)]; exact v1
  have he6 : fN (σ 247 r) ≤ 6 := by rw [ev2, fN_nI (by omega)]; exact ev1
  unfold bdv
  rw [hF.1.1]
  refine and_congr_right (fun hk => ?_)
  rw [(hF.1.2.2.2 k (by omega)).2.1, (hF.1.2.2.2 k (by omega)).1]
  refine or_congr_right (exists_congr (fun e => and_congr_right (fun he => ?_)))
  obtain ⟨t, t1, t2, -⟩ := hR.2.2.2.2.2 r e hr (by omega)
  rw [(hF.1.2.2.2 e (by omega)).2.2.2, (hF.1.2.2.2 e (by omega)).2.2.1, t2, fN_nI (by omega), (fR_all h hF t1).2.2]
theorem fR_bls {σ ω : kS} {n b R r e : Nat} (h : mTb σ n b) (hR : mRo σ n R) (hF : fR σ ω r n) (hr : r < R) (he : e < fN (σ 247 r)) : bls ω r e = bls σ r e := by
  have hn := h.1
  obtain ⟨-, ev, ev1, ev2⟩ := hR.2.2.1 r hr
  have he6 : fN (σ 247 r) ≤ 6 := by rw [ev2, fN_nI (by omega)]; exact ev1
  obtain ⟨t, t1, t2, -⟩ := hR.2.2.2.2.2 r e hr he
  unfold bls
  rw [(hF.1.2.2.2 e (by omega)).2.2.1, t2, fN_nI (by omega), (fR_all h hF t1).2.2]
  refine fl_congr (fun u hu => ?_)
  have hu2 := (ddl_mem _ _).mp hu
  have hun : u < n := by
    rcases hu2 with q | q
    · cases q
    · exact (tvs_mem (mTb_num h) t t1 u q).1
  rw [(hF.2.1 u hun).2.2.2.2]
  unfold nbv
  rw [fR_bdv h hR hF hr (by omega), fR_bdv h hR hF hr (by omega)]
theorem bls_lt {σ : kS} {n b R r e u : Nat} (h : mTb σ n b) (hR : mRo σ n R) (hr : r < R) (he : e < fN (σ 247 r)) (hu : u ∈ bls σ r e) : u < n ∧ σ 233 u = nI 3 := by
  have hn := h.1
  obtain ⟨t, t1, t2, -⟩ := hR.2.2.2.2.2 r e hr he
  unfold bls at hu
  rw [t2, fN_nI (by omega)] at hu
  rcases (ddl_mem _ _).mp (fl_mem.mp hu).1 with q | q
  · cases q
  · have := tvs_mem (mTb_num h) t t1 u q
    exact ⟨this.1, this.2.1⟩
theorem fR_aP {σ ω : kS} {n b r t a : Nat} {bl : List Nat} (h : mTb σ n b) (hF : fR σ ω r n) (ht : t < n) (ha : 23 + 35 * r ≤ a) (ha2 : a + 4 < 58 + 35 * r) (hp : aP σ a t bl) : aP ω a t bl := by
  obtain ⟨pl, p0, p1, p2, p3, p4, p5, p6⟩ := hp
  have e0 := hF.2.2 a ha (by omega)
  have e3 := hF.2.2 (a + 3) (by omega) (by omega)
  have e4 := hF.2.2 (a + 4) (by omega) (by omega)
  have hlt : ∀ i (hi : i < pl.length), (pl[i]'hi) < n := fun i hi => by
    have := (p4 _ (List.getElem_mem hi)).1
    omega
  refine ⟨pl, p0, by rw [e0]; exact p1, by rw [e3]; exact p2, p3, fun u hu => ⟨(p4 u hu).1, by rw [(fR_all h hF (show u < n by have := (p4 u hu).1; omega)).2.2, (fR_all h hF ht).2.2]; exact (p4 u hu).2⟩, fun i hi ho => ?_, fun j hj => ?_⟩
  · have hk := hF.2.1 _ (hlt i hi)
    unfold opn at ho
    rw [(fR_all h hF (hlt i hi)).2.1, hk.1] at ho
    rw [hk.2.1, hk.2.2.1]
    exact p5 i hi ho
  · obtain ⟨f, f1, f2, f3⟩ := p6 j hj
    refine ⟨f, f1, by rw [e4]; exact f2, fun i hi hif => ?_⟩
    rw [(fR_all h hF (hlt i hi)).2.2]
    exact f3 i hi hif
theorem fR_aE {σ ω : kS} {n b R r e : Nat} (h : mTb σ n b) (hR : mRo σ n R) (hF : fR σ ω r n) (hr : r < R) (he : e < fN (σ 247 r)) (hE : aE σ r e) : aE ω r e := by
  have hn := h.1
  obtain ⟨-, ev, ev1, ev2⟩ := hR.2.2.1 r hr
  have he6 : fN (σ 247 r) ≤ 6 := by rw [ev2, fN_nI (by omega)]; exact ev1
  obtain ⟨t, t1, t2, -⟩ := hR.2.2.2.2.2 r e hr he
  obtain ⟨h1, h2, h3, h4⟩ := hE
  have e0 := hF.2.2 (28 + 35 * r + 5 * e) (by omega) (by omega)
  have e1 := hF.2.2 (29 + 35 * r + 5 * e) (by omega) (by omega)
  have e2 := hF.2.2 (30 + 35 * r + 5 * e) (by omega) (by omega)
  unfold aE
  rw [(hF.1.2.2.2 e (by omega)).2.2.1, (hF.1.2.2.2 e (by omega)).2.2.2, fR_bls h hR hF hr he, e0, e1, e2]
  refine ⟨h1, h2, h3, fun q => ?_⟩
  obtain ⟨g1, g2, g3, g4⟩ := h4 q
  refine ⟨g1, g2, fun j hj => ?_, ?_⟩
  · have := hF.2.1 _ (bls_lt h hR hr he (List.getElem_mem hj)).1
    rw [this.2.2.2.2, this.2.2.2.1]
    exact g3 j hj
  · rw [t2, fN_nI (by omega)] at g4 ⊢
    exact fR_aP h hF t1 (by omega) (by omega) g4
theorem fR_aR1 {σ ω : kS} {n b R r : Nat} (h : mTb σ n b) (hR : mRo σ n R) (hF : fR σ ω r n) (hr : r < R) (hA : aR1 σ r) : aR1 ω r := by
  obtain ⟨⟨v, v1, v2⟩, ev, ev1, ev2⟩ := hR.2.2.1 r hr
  have hv6 : fN (σ 244 r) ≤ 6 := by rw [v2, fN_nI (by omega)]; exact v1
  have he6 : fN (σ 247 r) ≤ 6 := by rw [ev2, fN_nI (by omega)]; exact ev1
  obtain ⟨h1, h2, h3, h4, h5⟩ := hA
  have hn := h.1
  have e0 := hF.2.2 (23 + 35 * r) (by omega) (by omega)
  have e1 := hF.2.2 (24 + 35 * r) (by omega) (by omega)
  have e2 := hF.2.2 (25 + 35 * r) (by omega) (by omega)
  have e3 := hF.2.2 (26 + 35 * r) (by omega) (by omega)
  unfold aR1
  rw [e0, e1, e2, e3, hF.1.1, hF.1.2.1, hF.1.2.2.1]
  refine ⟨h1, h2, h3, fun k hk => ?_, fun e he => fR_aE h hR hF hr he (h5 e he)⟩
  obtain ⟨t, so, as, t1, t2, -⟩ := hR.2.2.2.1 r k hr hk
  obtain ⟨g1, g2, g3⟩ := h4 k hk
  rw [(hF.1.2.2.2 k (by omega)).2.1, (hF.1.2.2.2 k (by omega)).1]
  rw [t2, fN_nI (by omega)] at g2 ⊢
  rw [(hF.2.1 t t1).2.2.2.1, fR_bdv h hR hF hr (Nat.le_refl _)]
  exact ⟨g1, g2, g3⟩
/-- the session s, its role and the first n TERMS are as they were on both sides -/
def fS (σ ω : kS) (s n : Nat) : Prop := ω 255 s = σ 255 s ∧ (∀ k, k < 6 → ω 256 (6 * s + k) = σ 256 (6 * s + k)) ∧ roO σ ω (fN (σ 255 s)) ∧ (∀ u, u < n → ω 238 u = σ 238 u) ∧ ω 15 s = σ 15 s ∧ ω 16 s = σ 16 s ∧ ∀ k, k < 7 → ω 17 (7 * s + k) = σ 17 (7 * s + k)
theorem fS_aS1 {σ ω : kS} {n R S s : Nat} (hn : n ≤ 200) (hR : mRo σ n R) (hS : mSe σ n R S) (hs : s < S) (hF : fS σ ω s n) (hA : aS1 σ s) : aS1 ω s := by
  obtain ⟨f1, f2, f3, f4, f5, f6, f7⟩ := hF
  obtain ⟨r, r1, r2, -, r4⟩ := hS.2.2 s hs
  have hr : fN (σ 255 s) = r := by rw [r2, fN_nI (by have := hR.1; omega)]
  rw [hr] at f3
  obtain ⟨⟨v, v1, v2⟩, -⟩ := hR.2.2.1 r r1
  have hv6 : fN (σ 244 r) ≤ 6 := by rw [v2, fN_nI (by omega)]; exact v1
  obtain ⟨a1, a2, a3, a4⟩ := hA
  rw [hr] at a3
  unfold aS1
  rw [f1, hr, f3.1, f5, f6]
  refine ⟨a1, ?_, fun k hk => ?_, ?_⟩
  · have := f7 0 (by omega)
    rw [Nat.add_zero] at this
    rw [this]
    exact a2
  · have := f7 (1 + k) (by omega)
    rw [← Nat.add_assoc] at this
    rw [this, f2 k hk]
    exact a3 k hk
  · rw [a4]
    unfold hoF
    rw [f1, hr, f3.1]
    refine forall_congr' (fun k => ?_)
    refine imp_congr_right (fun hk => ?_)
    rw [(f3.2.2.2 k (by omega)).2.1, f2 k (by omega)]
    refine imp_congr_right (fun h0 => ?_)
    obtain ⟨as, q1, q2⟩ := r4 k hk
    rcases q2 with ⟨rfl, -⟩ | ⟨-, z, z1, z2, -⟩
    · rw [q1] at h0
      exact absurd h0 (by decide)
    · rw [z2, fN_nI (by omega), f4 z z1]
/-- the claim c is as it was on both sides -/
def fC (σ ω : kS) (c : Nat) : Prop := ω 257 c = σ 257 c ∧ ω 258 c = σ 258 c ∧ ω 259 c = σ 259 c ∧ ω 260 c = σ 260 c ∧ ω 261 c = σ 261 c ∧ (∀ i, i < 4 → ω 262 (4 * c + i) = σ 262 (4 * c + i) ∧ ω 263 (4 * c + i) = σ 263 (4 * c + i)) ∧ ∀ j, j < 3 → ω (163 + 3 * c + j) = σ (163 + 3 * c + j)
theorem fC_aC1 {σ ω : kS} {R C c : Nat} (hC : mCl σ R C) (hc : c < C) (hF : fC σ ω c) (hA : aC1 σ c) : aC1 ω c := by
  obtain ⟨f1, f2, f3, f4, f5, f6, f7⟩ := hF
  obtain ⟨b, a, nn, j, -, -, -, -, -, -, -, j1, j2, -⟩ := hC.2.2 c hc
  obtain ⟨a1, a2, a3, a4, a5, a6⟩ := hA
  have e0 := f7 0 (by omega)
  have e1 := f7 1 (by omega)
  have e2 := f7 2 (by omega)
  rw [show 163 + 3 * c + 1 = 164 + 3 * c by omega] at e1
  rw [show 163 + 3 * c + 2 = 165 + 3 * c by omega] at e2
  rw [Nat.add_zero] at e0
  unfold aC1
  rw [f1, f2, f3, f4, f5, e0, e1, e2]
  refine ⟨a1, a2, a3, a4, a5, fun i hi => ?_⟩
  have hi4 : i < 4 := by
    rw [j2, fN_nI (by omega)] at hi
    omega
  rw [(f6 i hi4).1, (f6 i hi4).2]
  exact a6 i hi
/-- marks stay -/
theorem kMs_eq {σ ω : kS} {K m : Nat} (e : ∀ c, K ≤ c → c < K + 9 → ω c = σ c) (h : kMs σ K m) : kMs ω K m := by
  unfold kMs
  rw [e K (by omega) (by omega), e (K + 5) (by omega) (by omega), e (K + 6) (by omega) (by omega), e (K + 7) (by omega) (by omega)]
  exact h
theorem aM_eq {σ ω : kS} {m m' : Nat} (hm : m ≤ m') (e : ∀ c, 186 ≤ c → c < 222 → ω c = σ c) (h : aM σ m) : aM ω m' := by
  obtain ⟨m1, m2, m3, a1, a2, a3, a4, a5, a6⟩ := h
  exact ⟨m1, m2, m3, by omega, by omega, by omega, kMs_eq (fun c c1 c2 => e c (by omega) (by omega)) a4, kMs_eq (fun c c1 c2 => e c (by omega) (by omega)) a5, kMs_eq (fun c c1 c2 => e c (by omega) (by omega)) a6⟩
/-- the intruder K stands as it did -/
theorem kOk_eq {σ ω : kS} {K st n : Nat} {tr : trT} (eT : ∀ c, 1 ≤ c → c < 13 → ω c = σ c) (eK : ∀ c, K ≤ c → c < K + 9 → ω c = σ c) (e1 : ∀ t, t < 200 → ω 233 t = σ 233 t) (e2 : ω 238 = σ 238) (h : kOk σ K st n tr) : kOk ω K st n tr := by
  obtain ⟨u, m, l, h1, h2, h3, h4, h5, h6, h7, h8⟩ := h
  have hA : mA ω = mA σ := funext (fun t => propext ⟨fun q => ⟨q.1, (e1 t q.1).symm.trans q.2⟩, fun q => ⟨q.1, (e1 t q.1).trans q.2⟩⟩)
  refine ⟨u, m, l, h1, h2, ?_, kMs_eq eK h4, ?_, ?_, by rw [eK K (by omega) (by omega)]; exact h7, fun g g1 g2 => by rw [eK (K + 5) (by omega) (by omega), eK (K + 6) (by omega) (by omega)]; exact h8 g g1 g2⟩
  · unfold kTb kAG cpt at h3 ⊢
    rw [eK K (by omega) (by omega), eK (K + 1) (by omega) (by omega), eT 2 (by decide) (by decide), eT 3 (by decide) (by decide), eT 4 (by decide) (by decide), eT 5 (by decide) (by decide), eT 11 (by decide) (by decide), eT 6 (by decide) (by decide)]
    exact h3
  · unfold kRw kMk kIn kTv at h5 ⊢
    rw [eK K (by omega) (by omega), eK (K + 2) (by omega) (by omega), eK (K + 3) (by omega) (by omega), eK (K + 4) (by omega) (by omega), eK (K + 5) (by omega) (by omega), eK (K + 6) (by omega) (by omega), eK (K + 7) (by omega) (by omega), eT 2 (by decide) (by decide), eT 3 (by decide) (by decide), eT 4 (by decide) (by decide), hA, e2]
    exact h5
  · unfold kTr kTv at h6 ⊢
    rw [eT 2 (by decide) (by decide), eT 3 (by decide) (by decide), eT 4 (by decide) (by decide)]
    exact h6
end
section
/-! alike: what stays when TERMS come -/
/-- nothing has changed but TERMS from n on and the row, on both sides -/
def fG (σ ω : kS) (n : Nat) : Prop := (∀ c, 232 < c → c ∉ rowC → c ≠ 238 → c ≠ 240 → c ≠ 239 → c ≠ 241 → ω c = σ c) ∧ (∀ j, j ∉ rowT → ω 232 j = σ 232 j) ∧ (∀ u, u < n → ω 233 u = σ 233 u ∧ ω 234 u = σ 234 u ∧ ω 235 u = σ 235 u ∧ ω 240 u = σ 240 u ∧ ω 241 u = σ 241 u ∧ ω 238 u = σ 238 u) ∧ ∀ c, 13 ≤ c → c < 232 → ω c = σ c
theorem fG_R {σ ω : kS} {n r : Nat} (hF : fG σ ω n) (hr : r < 4) : fR σ ω r n := by
  obtain ⟨h1, h2, h3, h4⟩ := hF
  have c := fun c (k1 : 232 < c) (k2 : c ∉ rowC) (k3 : c ≠ 238) (k4 : c ≠ 240) (k5 : c ≠ 239) (k6 : c ≠ 241) => h1 c k1 k2 k3 k4 k5 k6
  refine ⟨?_, fun u hu => ⟨(h3 u hu).1, (h3 u hu).2.1, (h3 u hu).2.2.1, (h3 u hu).2.2.2.1, (h3 u hu).2.2.2.2.1⟩, fun c c1 c2 => h4 c (by omega) (by omega)⟩
  unfold roO
  rw [c 244 (by decide) (by decide) (by decide) (by decide) (by decide) (by decide), c 247 (by decide) (by decide) (by decide) (by decide) (by decide) (by decide), c 250 (by decide) (by decide) (by decide) (by decide) (by decide) (by decide), c 245 (by decide) (by decide) (by decide) (by decide) (by decide) (by decide), c 246 (by decide) (by decide) (by decide) (by decide) (by decide) (by decide), c 248 (by decide) (by decide) (by decide) (by decide) (by decide) (by decide), c 249 (by decide) (by decide) (by decide) (by decide) (by decide) (by decide)]
  exact ⟨rfl, rfl, rfl, fun k _ => ⟨rfl, rfl, rfl, rfl⟩⟩
theorem fG_S {σ ω : kS} {n R S s : Nat} (hF : fG σ ω n) (hR : mRo σ n R) (hS : mSe σ n R S) (hs : s < S) : fS σ ω s n := by
  obtain ⟨r, r1, r2, -⟩ := hS.2.2 s hs
  have hr4 := hR.1
  have hr : fN (σ 255 s) = r := by rw [r2, fN_nI (by omega)]
  have hO := (fG_R hF (r := r) (by omega)).1
  obtain ⟨h1, h2, h3, h4⟩ := hF
  refine ⟨by rw [h1 255 (by decide) (by decide) (by decide) (by decide) (by decide) (by decide)], fun k _ => by rw [h1 256 (by decide) (by decide) (by decide) (by decide) (by decide) (by decide)], by rw [hr]; exact hO, fun u hu => (h3 u hu).2.2.2.2.2, by rw [h4 _ (by decide) (by decide)], by rw [h4 _ (by decide) (by decide)], fun k _ => by rw [h4 _ (by decide) (by decide)]⟩
theorem fG_C {σ ω : kS} {n c : Nat} (hF : fG σ ω n) (hc : c < 6) : fC σ ω c := by
  obtain ⟨h1, h2, h3, h4⟩ := hF
  refine ⟨by rw [h1 257 (by decide) (by decide) (by decide) (by decide) (by decide) (by decide)], by rw [h1 258 (by decide) (by decide) (by decide) (by decide) (by decide) (by decide)], by rw [h1 259 (by decide) (by decide) (by decide) (by decide) (by decide) (by decide)], by rw [h1 260 (by decide) (by decide) (by decide) (by decide) (by decide) (by decide)], by rw [h1 261 (by decide) (by decide) (by decide) (by decide) (by decide) (by decide)], fun i _ => ⟨by rw [h1 262 (by decide) (by decide) (by decide) (by decide) (by decide) (by decide)], by rw [h1 263 (by decide) (by decide) (by decide) (by decide) (by decide) (by decide)]⟩, fun j hj => h4 _ (by omega) (by omega)⟩
theorem aK_eq {σ ω : kS} {kl : List Nat} (e1 : ω 13 10 = σ 13 10) (e2 : ω 19 = σ 19) (h : aK σ kl) : aK ω kl := by
  unfold aK
  rw [e1, e2]
  exact h
/-- what was found stays: by its cells, and the roles of SESSIONS -/
theorem aF_fr {σ ω : kS} {n n' b R S : Nat} (h : mTb σ n b) (hR : mRo σ n R) (hSe : mSe σ n R S) (e1 : ω 196 = σ 196) (e2 : ω 195 = σ 195) (e3 : ω 197 = σ 197) (e4 : ω 203 = σ 203) (eO : ω 232 69 = σ 232 69 ∧ ω 232 70 = σ 232 70 ∧ ω 232 71 = σ 232 71 ∧ ω 232 72 = σ 232 72) (e5 : ω 288 = σ 288) (e6 : ω 289 = σ 289) (e7 : ω 285 = σ 285) (e8 : ∀ s, s < S → ω 255 s = σ 255 s) (hF : ∀ s, s < S → fR σ ω (fN (σ 255 s)) n) (hA : aF σ n R S) : aF ω n' R S := by
  obtain ⟨a1, a2, a3, a4, a5, a6⟩ := hA
  unfold aF
  rw [e1, e2, e3, e4, eO.1, eO.2.1, eO.2.2.1, eO.2.2.2, e5, e6, e7]
  refine ⟨a1, a2, a3, a4, a5, fun q => ?_⟩
  obtain ⟨as, N, b1, b2, b3, b4, b5, b6, b7, b8, b9⟩ := a6 q
  refine ⟨as, N, b1, b2, b3, b4, b5, b6, b7, fun s hs => ?_, fun i hi => ?_⟩
  · obtain ⟨c1, c2⟩ := b8 s hs
    refine ⟨c1, ?_⟩
    rw [e8 s c1, (hF s c1).1.2.1]
    exact c2
  · obtain ⟨st, s1, s2, s3⟩ := b9 i hi
    obtain ⟨c1, c2⟩ := b8 _ (List.getElem_mem hi)
    obtain ⟨r, r1, r2, -⟩ := hSe.2.2 _ c1
    have hfr : fN (σ 255 as[i]) = r := by rw [r2]; exact fN_nI (by have := hR.1; omega)
    have hcnt : (as.take i).count as[i] + 1 ≤ as.count as[i] := by
      have := count_take_le as as[i] (i + 1)
      rw [List.take_succ_eq_append_getElem hi, List.count_append] at this
      simp at this
      omega
    refine ⟨st, s1, s2, fun k hk => ?_⟩
    rw [s3 k hk, e8 _ c1, hfr]
    have hFr := hF _ c1
    rw [hfr] at c2 hFr
    rw [propext (fR_bdv h hR hFr r1 (by omega))]
theorem aB_gr {σ ω : kS} {n n' b R S C m : Nat} {kl : List Nat} (hI : mI σ n b R S C kl) (hJ : cJ σ n R S C) (hF : fG σ ω n) (hn : n < n') (hn2 : n' ≤ 200) (h : aB σ n R S C kl m) : aB ω n' R S C kl m := by
  obtain ⟨h1, h2, h3, h4, h5, h6, h7⟩ := h
  obtain ⟨i1, i2, i3, i4, i5, i6, i7⟩ := hI
  have hR4 := i2.1
  have c := fun c (k1 : 232 < c) (k2 : c ∉ rowC) (k3 : c ≠ 238) (k4 : c ≠ 240) (k5 : c ≠ 239) (k6 : c ≠ 241) => hF.1 c k1 k2 k3 k4 k5 k6
  have e := hF.2.2.2
  refine ⟨fun r hr => fR_aR1 i1 i2 (fG_R hF (by omega)) hr (h1 r hr), fun s hs => fS_aS1 i1.1 i2 i3 hs (fG_S hF i2 i3 hs) (h2 s hs), fun c hc => fC_aC1 i5 hc (fG_C hF (by have := i5.1; omega)) (h3 c hc), aK_eq (by rw [e 13 (by decide) (by decide)]) (e _ (by decide) (by decide)) h4, ?_, ?_, aM_eq (Nat.le_refl _) (fun c c1 c2 => e c (by omega) (by omega)) h7⟩
  · unfold aU at h5 ⊢
    rw [e 181 (by decide) (by decide), e 17 (by decide) (by decide), e 183 (by decide) (by decide), e 182 (by decide) (by decide), hF.2.1 52 (by decide), hF.2.1 55 (by decide), c 274 (by decide) (by decide) (by decide) (by decide) (by decide) (by decide), c 264 (by decide) (by decide) (by decide) (by decide) (by decide) (by decide), c 265 (by decide) (by decide) (by decide) (by decide) (by decide) (by decide)]
    refine ⟨h5.1, fun q => ?_⟩
    obtain ⟨g1, g2, g3, g5, -⟩ := h5.2 q
    refine ⟨g1, g2, g3, g5, fun hg => ?_⟩
    have hon := h5.1.mpr q
    rcases hJ.2.2.2.2.2.2.2.2.1 with z | ⟨-, -, -, z⟩
    · exact absurd z hon
    · rcases z with z | ⟨g, z1, z2, -⟩
      · rw [z] at hg
        exact absurd hg.symm (nI_m1 (by omega))
      · rw [z2] at hg
        have := nI_inj hg (by omega) (by omega)
        omega
  · refine aF_fr i1 i2 i3 (e _ (by decide) (by decide)) (e _ (by decide) (by decide)) (e _ (by decide) (by decide)) (e _ (by decide) (by decide)) ⟨hF.2.1 _ (by decide), hF.2.1 _ (by decide), hF.2.1 _ (by decide), hF.2.1 _ (by decide)⟩ (c _ (by decide) (by decide) (by decide) (by decide) (by decide) (by decide)) (c _ (by decide) (by decide) (by decide) (by decide) (by decide) (by decide)) (c _ (by decide) (by decide) (by decide) (by decide) (by decide) (by decide)) (fun s _ => by rw [c 255 (by decide) (by decide) (by decide) (by decide) (by decide) (by decide)]) (fun s hs => ?_) h6
    obtain ⟨r, r1, r2, -⟩ := i3.2.2 s hs
    exact fG_R hF (by rw [r2, fN_nI (by omega)]; omega)
end
