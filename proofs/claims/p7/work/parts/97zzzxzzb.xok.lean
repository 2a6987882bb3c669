/-! alike: all STATES of THE SEARCH, and the way back from one -/
abbrev xT := List ((Nat → Int32) × Int32 × Int32)
def xq (l : xT) (i : Nat) : (Nat → Int32) × Int32 × Int32 := l.getD i (fun _ => 0, 0, 0)
theorem xq_lt {l : xT} {q : (Nat → Int32) × Int32 × Int32} {i : Nat} (h : i < l.length) : xq (l ++ [q]) i = xq l i := by
  unfold xq
  rw [List.getD_eq_getElem?_getD, List.getD_eq_getElem?_getD, List.getElem?_append_left h]
theorem xq_eq {l : xT} {q : (Nat → Int32) × Int32 × Int32} : xq (l ++ [q]) l.length = q := by
  unfold xq
  rw [List.getD_eq_getElem?_getD, List.getElem?_append_right (Nat.le_refl _), Nat.sub_self]
  rfl
theorem xq_mem {l : xT} {a : Nat → Int32} : (∃ q ∈ l, q.1 = a) ↔ ∃ i, i < l.length ∧ (xq l i).1 = a := by
  have key : ∀ i (h : i < l.length), xq l i = l[i]'h := fun i h => by
    unfold xq
    rw [List.getD_eq_getElem?_getD, List.getElem?_eq_getElem h]
    rfl
  refine ⟨fun ⟨q, h1, h2⟩ => ?_, fun ⟨i, h1, h2⟩ => ⟨xq l i, ?_, h2⟩⟩
  · obtain ⟨i, hi, rfl⟩ := List.getElem_of_mem h1
    exact ⟨i, hi, by rw [key i hi]; exact h2⟩
  · rw [key i h1]
    exact List.getElem_mem h1
/-- all STATES hold -/
def xOk (σ : kS) (n R S : Nat) (l : xT) : Prop := l.length ≤ 600 ∧ ∀ i, i < l.length → aOk σ n R S (xq l i).1 ∧ (i = 0 → ∀ s, s < S → (xq l i).1 (7 * s) = 0) ∧ (0 < i → ∃ j mv, j < i ∧ (xq l i).2.1 = nI j ∧ (xq l i).2.2 = nI mv ∧ stp S (aD (xq l j).1) (aV (xq l j).1) (aD (xq l i).1) (aV (xq l i).1) mv)
theorem xOk_nil (σ : kS) (n R S : Nat) : xOk σ n R S [] := ⟨Nat.zero_le _, fun i hi => absurd hi (Nat.not_lt_zero i)⟩
theorem xOk_push {σ : kS} {n R S : Nat} {l : xT} {a : Nat → Int32} {f y : Int32} (h : xOk σ n R S l) (hl : l.length < 600) (ha : aOk σ n R S a) (hp : (l.length = 0 ∧ ∀ s, s < S → a (7 * s) = 0) ∨ ∃ j mv, j < l.length ∧ f = nI j ∧ y = nI mv ∧ stp S (aD (xq l j).1) (aV (xq l j).1) (aD a) (aV a) mv) : xOk σ n R S (l ++ [(a, f, y)]) := by
  have hlen : (l ++ [(a, f, y)]).length = l.length + 1 := by rw [List.length_append]; rfl
  refine ⟨by omega, fun i hi => ?_⟩
  by_cases e : i = l.length
  · subst e
    rw [xq_eq]
    refine ⟨ha, fun z => ?_, fun z => ?_⟩
    · rcases hp with q | ⟨j, mv, j1, -⟩
      · exact q.2
      · omega
    · rcases hp with q | ⟨j, mv, j1, j2, j3, j4⟩
      · omega
      · refine ⟨j, mv, j1, j2, j3, ?_⟩
        rw [xq_lt j1]
        exact j4
  · have hi' : i < l.length := by omega
    obtain ⟨g1, g2, g3⟩ := h.2 i hi'
    rw [xq_lt hi']
    refine ⟨g1, g2, fun z => ?_⟩
    obtain ⟨j, mv, j1, j2, j3, j4⟩ := g3 z
    refine ⟨j, mv, j1, j2, j3, ?_⟩
    rw [xq_lt (by omega)]
    exact j4
/-- the reference with these STATES -/
def xI (σ : kS) (l : xT) : kS := va_up (va_up (va_up (va_up (va_up σ 284 (fun j => aD (xq l (j / 4)).1 (j % 4))) 285 (fun j => aV (xq l (j / 24)).1 (j % 24))) 286 (fun i => (xq l i).2.1)) 287 (fun i => (xq l i).2.2)) 232 (upd (σ 232) 69 (nI l.length))
theorem xI_sf (σ : kS) (l : xT) (n : Nat) : mSf σ (xI σ l) n := mSf_trans (mSf_up (c := 284) (by decide)) (mSf_trans (mSf_up (c := 285) (by decide)) (mSf_trans (mSf_up (c := 286) (by decide)) (mSf_trans (mSf_up (c := 287) (by decide)) (mSf_o (σ := va_up (va_up (va_up (va_up σ 284 (fun j => aD (xq l (j / 4)).1 (j % 4))) 285 (fun j => aV (xq l (j / 24)).1 (j % 24))) 286 (fun i => (xq l i).2.1)) 287 (fun i => (xq l i).2.2)) (j := 69) (by decide)))))
theorem xI_Ss {σ : kS} {n b R S : Nat} {l : xT} (h : mTb σ n b) (hR : mRo σ n R) (hS4 : S ≤ 4) (hx : xOk σ n R S l) : mSs (xI σ l) n R S l.length := by
  have d : ∀ i s, s < 4 → stD (xI σ l) i s = aD (xq l i).1 s := fun i s hs => by
    show aD (xq l ((4 * i + s) / 4)).1 ((4 * i + s) % 4) = _
    rw [show (4 * i + s) / 4 = i by omega, show (4 * i + s) % 4 = s by omega]
  have v : ∀ i s k, s < 4 → k < 6 → stV (xI σ l) i (6 * s + k) = aV (xq l i).1 (6 * s + k) := fun i s k hs hk => by
    show aV (xq l ((24 * i + (6 * s + k)) / 24)).1 ((24 * i + (6 * s + k)) % 24) = _
    rw [show (24 * i + (6 * s + k)) / 24 = i by omega, show (24 * i + (6 * s + k)) % 24 = 6 * s + k by omega]
  refine ⟨hx.1, by show upd (σ 232) 69 (nI l.length) 69 = _; rw [pk_us], fun i hi => ?_⟩
  obtain ⟨g1, g2, g3⟩ := hx.2 i hi
  refine ⟨cfg_ext (fun s hs => d i s (by omega)) (fun s k hs hk => v i s k (by omega) hk) (cfg_sf h hR (xI_sf σ l n) g1.2.1), fun e s hs => ?_, fun e => ?_⟩
  · rw [d i s (by omega)]
    exact g2 e s hs
  · obtain ⟨j, mv, j1, j2, j3, j4⟩ := g3 e
    exact ⟨j, mv, j1, j2, j3, stp_ext (fun s hs => d j s (by omega)) (fun s k hs hk => v j s k (by omega) hk) (fun s hs => d i s (by omega)) (fun s k hs hk => v i s k (by omega) hk) j4⟩
theorem tpI_1 (f : Nat → Int32) (l : Nat) : ∀ j, tpI f l (j + 1) = tpI f (fN (f l)) j
  | 0 => rfl
  | j + 1 => by
    show fN (f (tpI f l (j + 1))) = fN (f (tpI f (fN (f l)) j))
    rw [tpI_1 f l j]
/-- the way back, as a list and by its parents -/
theorem pth_tp {σ : kS} {P : Nat → Int32} {N : Nat} (hN : N ≤ 600) (hP : ∀ i, 0 < i → i < N → P i = σ 286 i) : ∀ (lp : List (Nat × Nat)) (i : Nat), i < N → pthR σ i lp → (∀ j, j < lp.length → 0 < tpI P i j) ∧ tpI P i lp.length = 0 ∧ (∀ j, j ≤ lp.length → tpI P i j < N) ∧ ∀ j (h : j < lp.length), (lp[j]'h).2 = tpI P i j ∧ σ 287 (tpI P i j) = nI (lp[j]'h).1
  | [], i, hi, h => ⟨fun j hj => absurd hj (Nat.not_lt_zero j), h, fun j hj => by
      obtain rfl : j = 0 := Nat.le_zero.mp hj
      exact hi, fun j hj => absurd hj (Nat.not_lt_zero j)⟩
  | (m, i') :: lp, i, hi, h => by
    obtain ⟨rfl, h0, h1, j, j1, j2, j3⟩ := h
    have hf : fN (P i') = j := by
      rw [hP i' h0 hi, j2]
      exact fN_nI (by omega)
    obtain ⟨a1, a2, a3, a4⟩ := pth_tp hN hP lp j (by omega) j3
    refine ⟨fun q hq => ?_, ?_, fun q hq => ?_, fun q hq => ?_⟩
    · cases q with
      | zero => exact h0
      | succ q =>
        rw [tpI_1, hf]
        exact a1 q (by simpa using hq)
    · rw [List.length_cons, tpI_1, hf]
      exact a2
    · cases q with
      | zero => exact hi
      | succ q =>
        rw [tpI_1, hf]
        exact a3 q (by simpa using hq)
    · cases q with
      | zero => exact ⟨rfl, h1⟩
      | succ q =>
        rw [tpI_1, hf]
        exact a4 q (by simpa using hq)
/-- the way back from the last STATE -/
theorem x_path {σ : kS} {n b R S : Nat} {l : xT} (h : mTb σ n b) (hR : mRo σ n R) (hS4 : S ≤ 4) (hx : xOk σ n R S l) (hl : 0 < l.length) : ∃ D, D ≤ 24 ∧ ∀ P : Nat → Int32, (∀ i, 0 < i → i < l.length → P i = (xq l i).2.1) → (∀ j, j < D → 0 < tpI P (l.length - 1) j) ∧ tpI P (l.length - 1) D = 0 := by
  have hT : mTb (xI σ l) n b := h
  have hR2 : mRo (xI σ l) n R := mSf_Ro h (xI_sf σ l n) hR
  have hSs := xI_Ss h hR hS4 hx
  obtain ⟨lp, p1, p2⟩ := pth_ex hSs (l.length - 1) (by omega)
  refine ⟨lp.length, pth_24 hR2 hS4 hSs hl p2, fun P hP => ?_⟩
  obtain ⟨a1, a2, -⟩ := pth_tp (σ := xI σ l) (P := P) hx.1 hP lp (l.length - 1) (by omega) p1
  exact ⟨a1, a2⟩
/-- the search's function keeps them -/
theorem sRe_ok {σ : kS} {kl : List Nat} {n R S C : Nat} {x : sX} {a : Nat → Int32} {f y : Int32} (h : xOk σ n R S x.1) (ha : aOk σ n R S a) (hp : (x.1.length = 0 ∧ ∀ s, s < S → a (7 * s) = 0) ∨ ∃ j mv, j < x.1.length ∧ f = nI j ∧ y = nI mv ∧ stp S (aD (xq x.1 j).1) (aV (xq x.1 j).1) (aD a) (aV a) mv) : xOk σ n R S (sRe σ kl S C x a f y).1 := by
  unfold sRe
  by_cases q : ∃ q ∈ x.1, q.1 = a
  · rw [cit_T q]
    exact h
  · rw [cit_F q]
    by_cases q2 : 600 ≤ x.1.length
    · rw [cit_T q2]
      exact h
    · rw [cit_F q2]
      exact xOk_push h (by omega) ha hp
