/-! the reference: findOrder, its way down -/
theorem cnt_rng {f : Nat → Prop} {lo hi : Nat} (h : ∀ t, f t → lo ≤ t ∧ t < hi) : ∀ m, cnt f m ≤ min m hi - lo
  | 0 => by simp [cnt]
  | m + 1 => by
    have := cnt_rng h m
    unfold cnt
    split
    · next e =>
      have := h m e
      omega
    · omega
theorem first_idx {y : Nat} : ∀ (l : List Nat), y ∈ l → ∃ i, ∃ h : i < l.length, l[i] = y ∧ ∀ j (hj : j < l.length), j < i → l[j] ≠ y
  | [], h => by cases h
  | a :: l, h => by
    by_cases e : a = y
    · exact ⟨0, by simp, by simpa using e, fun j _ hj => absurd hj (Nat.not_lt_zero _)⟩
    · have h : y ∈ l := by
        rcases List.mem_cons.mp h with h | h
        · exact absurd h.symm e
        · exact h
      obtain ⟨i, h1, h2, h3⟩ := first_idx l h
      refine ⟨i + 1, by simp; omega, by simpa using h2, fun j hj hji => ?_⟩
      cases j with
      | zero => simpa using e
      | succ j => simpa using h3 j (by simp at hj; omega) (by omega)
/-- TERMS without numbers, each behind what it is of -/
def foL (σ : kS) (b : Nat) (l : List Nat) : Prop := (∀ x ∈ l, 200 ≤ x ∧ x < b ∧ tsz (σ 233) (σ 234) (σ 235) x ≤ 24) ∧ cnt (fun x => x ∈ l) 1000 = l.length ∧ (∀ i (h : i < l.length) y, 200 ≤ y → (σ 234 (l[i]'h) = nI y ∨ σ 235 (l[i]'h) = nI y) → y < 1000 → y ∈ l.take i) ∧ l.Pairwise (fun x y => x ≠ y)
theorem foL_nil (σ : kS) (b : Nat) : foL σ b [] := ⟨fun x hx => (by cases hx), by
  have := cnt_rng (f := fun x : Nat => x ∈ ([] : List Nat)) (lo := 0) (hi := 0) (fun t ht => (by cases ht)) 1000
  simp at this ⊢
  omega, fun i h => absurd h (Nat.not_lt_zero i), List.Pairwise.nil⟩
theorem foL_len {σ : kS} {b : Nat} {l : List Nat} (h : foL σ b l) (hb : b ≤ 776) : l.length ≤ 576 := by
  have := cnt_rng (f := fun x => x ∈ l) (lo := 200) (hi := b) (fun t ht => ⟨(h.1 t ht).1, (h.1 t ht).2.1⟩) 1000
  rw [h.2.1] at this
  omega
theorem foL_push {σ : kS} {b x : Nat} {l : List Nat} (h : foL σ b l) (hb : b ≤ 1000) (h1 : 200 ≤ x) (h2 : x < b) (h3 : tsz (σ 233) (σ 234) (σ 235) x ≤ 24) (h4 : x ∉ l) (h5 : ∀ y, 200 ≤ y → (σ 234 x = nI y ∨ σ 235 x = nI y) → y < 1000 → y ∈ l) : foL σ b (l ++ [x]) := by
  refine ⟨fun y hy => ?_, ?_, fun i hi y hy1 hy2 hy3 => ?_, ?_⟩
  · rcases List.mem_append.mp hy with q | q
    · exact h.1 y q
    · rw [List.mem_singleton] at q
      subst q
      exact ⟨h1, h2, h3⟩
  · rw [cnt_add (f := fun y => y ∈ l) (t := x) h4 (fun u => by simp) 1000 (by omega), h.2.1]
    simp
  · simp only [List.length_append, List.length_cons, List.length_nil] at hi
    by_cases e : i = l.length
    · subst e
      simp only [List.getElem_append_right (Nat.le_refl _), Nat.sub_self, List.getElem_cons_zero] at hy2
      have := h5 y hy1 hy2 hy3
      simpa using this
    · have hl : i < l.length := by omega
      rw [List.getElem_append_left hl] at hy2
      rw [List.take_append_of_le_length (by omega)]
      exact h.2.2.1 i hl y hy1 hy2 hy3
  · rw [List.pairwise_append]
    refine ⟨h.2.2.2, List.pairwise_singleton _ _, fun u hu v hv => ?_⟩
    rw [List.mem_singleton] at hv
    subst hv
    exact fun e => h4 (e ▸ hu)
/-- where findOrder stands -/
def foI (σ : kS) (b t : Nat) (sk l : List Nat) (W I O : Nat → Int32) : Prop := lst W sk ∧ lst O l ∧ (∀ x ∈ sk, 200 ≤ x ∧ x < b ∧ tsz (σ 233) (σ 234) (σ 235) x ≤ 24 ∧ x ∉ l) ∧ sk.Pairwise (fun x y => y < x) ∧ (∀ i (h : i < sk.length), (sk[i]'h) + i < b) ∧ (∀ j, 200 ≤ j → j < b → I j = isB (j ∈ l)) ∧ foL σ b l ∧ (t ∈ sk ∨ t ∈ l)
def foS (σ : kS) (W I O : Nat → Int32) (m : Int32) : kS := va_up (va_up (va_up (va_up σ 252 W) 280 I) 279 O) 232 (upd (σ 232) 61 m)
theorem foI_len {σ : kS} {b t : Nat} {sk l : List Nat} {W I O : Nat → Int32} (h : foI σ b t sk l W I O) (hb : b ≤ 776) : sk.length ≤ 576 := by
  rcases snoc_cases sk with rfl | ⟨s, x, rfl⟩
  · simp
  · have h1 := (h.2.2.1 x (by simp)).1
    have h2 := h.2.2.2.2.1 s.length (by simp)
    simp at h2 ⊢
    omega
/-- one more that waits -/
theorem foI_push {σ : kS} {b t x y : Nat} {s l : List Nat} {W I O : Nat → Int32} (h : foI σ b t (s ++ [x]) l W I O) (h1 : 200 ≤ y) (h2 : y < x) (h3 : tsz (σ 233) (σ 234) (σ 235) y ≤ 24) (h4 : y ∉ l) : foI σ b t (s ++ [x] ++ [y]) l (upd W (s ++ [x]).length (nI y)) I O := by
  obtain ⟨g1, g2, g3, g4, g5, g6, g7, g8⟩ := h
  refine ⟨lst_push g1 y, g2, fun u hu => ?_, ?_, fun i hi => ?_, g6, g7, ?_⟩
  · rcases List.mem_append.mp hu with q | q
    · exact g3 u q
    · rw [List.mem_singleton] at q
      subst q
      have := g3 x (by simp)
      exact ⟨h1, by omega, h3, h4⟩
  · rw [List.pairwise_append]
    refine ⟨g4, List.pairwise_singleton _ _, fun u hu v hv => ?_⟩
    rw [List.mem_singleton] at hv
    subst hv
    rcases List.mem_append.mp hu with q | q
    · have := (List.pairwise_append.mp g4).2.2 u q x (by simp)
      omega
    · rw [List.mem_singleton] at q
      omega
  · by_cases e : i < (s ++ [x]).length
    · rw [List.getElem_append_left e]
      exact g5 i e
    · have e2 : i = (s ++ [x]).length := by
        simp at hi e ⊢
        omega
      subst e2
      rw [List.getElem_append_right (Nat.le_refl _)]
      have := g5 s.length (by simp)
      simp at this ⊢
      omega
  · rcases g8 with q | q
    · exact Or.inl (List.mem_append_left _ q)
    · exact Or.inr q
/-- one more in the order -/
theorem foI_ord {σ : kS} {b t x : Nat} {s l : List Nat} {W I O : Nat → Int32} (h : foI σ b t (s ++ [x]) l W I O) (hb : b ≤ 1000) (h5 : ∀ y, 200 ≤ y → (σ 234 x = nI y ∨ σ 235 x = nI y) → y < 1000 → y ∈ l) : foI σ b t s (l ++ [x]) W (upd I x 1) (upd O l.length (nI x)) := by
  obtain ⟨g1, g2, g3, g4, g5, g6, g7, g8⟩ := h
  obtain ⟨x1, x2, x3, x4⟩ := g3 x (by simp)
  have hp := List.pairwise_append.mp g4
  refine ⟨(lst_pop g1).2, lst_push g2 x, fun u hu => ?_, hp.1, fun i hi => ?_, fun j j1 j2 => ?_, foL_push g7 hb x1 x2 x3 x4 h5, ?_⟩
  · obtain ⟨a1, a2, a3, a4⟩ := g3 u (by simp [hu])
    have := hp.2.2 u hu x (by simp)
    exact ⟨a1, a2, a3, by
      simp only [List.mem_append, List.mem_singleton, not_or]
      exact ⟨a4, by omega⟩⟩
  · have := g5 i (by simp; omega)
    rw [List.getElem_append_left hi] at this
    exact this
  · by_cases e : j = x
    · subst e
      rw [pk_us, isB_T (by simp)]
    · rw [pk_un e, g6 j j1 j2]
      have : (j ∈ l) = (j ∈ l ++ [x]) := propext ⟨fun q => by simp [q], fun q => by
        rcases List.mem_append.mp q with q | q
        · exact q
        · exact absurd (List.mem_singleton.mp q) e⟩
      rw [this]
  · rcases g8 with q | q
    · rcases List.mem_append.mp q with q | q
      · exact Or.inl q
      · exact Or.inr (List.mem_append_right _ q)
    · exact Or.inr (List.mem_append_left _ q)
