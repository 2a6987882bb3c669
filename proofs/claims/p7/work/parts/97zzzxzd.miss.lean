/-! alike: missingFor -/
def knN (σ : kS) (n : Nat) (g : Jvm.Term) : Prop := ∃ t, t < n ∧ kTv σ t = g
/-- with each tree what it is of -/
def cloK (σ : kS) (n u : Nat) (L : List Jvm.Term) : Prop := ∀ x, 200 ≤ x → x < 200 + u → kTv σ x ∈ L → ∀ p, p < 2000 → (σ 3 x = nI p ∨ σ 4 x = nI p) → knN σ n (kTv σ p) ∨ kTv σ p ∈ L
section MISS
variable {σ : kS} {n u m : Nat} {l : rwT}
theorem kN_hi (h : iE σ 186 200 n u m l) {x : Nat} (x1 : 200 ≤ x) (x2 : x < 200 + u) : ¬ knN σ n (kTv σ x) := fun ⟨t, t1, t2⟩ => by
  have := kTv_inj h (Or.inl t1) (Or.inr ⟨x1, x2⟩) t2
  have := h.2.1
  omega
theorem k_of (h : iE σ 186 200 n u m l) {x : Nat} (x1 : 200 ≤ x) (x2 : x < 200 + u) : (∃ k p z, (k = 4 ∨ k = 5 ∨ ((k = 6 ∨ k = 8) ∧ kAG σ n z)) ∧ σ 2 x = nI k ∧ σ 3 x = nI p ∧ σ 4 x = nI z ∧ p < x ∧ z < x ∧ kV n 200 u p ∧ kV n 200 u z ∧ kTv σ x = vnd k (kTv σ p) (some (kTv σ z))) ∨ ∃ k p, (k = 9 ∨ (k = 7 ∧ kAG σ n p)) ∧ σ 2 x = nI k ∧ σ 3 x = nI p ∧ σ 4 x = -1 ∧ p < x ∧ kV n 200 u p ∧ kTv σ x = vnd k (kTv σ p) none := by
  have hk := (h.2.2.2.2.1.2.2.2.2.1 x x1 x2).1
  have hV := iE_V h
  rcases (hV x (Or.inr ⟨x1, x2⟩)).2 with ⟨k, h3, hk', -, -⟩ | ⟨k, p, z, h3, hk', hp, hz, h4, h5, h6, h7⟩ | ⟨k, p, h3, hk', hp, hz, h4, h6⟩
  · rw [hk', fN_nI (by omega)] at hk
    omega
  · exact Or.inl ⟨k, p, z, h3, hk', hp, hz, h4, h5, h6, h7, tvl_2 hV hk' hp hz (by omega) (by omega) h4 h5 h6 h7⟩
  · exact Or.inr ⟨k, p, h3, hk', hp, hz, h4, h6, tvl_1 hV hk' hp hz (by omega) (by omega) h4 h6⟩
/-- the order over the intruder's table -/
theorem po_tab (h : iE σ 186 200 n u m l) : ∀ g, kV n 200 u g → ∀ acc, cloK σ n u acc → acc.Pairwise (fun x y => x ≠ y) → (cloK σ n u (poT (knN σ n) (kTv σ g) acc) ∧ (poT (knN σ n) (kTv σ g) acc).Pairwise (fun x y => x ≠ y)) ∧ (∀ t ∈ poT (knN σ n) (kTv σ g) acc, t ∈ acc ∨ ∃ x, 200 ≤ x ∧ x < 200 + u ∧ x ≤ g ∧ t = kTv σ x) ∧ (knN σ n (kTv σ g) ∨ kTv σ g ∈ poT (knN σ n) (kTv σ g) acc) := by
  have hu := h.2.2.2.2.1.1
  intro g
  induction g using Nat.strongRecOn with
  | _ g ih =>
    intro hg acc hc hp
    by_cases hin : knN σ n (kTv σ g) ∨ kTv σ g ∈ acc
    · rw [poT_in hin]
      exact ⟨⟨hc, hp⟩, fun t ht => Or.inl ht, hin⟩
    obtain ⟨hn1, hn2⟩ := not_or.mp hin
    have hg2 : 200 ≤ g ∧ g < 200 + u := by
      rcases hg with q | q
      · exact absurd ⟨g, q, rfl⟩ hn1
      · exact q
    have fin : ∀ A : List Jvm.Term, cloK σ n u A → A.Pairwise (fun x y => x ≠ y) → (∀ t ∈ A, t ∈ acc ∨ ∃ x, 200 ≤ x ∧ x < 200 + u ∧ x < g ∧ t = kTv σ x) → (∀ p, p < 2000 → (σ 3 g = nI p ∨ σ 4 g = nI p) → knN σ n (kTv σ p) ∨ kTv σ p ∈ A) → (cloK σ n u (A ++ [kTv σ g]) ∧ (A ++ [kTv σ g]).Pairwise (fun x y => x ≠ y)) ∧ (∀ t ∈ A ++ [kTv σ g], t ∈ acc ∨ ∃ x, 200 ≤ x ∧ x < 200 + u ∧ x ≤ g ∧ t = kTv σ x) ∧ (knN σ n (kTv σ g) ∨ kTv σ g ∈ A ++ [kTv σ g]) := by
      intro A a1 a2 a3 a4
      have hgA : kTv σ g ∉ A := fun q => by
        rcases a3 _ q with z | ⟨x, x1, x2, x3, x4⟩
        · exact hn2 z
        · have := kTv_inj h (Or.inr hg2) (Or.inr ⟨x1, x2⟩) x4
          omega
      refine ⟨⟨fun x x1 x2 hx p hp' hf => ?_, ?_⟩, fun t ht => ?_, Or.inr (by simp)⟩
      · rcases List.mem_append.mp hx with q | q
        · exact (a1 x x1 x2 q p hp' hf).imp id (fun z => List.mem_append_left _ z)
        · rw [List.mem_singleton] at q
          obtain rfl := kTv_inj h (Or.inr ⟨x1, x2⟩) (Or.inr hg2) q
          exact (a4 p hp' hf).imp id (fun z => List.mem_append_left _ z)
      · refine List.pairwise_append.mpr ⟨a2, List.pairwise_singleton _ _, fun x hx y hy => ?_⟩
        rw [List.mem_singleton] at hy
        subst hy
        exact fun e => hgA (e ▸ hx)
      · rcases List.mem_append.mp ht with q | q
        · exact (a3 t q).imp id (fun ⟨x, x1, x2, x3, x4⟩ => ⟨x, x1, x2, by omega, x4⟩)
        · rw [List.mem_singleton] at q
          exact Or.inr ⟨g, hg2.1, hg2.2, Nat.le_refl _, q⟩
    rcases k_of h hg2.1 hg2.2 with ⟨k, p, z, h3, hk, hp', hz, h4, h5, h6, h7, e⟩ | ⟨k, p, h3, hk, hp', hz, h4, h6, e⟩
    · obtain ⟨⟨b1, b2⟩, b3, b4⟩ := ih p h4 h6 acc hc hp
      obtain ⟨⟨c1, c2⟩, c3, c4⟩ := ih z h5 h7 _ b1 b2
      have e2 : poT (knN σ n) (kTv σ g) acc = poT (knN σ n) (kTv σ z) (poT (knN σ n) (kTv σ p) acc) ++ [kTv σ g] := by
        rw [e] at hin ⊢
        rw [poT_2 (by omega), cit_F hin]
      rw [e2]
      refine fin _ c1 c2 (fun t ht => ?_) (fun q hq hf => ?_)
      · rcases c3 t ht with y | ⟨x, x1, x2, x3, x4⟩
        · rcases b3 t y with w | ⟨x, x1, x2, x3, x4⟩
          · exact Or.inl w
          · exact Or.inr ⟨x, x1, x2, by omega, x4⟩
        · exact Or.inr ⟨x, x1, x2, by omega, x4⟩
      · rcases hf with hf | hf
        · obtain rfl : p = q := nI_inj (hp'.symm.trans hf)
          exact b4.imp id poT_mono
        · obtain rfl : z = q := nI_inj (hz.symm.trans hf)
          exact c4
    · obtain ⟨⟨b1, b2⟩, b3, b4⟩ := ih p h4 h6 acc hc hp
      have e2 : poT (knN σ n) (kTv σ g) acc = poT (knN σ n) (kTv σ p) acc ++ [kTv σ g] := by
        rw [e] at hin ⊢
        rw [poT_1 (by omega), cit_F hin]
      rw [e2]
      refine fin _ b1 b2 (fun t ht => ?_) (fun q hq hf => ?_)
      · rcases b3 t ht with w | ⟨x, x1, x2, x3, x4⟩
        · exact Or.inl w
        · exact Or.inr ⟨x, x1, x2, by omega, x4⟩
      · rcases hf with hf | hf
        · obtain rfl : p = q := nI_inj (hp'.symm.trans hf)
          exact b4
        · exact absurd (hf.symm.trans hz) (nI_m1 (by omega))
theorem cloK_nil : cloK σ n u [] := fun _ _ _ hx => absurd hx List.not_mem_nil
/-- the least: what holds of g and of all that this is of -/
theorem po_least (h : iE σ 186 200 n u m l) {Z : Nat → Prop} (hZ : ∀ x, 200 ≤ x → x < 200 + u → Z x → ∀ p, 200 ≤ p → p < 200 + u → (σ 3 x = nI p ∨ σ 4 x = nI p) → Z p) : ∀ g, kV n 200 u g → (200 ≤ g → Z g) → ∀ acc, (∀ t ∈ acc, ∃ x, 200 ≤ x ∧ x < 200 + u ∧ Z x ∧ t = kTv σ x) → ∀ t ∈ poT (knN σ n) (kTv σ g) acc, ∃ x, 200 ≤ x ∧ x < 200 + u ∧ Z x ∧ t = kTv σ x := by
  have hn := h.2.1
  intro g
  induction g using Nat.strongRecOn with
  | _ g ih =>
    intro hg hZg acc ha t ht
    by_cases hin : knN σ n (kTv σ g) ∨ kTv σ g ∈ acc
    · rw [poT_in hin] at ht
      exact ha t ht
    have hg2 : 200 ≤ g ∧ g < 200 + u := by
      rcases hg with q | q
      · exact absurd (Or.inl ⟨g, q, rfl⟩) hin
      · exact q
    have hch : ∀ p, kV n 200 u p → (σ 3 g = nI p ∨ σ 4 g = nI p) → 200 ≤ p → Z p := fun p hp hf h2 => hZ g hg2.1 hg2.2 (hZg hg2.1) p h2 (by unfold kV at hp; omega) hf
    rcases k_of h hg2.1 hg2.2 with ⟨k, p, z, h3, hk, hp', hz, h4, h5, h6, h7, e⟩ | ⟨k, p, h3, hk, hp', hz, h4, h6, e⟩
    · rw [show poT (knN σ n) (kTv σ g) acc = poT (knN σ n) (kTv σ z) (poT (knN σ n) (kTv σ p) acc) ++ [kTv σ g] by rw [e] at hin ⊢; rw [poT_2 (by omega), cit_F hin]] at ht
      rcases List.mem_append.mp ht with q | q
      · exact ih z h5 h7 (hch z h7 (Or.inr hz)) _ (ih p h4 h6 (hch p h6 (Or.inl hp')) acc ha) t q
      · rw [List.mem_singleton] at q
        exact ⟨g, hg2.1, hg2.2, hZg hg2.1, q⟩
    · rw [show poT (knN σ n) (kTv σ g) acc = poT (knN σ n) (kTv σ p) acc ++ [kTv σ g] by rw [e] at hin ⊢; rw [poT_1 (by omega), cit_F hin]] at ht
      rcases List.mem_append.mp ht with q | q
      · exact ih p h4 h6 (hch p h6 (Or.inl hp')) acc ha t q
      · rw [List.mem_singleton] at q
        exact ⟨g, hg2.1, hg2.2, hZg hg2.1, q⟩
end MISS
