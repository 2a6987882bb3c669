/-! tops of chains, chains -/
/-- x is the number of the largest below bd of which P holds, or -1 -/
def isTop (P : Nat → Prop) (bd : Nat) (x : Int32) : Prop := (x = -1 ∧ ∀ t, t < bd → ¬ P t) ∨ ∃ t, t < bd ∧ x = nI t ∧ P t ∧ ∀ t', t < t' → t' < bd → ¬ P t'
def hcP (M B : Nat) (V : Nat → Prop) (pl : Nat → Nat) (hd nx : Nat → Int32) : Prop := (∀ h, h < M → isTop (fun t => V t ∧ pl t = h) B (hd h)) ∧ ∀ t, V t → isTop (fun t' => V t' ∧ pl t' = pl t) t (nx t)
theorem isTop_congr {P P' : Nat → Prop} {bd : Nat} {x : Int32} (h : ∀ t, t < bd → (P t ↔ P' t)) (g : isTop P bd x) : isTop P' bd x := by
  rcases g with ⟨g1, g2⟩ | ⟨t, g1, g2, g3, g4⟩
  · exact Or.inl ⟨g1, fun t ht hp => g2 t ht ((h t ht).mpr hp)⟩
  · exact Or.inr ⟨t, g1, g2, (h t g1).mp g3, fun t' h1 h2 hp => g4 t' h1 h2 ((h t' h2).mpr hp)⟩
theorem isTop_wide {P : Nat → Prop} {bd bd' : Nat} {x : Int32} (h : bd ≤ bd') (hn : ∀ t, bd ≤ t → t < bd' → ¬ P t) (g : isTop P bd x) : isTop P bd' x := by
  rcases g with ⟨g1, g2⟩ | ⟨t, g1, g2, g3, g4⟩
  · exact Or.inl ⟨g1, fun t ht => by
      by_cases hb : t < bd
      · exact g2 t hb
      · exact hn t (by omega) ht⟩
  · exact Or.inr ⟨t, by omega, g2, g3, fun t' h1 h2 => by
      by_cases hb : t' < bd
      · exact g4 t' h1 hb
      · exact hn t' (by omega) h2⟩
theorem hcP_congr {M B : Nat} {V V' : Nat → Prop} {pl pl' : Nat → Nat} {hd nx : Nat → Int32} (hV : ∀ t, V t ↔ V' t) (hp : ∀ t, V t → pl t = pl' t) (g : hcP M B V pl hd nx) : hcP M B V' pl' hd nx := by
  have key : ∀ h t, (V t ∧ pl t = h) ↔ (V' t ∧ pl' t = h) := fun h t => ⟨fun q => ⟨(hV t).mp q.1, by rw [← hp t q.1]; exact q.2⟩, fun q => ⟨(hV t).mpr q.1, by rw [hp t ((hV t).mpr q.1)]; exact q.2⟩⟩
  refine ⟨fun h hh => isTop_congr (fun t _ => key h t) (g.1 h hh), fun t ht => ?_⟩
  have := g.2 t ((hV t).mpr ht)
  rw [hp t ((hV t).mpr ht)] at this
  exact isTop_congr (fun t' _ => key _ t') this
theorem hcP_pop {M B : Nat} {V : Nat → Prop} {pl : Nat → Nat} {hd nx : Nat → Int32} {t : Nat} (g : hcP M B V pl hd nx) (ht : V t) (hm : ∀ t', V t' → t' ≤ t) (hb : t < B) : hcP M B (fun t' => V t' ∧ t' ≠ t) pl (upd hd (pl t) (nx t)) nx := by
  refine ⟨fun h hh => ?_, fun t1 h1 => ?_⟩
  · by_cases e : h = pl t
    · subst e
      rw [pk_us]
      refine isTop_wide (Nat.le_of_lt hb) (fun t2 h2 h3 q => ?_) (isTop_congr (fun t2 h2 => ⟨fun q => ⟨⟨q.1, by omega⟩, q.2⟩, fun q => ⟨q.1.1, q.2⟩⟩) (g.2 t ht))
      have := hm t2 q.1.1
      exact q.1.2 (by omega)
    · rw [pk_un e]
      exact isTop_congr (fun t2 h2 => ⟨fun q => ⟨⟨q.1, fun h => e (by rw [← q.2, h])⟩, q.2⟩, fun q => ⟨q.1.1, q.2⟩⟩) (g.1 h hh)
  · refine isTop_congr (fun t2 h2 => ⟨fun q => ⟨⟨q.1, ?_⟩, q.2⟩, fun q => ⟨q.1.1, q.2⟩⟩) (g.2 t1 h1.1)
    have := hm t1 h1.1
    omega
theorem hcP_push {M B : Nat} {V : Nat → Prop} {pl : Nat → Nat} {hd nx : Nat → Int32} {t : Nat} (g : hcP M B V pl hd nx) (hm : ∀ t', V t' → t' < t) (hb : t < B) (hp : pl t < M) : hcP M B (fun t' => V t' ∨ t' = t) pl (upd hd (pl t) (nI t)) (upd nx t (hd (pl t))) := by
  refine ⟨fun h hh => ?_, fun t1 h1 => ?_⟩
  · by_cases e : h = pl t
    · subst e
      rw [pk_us]
      refine Or.inr ⟨t, hb, rfl, ⟨Or.inr rfl, rfl⟩, fun t' h1 h2 q => ?_⟩
      rcases q.1 with q | q
      · have := hm t' q
        omega
      · omega
    · rw [pk_un e]
      exact isTop_congr (fun t2 h2 => ⟨fun q => ⟨Or.inl q.1, q.2⟩, fun q => ⟨q.1.elim id (fun h => absurd (by rw [← q.2, h]) e), q.2⟩⟩) (g.1 h hh)
  · rcases h1 with h1 | rfl
    · have hlt := hm t1 h1
      rw [pk_un (by omega)]
      exact isTop_congr (fun t2 h2 => ⟨fun q => ⟨Or.inl q.1, q.2⟩, fun q => ⟨q.1.elim id (fun h => by omega), q.2⟩⟩) (g.2 t1 h1)
    · rw [pk_us]
      have := g.1 (pl t1) hp
      rcases this with ⟨q1, q2⟩ | ⟨t2, q1, q2, q3, q4⟩
      · exact Or.inl ⟨q1, fun t2 h2 q => q2 t2 (by omega) ⟨q.1.elim id (fun h => by omega), q.2⟩⟩
      · exact Or.inr ⟨t2, hm t2 q3.1, q2, ⟨Or.inl q3.1, q3.2⟩, fun t3 h3 h4 q => q4 t3 h3 (by omega) ⟨q.1.elim id (fun h => by omega), q.2⟩⟩
