/-! a table of TERMS that holds together; one more TERM -/
def tbW (V AG : Nat → Prop) (K F S Z : Nat → Int32) : Prop := (∀ t, V t → t < 100000 ∧ tOk V AG K F S t) ∧ (∀ t, V t → Z t = nI (tsz K F S t)) ∧ ∀ t u, V t → V u → 3 < fN (K t) → K t = K u → F t = F u → S t = S u → t = u
theorem tOk_mono {V V' AG AG' : Nat → Prop} {K F S K' F' S' : Nat → Int32} {t : Nat} (hV : ∀ x, x < t → V x → V' x) (hA : ∀ x, x < t → AG x → AG' x) (e1 : K' t = K t) (e2 : F' t = F t) (e3 : S' t = S t) (h : tOk V AG K F S t) : tOk V' AG' K' F' S' t := by
  unfold tOk
  rw [e1, e2, e3]
  rcases h with ⟨k, h3, hk, h4, h5⟩ | ⟨k, x, y, h3, hk, hx, hy, h4, h5, h6, h7⟩ | ⟨k, x, h3, hk, hx, hy, h4, h6⟩
  · exact Or.inl ⟨k, h3, hk, h4, h5⟩
  · refine Or.inr (Or.inl ⟨k, x, y, ?_, hk, hx, hy, h4, h5, hV x h4 h6, hV y h5 h7⟩)
    rcases h3 with h3 | h3 | ⟨h3, h8⟩
    · exact Or.inl h3
    · exact Or.inr (Or.inl h3)
    · exact Or.inr (Or.inr ⟨h3, hA y h5 h8⟩)
  · refine Or.inr (Or.inr ⟨k, x, ?_, hk, hx, hy, h4, hV x h4 h6⟩)
    rcases h3 with h3 | ⟨h3, h8⟩
    · exact Or.inl h3
    · exact Or.inr ⟨h3, hA x h4 h8⟩
theorem tb_valid {V AG AG' : Nat → Prop} {K F S : Nat → Int32} {t : Nat} {w a c : Int32} (hW : ∀ t, V t → t < 100000 ∧ tOk V AG K F S t) (hm : ∀ u, V u → u < t) (ht : t < 100000) (hA : ∀ y, AG y → AG' y) (hn : tOk V AG' (upd K t w) (upd F t a) (upd S t c) t) :
    ∀ u, (V u ∨ u = t) → u < 100000 ∧ tOk (fun u => V u ∨ u = t) AG' (upd K t w) (upd F t a) (upd S t c) u := by
  intro u hu
  rcases hu with hu | rfl
  · have hl := hm u hu
    exact ⟨(hW u hu).1, tOk_mono (fun x _ h => Or.inl h) (fun x _ => hA x) (pk_un (by omega)) (pk_un (by omega)) (pk_un (by omega)) (hW u hu).2⟩
  · exact ⟨ht, tOk_mono (fun x _ h => Or.inl h) (fun x _ h => h) rfl rfl rfl hn⟩
/-- what is told of the old ones stays -/
theorem tb_old {α : Type} {lf lf' : Nat → α} {nd : Nat → α → Option α → α} {V AG : Nat → Prop} {K F S : Nat → Int32} {t : Nat} {w a c : Int32} (hW : ∀ t, V t → t < 100000 ∧ tOk V AG K F S t) (hm : ∀ u, V u → u < t) (hl : ∀ u, V u → lf' u = lf u) : ∀ u, V u → tA lf' nd (upd K t w) (upd F t a) (upd S t c) u = tA lf nd K F S u :=
  tA_congr hW (fun u hu => by
    have := hm u hu
    exact ⟨pk_un (by omega), pk_un (by omega), pk_un (by omega), hl u hu⟩)
theorem tb_push {V AG AG' : Nat → Prop} {K F S Z : Nat → Int32} {t : Nat} {w a c : Int32} (hW : tbW V AG K F S Z) (hm : ∀ u, V u → u < t) (ht : t < 100000) (hA : ∀ y, AG y → AG' y) (hn : tOk V AG' (upd K t w) (upd F t a) (upd S t c) t)
    (hu : 3 < fN w → ∀ u, V u → ¬ (K u = w ∧ F u = a ∧ S u = c)) : tbW (fun u => V u ∨ u = t) AG' (upd K t w) (upd F t a) (upd S t c) (upd Z t (nI (tsz (upd K t w) (upd F t a) (upd S t c) t))) := by
  refine ⟨tb_valid hW.1 hm ht hA hn, fun u h => ?_, fun u v h1 h2 h3 h4 h5 h6 => ?_⟩
  · rcases h with h | rfl
    · have := hm u h
      rw [pk_un (by omega), hW.2.1 u h]
      exact congrArg nI (tb_old hW.1 hm (fun _ _ => rfl) u h).symm
    · exact pk_us
  · rcases h1 with h1 | rfl
    · have l1 := hm u h1
      rw [pk_un (by omega)] at h3 h4 h5 h6
      rcases h2 with h2 | rfl
      · have l2 := hm v h2
        rw [pk_un (by omega)] at h4 h5 h6
        exact hW.2.2 u v h1 h2 h3 h4 h5 h6
      · rw [pk_us] at h4 h5 h6
        exact absurd ⟨h4, h5, h6⟩ (hu (by rw [← h4]; exact h3) u h1)
    · rcases h2 with h2 | rfl
      · have l2 := hm v h2
        rw [pk_us] at h3 h4 h5 h6
        rw [pk_un (by omega)] at h4 h5 h6
        exact absurd ⟨h4.symm, h5.symm, h6.symm⟩ (hu h3 v h2)
      · rfl
/-- of what a new TERM is: kind k, first x, second y (or none), all below bd -/
def tNw (k : Nat) (a c : Int32) (x y bd : Nat) : Prop := (k ≤ 3 ∧ a = -1 ∧ c = -1) ∨ ((k = 4 ∨ k = 5 ∨ k = 6 ∨ k = 8) ∧ a = nI x ∧ c = nI y ∧ x < bd ∧ y < bd) ∨ ((k = 7 ∨ k = 9) ∧ a = nI x ∧ c = -1 ∧ x < bd)
theorem tOk_new {V AG : Nat → Prop} {K F S : Nat → Int32} {t k x y : Nat} {a c : Int32} (h : tNw k a c x y t) (hx : 3 < k → V x) (hy : k = 4 ∨ k = 5 ∨ k = 6 ∨ k = 8 → V y) (h6 : k = 6 ∨ k = 8 → AG y) (h7 : k = 7 → AG x) : tOk V AG (upd K t (nI k)) (upd F t a) (upd S t c) t := by
  unfold tOk
  rw [pk_us, pk_us, pk_us]
  rcases h with ⟨h1, h2, h3⟩ | ⟨h1, h2, h3, h4, h5⟩ | ⟨h1, h2, h3, h4⟩
  · exact Or.inl ⟨k, h1, rfl, h2, h3⟩
  · refine Or.inr (Or.inl ⟨k, x, y, ?_, rfl, h2, h3, h4, h5, hx (by omega), hy h1⟩)
    rcases h1 with h1 | h1 | h1 | h1
    · exact Or.inl h1
    · exact Or.inr (Or.inl h1)
    · exact Or.inr (Or.inr ⟨Or.inl h1, h6 (Or.inl h1)⟩)
    · exact Or.inr (Or.inr ⟨Or.inr h1, h6 (Or.inr h1)⟩)
  · refine Or.inr (Or.inr ⟨k, x, ?_, rfl, h2, h3, h4, hx (by omega)⟩)
    rcases h1 with h1 | h1
    · exact Or.inr ⟨h1, h7 h1⟩
    · exact Or.inl h1
/-- any fold of the new TERM, by those of its parts -/
def tNd {α : Type} (nd : Nat → α → Option α → α) (l : α) (k : Nat) (a b : α) : α := if k ≤ 3 then l else if k = 7 ∨ k = 9 then nd k a none else nd k a (some b)
theorem tA_new {α : Type} {lf lf' : Nat → α} {nd : Nat → α → Option α → α} {V AG AG' : Nat → Prop} {K F S : Nat → Int32} {t k x y : Nat} {a c : Int32} (hW : ∀ t, V t → t < 100000 ∧ tOk V AG K F S t) (hm : ∀ u, V u → u < t) (ht : t < 100000) (hA : ∀ y, AG y → AG' y) (hl : ∀ u, V u → lf' u = lf u) (h : tNw k a c x y t) (hx : 3 < k → V x) (hy : k = 4 ∨ k = 5 ∨ k = 6 ∨ k = 8 → V y) (h6 : k = 6 ∨ k = 8 → AG' y) (h7 : k = 7 → AG' x) :
    tA lf' nd (upd K t (nI k)) (upd F t a) (upd S t c) t = tNd nd (lf' t) k (tA lf nd K F S x) (tA lf nd K F S y) := by
  have hV := tb_valid hW hm ht hA (tOk_new (K := K) (F := F) (S := S) h hx hy h6 h7)
  have ho := fun u hu => tb_old (lf := lf) (lf' := lf') (nd := nd) (w := nI k) (a := a) (c := c) hW hm hl u hu
  unfold tNd
  rcases h with ⟨h1, h2, h3⟩ | ⟨h1, h2, h3, h4, h5⟩ | ⟨h1, h2, h3, h4⟩
  · rw [if_pos h1]
    exact tA_0 pk_us h1
  · rw [if_neg (by omega), if_neg (by omega), tA_2 (x := x) (y := y) hV pk_us (pk_us.trans h2) (pk_us.trans h3) (by omega) (by omega) h4 h5 (Or.inl (hx (by omega))) (Or.inl (hy h1)), ho x (hx (by omega)), ho y (hy h1)]
  · rw [if_neg (by omega), if_pos h1, tA_1 (x := x) hV pk_us (pk_us.trans h2) (pk_us.trans h3) (by omega) (by omega) h4 (Or.inl (hx (by omega))), ho x (hx (by omega))]
theorem tNw_9 {k x y bd : Nat} {a c : Int32} (h : tNw k a c x y bd) : k ≤ 9 := by
  rcases h with h | h | h <;> omega
theorem tNw_x {k x y bd : Nat} {a c : Int32} (h : tNw k a c x y bd) (hk : 3 < k) : a = nI x ∧ x < bd := by
  rcases h with h | h | h
  · omega
  · exact ⟨h.2.1, h.2.2.2.1⟩
  · exact ⟨h.2.1, h.2.2.2⟩
theorem tNw_y {k x y bd : Nat} {a c : Int32} (h : tNw k a c x y bd) (hk : k = 4 ∨ k = 5 ∨ k = 6 ∨ k = 8) : c = nI y ∧ y < bd := by
  rcases h with h | h | h
  · omega
  · exact ⟨h.2.2.1, h.2.2.2.2⟩
  · omega
theorem tNw_mono {k x y bd bd' : Nat} {a c : Int32} (h : tNw k a c x y bd) (hb : bd ≤ bd') : tNw k a c x y bd' := by
  rcases h with h | h | h
  · exact Or.inl h
  · exact Or.inr (Or.inl ⟨h.1, h.2.1, h.2.2.1, by omega, by omega⟩)
  · exact Or.inr (Or.inr ⟨h.1, h.2.1, h.2.2.1, by omega⟩)
