/-! alike: the order in which TERMS get numbers -/
/-- what has no number in g, each behind what it is of, behind acc -/
noncomputable def poT (N : Jvm.Term → Prop) : Jvm.Term → List Jvm.Term → List Jvm.Term
  | .add a b, acc => cit (N (.add a b) ∨ .add a b ∈ acc) acc (poT N b (poT N a acc) ++ [.add a b])
  | .sub a b, acc => cit (N (.sub a b) ∨ .sub a b ∈ acc) acc (poT N b (poT N a acc) ++ [.sub a b])
  | .mul a b, acc => cit (N (.mul a b) ∨ .mul a b ∈ acc) acc (poT N b (poT N a acc) ++ [.mul a b])
  | .div a b, acc => cit (N (.div a b) ∨ .div a b ∈ acc) acc (poT N b (poT N a acc) ++ [.div a b])
  | .sum a, acc => cit (N (.sum a) ∨ .sum a ∈ acc) acc (poT N a acc ++ [.sum a])
  | .length a, acc => cit (N (.length a) ∨ .length a ∈ acc) acc (poT N a acc ++ [.length a])
  | _, acc => acc
section PO
variable {N : Jvm.Term → Prop}
theorem poT_2 {k : Nat} (hk : k = 4 ∨ k = 5 ∨ k = 6 ∨ k = 8) (a b : Jvm.Term) (acc : List Jvm.Term) : poT N (vnd k a (some b)) acc = cit (N (vnd k a (some b)) ∨ vnd k a (some b) ∈ acc) acc (poT N b (poT N a acc) ++ [vnd k a (some b)]) := by
  rcases hk with rfl | rfl | rfl | rfl <;> rfl
theorem poT_1 {k : Nat} (hk : k = 7 ∨ k = 9) (a : Jvm.Term) (acc : List Jvm.Term) : poT N (vnd k a none) acc = cit (N (vnd k a none) ∨ vnd k a none ∈ acc) acc (poT N a acc ++ [vnd k a none]) := by
  rcases hk with rfl | rfl <;> rfl
theorem poT_in {g : Jvm.Term} {acc : List Jvm.Term} (h : N g ∨ g ∈ acc) : poT N g acc = acc := by
  cases g <;> first | rfl | exact cit_T h
theorem poT_pre : ∀ (g : Jvm.Term) (acc : List Jvm.Term), ∃ r, poT N g acc = acc ++ r := by
  intro g
  have two : ∀ (a b g : Jvm.Term) (acc : List Jvm.Term), (∀ acc, ∃ r, poT N a acc = acc ++ r) → (∀ acc, ∃ r, poT N b acc = acc ++ r) → ∃ r, cit (N g ∨ g ∈ acc) acc (poT N b (poT N a acc) ++ [g]) = acc ++ r := fun a b g acc ha hb => by
    by_cases h : N g ∨ g ∈ acc
    · exact ⟨[], by rw [cit_T h, List.append_nil]⟩
    · obtain ⟨r1, e1⟩ := ha acc
      obtain ⟨r2, e2⟩ := hb (acc ++ r1)
      exact ⟨r1 ++ r2 ++ [g], by rw [cit_F h, e1, e2]; simp⟩
  have one : ∀ (a g : Jvm.Term) (acc : List Jvm.Term), (∀ acc, ∃ r, poT N a acc = acc ++ r) → ∃ r, cit (N g ∨ g ∈ acc) acc (poT N a acc ++ [g]) = acc ++ r := fun a g acc ha => by
    by_cases h : N g ∨ g ∈ acc
    · exact ⟨[], by rw [cit_T h, List.append_nil]⟩
    · obtain ⟨r1, e1⟩ := ha acc
      exact ⟨r1 ++ [g], by rw [cit_F h, e1]; simp⟩
  induction g with
  | add a b ha hb => exact fun acc => two a b _ acc ha hb
  | sub a b ha hb => exact fun acc => two a b _ acc ha hb
  | mul a b ha hb => exact fun acc => two a b _ acc ha hb
  | div a b ha hb => exact fun acc => two a b _ acc ha hb
  | sum a ha => exact fun acc => one a _ acc ha
  | length a ha => exact fun acc => one a _ acc ha
  | _ => exact fun acc => ⟨[], (List.append_nil _).symm⟩
theorem poT_mono {g h : Jvm.Term} {acc : List Jvm.Term} (hm : h ∈ acc) : h ∈ poT N g acc := by
  obtain ⟨r, e⟩ := poT_pre (N := N) g acc
  rw [e]
  exact List.mem_append_left _ hm
theorem poT_len {g : Jvm.Term} {acc : List Jvm.Term} : acc.length ≤ (poT N g acc).length := by
  obtain ⟨r, e⟩ := poT_pre (N := N) g acc
  rw [e, List.length_append]
  omega
/-- what comes is not larger -/
theorem poT_sz : ∀ (g h : Jvm.Term) (acc : List Jvm.Term), h ∈ poT N g acc → h ∈ acc ∨ vsz h ≤ vsz g := by
  intro g
  have two : ∀ (a b g h : Jvm.Term) (acc : List Jvm.Term), (∀ h acc, h ∈ poT N a acc → h ∈ acc ∨ vsz h ≤ vsz a) → (∀ h acc, h ∈ poT N b acc → h ∈ acc ∨ vsz h ≤ vsz b) → vsz a ≤ vsz g → vsz b ≤ vsz g → h ∈ cit (N g ∨ g ∈ acc) acc (poT N b (poT N a acc) ++ [g]) → h ∈ acc ∨ vsz h ≤ vsz g := fun a b g h acc ha hb h1 h2 hm => by
    by_cases hh : N g ∨ g ∈ acc
    · rw [cit_T hh] at hm
      exact Or.inl hm
    · rw [cit_F hh] at hm
      rcases List.mem_append.mp hm with q | q
      · rcases hb h _ q with z | z
        · rcases ha h _ z with y | y
          · exact Or.inl y
          · exact Or.inr (by omega)
        · exact Or.inr (by omega)
      · rw [List.mem_singleton] at q
        subst q
        exact Or.inr (Nat.le_refl _)
  have one : ∀ (a g h : Jvm.Term) (acc : List Jvm.Term), (∀ h acc, h ∈ poT N a acc → h ∈ acc ∨ vsz h ≤ vsz a) → vsz a ≤ vsz g → h ∈ cit (N g ∨ g ∈ acc) acc (poT N a acc ++ [g]) → h ∈ acc ∨ vsz h ≤ vsz g := fun a g h acc ha h1 hm => by
    by_cases hh : N g ∨ g ∈ acc
    · rw [cit_T hh] at hm
      exact Or.inl hm
    · rw [cit_F hh] at hm
      rcases List.mem_append.mp hm with q | q
      · rcases ha h _ q with y | y
        · exact Or.inl y
        · exact Or.inr (by omega)
      · rw [List.mem_singleton] at q
        subst q
        exact Or.inr (Nat.le_refl _)
  induction g with
  | add a b ha hb => exact fun h acc => two a b _ h acc ha hb (by simp only [vsz]; omega) (by simp only [vsz]; omega)
  | sub a b ha hb => exact fun h acc => two a b _ h acc ha hb (by simp only [vsz]; omega) (by simp only [vsz]; omega)
  | mul a b ha hb => exact fun h acc => two a b _ h acc ha hb (by simp only [vsz]; omega) (by simp only [vsz]; omega)
  | div a b ha hb => exact fun h acc => two a b _ h acc ha hb (by simp only [vsz]; omega) (by simp only [vsz]; omega)
  | sum a ha => exact fun h acc => one a _ h acc ha (by simp only [vsz]; omega)
  | length a ha => exact fun h acc => one a _ h acc ha (by simp only [vsz]; omega)
  | _ => exact fun h acc hm => Or.inl hm
/-- g itself has a number or comes -/
theorem poT_self2 {k : Nat} (hk : k = 4 ∨ k = 5 ∨ k = 6 ∨ k = 8) (a b : Jvm.Term) (acc : List Jvm.Term) : N (vnd k a (some b)) ∨ vnd k a (some b) ∈ poT N (vnd k a (some b)) acc := by
  rw [poT_2 hk]
  by_cases h : N (vnd k a (some b)) ∨ vnd k a (some b) ∈ acc
  · rw [cit_T h]
    exact h
  · rw [cit_F h]
    exact Or.inr (by simp)
theorem poT_self1 {k : Nat} (hk : k = 7 ∨ k = 9) (a : Jvm.Term) (acc : List Jvm.Term) : N (vnd k a none) ∨ vnd k a none ∈ poT N (vnd k a none) acc := by
  rw [poT_1 hk]
  by_cases h : N (vnd k a none) ∨ vnd k a none ∈ acc
  · rw [cit_T h]
    exact h
  · rw [cit_F h]
    exact Or.inr (by simp)
/-- a stack that still waits, its top last -/
noncomputable def fiT (N : Jvm.Term → Prop) (sk l : List Jvm.Term) : List Jvm.Term := sk.foldr (poT N) l
theorem fiT_snoc {sk l : List Jvm.Term} {x : Jvm.Term} : fiT N (sk ++ [x]) l = fiT N sk (poT N x l) := by
  unfold fiT
  rw [List.foldr_append]
  rfl
/-- the first waits -/
theorem po_push1 {k : Nat} (hk : k = 4 ∨ k = 5 ∨ k = 6 ∨ k = 8) {a b : Jvm.Term} {l : List Jvm.Term} (h1 : ¬ N (vnd k a (some b))) (h2 : vnd k a (some b) ∉ l) (hs : N a ∨ a ∈ poT N a l) : poT N (vnd k a (some b)) (poT N a l) = poT N (vnd k a (some b)) l := by
  have h3 : vnd k a (some b) ∉ poT N a l := fun q => by
    rcases poT_sz a _ l q with z | z
    · exact h2 z
    · rw [vsz_nd2] at z
      omega
  rw [poT_2 hk, poT_2 hk, cit_F (not_or.mpr ⟨h1, h3⟩), cit_F (not_or.mpr ⟨h1, h2⟩), poT_in hs]
/-- the second waits -/
theorem po_push2 {k : Nat} (hk : k = 4 ∨ k = 5 ∨ k = 6 ∨ k = 8) {a b : Jvm.Term} {l : List Jvm.Term} (h1 : ¬ N (vnd k a (some b))) (h2 : vnd k a (some b) ∉ l) (ha : N a ∨ a ∈ l) (hs : N b ∨ b ∈ poT N b l) : poT N (vnd k a (some b)) (poT N b l) = poT N (vnd k a (some b)) l := by
  have h3 : vnd k a (some b) ∉ poT N b l := fun q => by
    rcases poT_sz b _ l q with z | z
    · exact h2 z
    · rw [vsz_nd2] at z
      omega
  rw [poT_2 hk, poT_2 hk, cit_F (not_or.mpr ⟨h1, h3⟩), cit_F (not_or.mpr ⟨h1, h2⟩), poT_in (acc := poT N b l) (ha.imp id poT_mono), poT_in hs, poT_in ha]
theorem po_ord2 {k : Nat} (hk : k = 4 ∨ k = 5 ∨ k = 6 ∨ k = 8) {a b : Jvm.Term} {l : List Jvm.Term} (h1 : ¬ N (vnd k a (some b))) (h2 : vnd k a (some b) ∉ l) (ha : N a ∨ a ∈ l) (hb : N b ∨ b ∈ l) : poT N (vnd k a (some b)) l = l ++ [vnd k a (some b)] := by
  rw [poT_2 hk, cit_F (not_or.mpr ⟨h1, h2⟩), poT_in ha, poT_in hb]
theorem po_pushA {k : Nat} (hk : k = 7 ∨ k = 9) {a : Jvm.Term} {l : List Jvm.Term} (h1 : ¬ N (vnd k a none)) (h2 : vnd k a none ∉ l) (hs : N a ∨ a ∈ poT N a l) : poT N (vnd k a none) (poT N a l) = poT N (vnd k a none) l := by
  have h3 : vnd k a none ∉ poT N a l := fun q => by
    rcases poT_sz a _ l q with z | z
    · exact h2 z
    · rw [vsz_nd1] at z
      omega
  rw [poT_1 hk, poT_1 hk, cit_F (not_or.mpr ⟨h1, h3⟩), cit_F (not_or.mpr ⟨h1, h2⟩), poT_in hs]
theorem po_ord1 {k : Nat} (hk : k = 7 ∨ k = 9) {a : Jvm.Term} {l : List Jvm.Term} (h1 : ¬ N (vnd k a none)) (h2 : vnd k a none ∉ l) (ha : N a ∨ a ∈ l) : poT N (vnd k a none) l = l ++ [vnd k a none] := by
  rw [poT_1 hk, cit_F (not_or.mpr ⟨h1, h2⟩), poT_in ha]
end PO
