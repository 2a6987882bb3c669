section
/-! tools: branches, updates, comparisons over numbers, loops by a measure, locals in any order -/
theorem va_case {σ : kS} {i c : Nat} {F x : Nat → Int32} (h1 : c = i → F = x) (h2 : c ≠ i → σ c = x) : va_up σ i F c = x := by
  by_cases h : c = i
  · exact (if_pos h).trans (h1 h)
  · exact (if_neg h).trans (h2 h)
theorem va_case2 {σ : kS} {i c : Nat} {F x : Nat → Int32} (h1 : c = i → x = F) (h2 : c ≠ i → x = σ c) : x = va_up σ i F c := (va_case (fun h => (h1 h).symm) (fun h => (h2 h).symm)).symm
theorem va_ne {σ : kS} {i c : Nat} {F : Nat → Int32} (h : c ≠ i) : va_up σ i F c = σ c := if_neg h
section KIF
variable {T : List jC} {L : Nat} {xs : Nat → Int32} {d mi pc : Nat} {lv : jL} {st : List Value} {σ : kS} {Q : Option Value → kS → Prop}
theorem kX_ifT {c : Bool} {p1 p2 : Nat} (h : c = true) (g : kX T L xs d mi p1 lv st σ Q) : kX T L xs d mi (if c = true then p1 else p2) lv st σ Q := by
  rw [if_pos h]
  exact g
theorem kX_ifF {c : Bool} {p1 p2 : Nat} (h : c = false) (g : kX T L xs d mi p2 lv st σ Q) : kX T L xs d mi (if c = true then p1 else p2) lv st σ Q := by
  rw [if_neg (by rw [h]; exact Bool.false_ne_true)]
  exact g
end KIF
theorem kup_up (σ : kS) (a : Nat) (f g : Nat → Int32) : va_up (va_up σ a f) a g = va_up σ a g := by
  funext k
  unfold va_up
  split
  · rfl
  · rfl
theorem kup_self (σ : kS) (a : Nat) : va_up σ a (σ a) = σ := by
  funext k
  unfold va_up
  split
  · next h => rw [h]
  · rfl
theorem kup_ne {σ : kS} {a b : Nat} {f : Nat → Int32} (h : b ≠ a) : va_up σ a f b = σ b := if_neg h
theorem jinN {k n : Nat} (h : k < n) (hn : n ≤ 100000) : jin (nI k) n = true := decide_eq_true (nI_in h (by omega))
theorem qge {x y : Int32} (q : jcmp .ge x y = true) (a b : Nat) (hx : x = nI a := by first | rfl | decide) (hy : y = nI b := by first | rfl | decide) (ha : a < 2147483648 := by omega) (hb : b < 2147483648 := by omega) : b ≤ a := by
  subst hx hy
  exact (nI_leI hb ha).mp (of_decide_eq_true q)
theorem qgeF {x y : Int32} (q : jcmp .ge x y = false) (a b : Nat) (hx : x = nI a := by first | rfl | decide) (hy : y = nI b := by first | rfl | decide) (ha : a < 2147483648 := by omega) (hb : b < 2147483648 := by omega) : a < b := by
  subst hx hy
  exact Nat.not_le.mp (fun h => of_decide_eq_false q ((nI_leI hb ha).mpr h))
theorem qlt {x y : Int32} (q : jcmp .lt x y = true) (a b : Nat) (hx : x = nI a := by first | rfl | decide) (hy : y = nI b := by first | rfl | decide) (ha : a < 2147483648 := by omega) (hb : b < 2147483648 := by omega) : a < b := by
  subst hx hy
  exact (nI_ltI ha hb).mp (of_decide_eq_true q)
theorem qltF {x y : Int32} (q : jcmp .lt x y = false) (a b : Nat) (hx : x = nI a := by first | rfl | decide) (hy : y = nI b := by first | rfl | decide) (ha : a < 2147483648 := by omega) (hb : b < 2147483648 := by omega) : b ≤ a := by
  subst hx hy
  exact Nat.not_lt.mp (fun h => of_decide_eq_false q ((nI_ltI ha hb).mpr h))
theorem qgt {x y : Int32} (q : jcmp .gt x y = true) (a b : Nat) (hx : x = nI a := by first | rfl | decide) (hy : y = nI b := by first | rfl | decide) (ha : a < 2147483648 := by omega) (hb : b < 2147483648 := by omega) : b < a := by
  subst hx hy
  exact (nI_ltI hb ha).mp (of_decide_eq_true q)
theorem qgtF {x y : Int32} (q : jcmp .gt x y = false) (a b : Nat) (hx : x = nI a := by first | rfl | decide) (hy : y = nI b := by first | rfl | decide) (ha : a < 2147483648 := by omega) (hb : b < 2147483648 := by omega) : a ≤ b := by
  subst hx hy
  exact Nat.not_lt.mp (fun h => of_decide_eq_false q ((nI_ltI hb ha).mpr h))
theorem qle {x y : Int32} (q : jcmp .le x y = true) (a b : Nat) (hx : x = nI a := by first | rfl | decide) (hy : y = nI b := by first | rfl | decide) (ha : a < 2147483648 := by omega) (hb : b < 2147483648 := by omega) : a ≤ b := by
  subst hx hy
  exact (nI_leI ha hb).mp (of_decide_eq_true q)
theorem qleF {x y : Int32} (q : jcmp .le x y = false) (a b : Nat) (hx : x = nI a := by first | rfl | decide) (hy : y = nI b := by first | rfl | decide) (ha : a < 2147483648 := by omega) (hb : b < 2147483648 := by omega) : b < a := by
  subst hx hy
  exact Nat.not_le.mp (fun h => of_decide_eq_false q ((nI_leI ha hb).mpr h))
theorem qeq {x y : Int32} (q : jcmp .eq x y = true) : x = y := of_decide_eq_true q
theorem qeqF {x y : Int32} (q : jcmp .eq x y = false) : x ≠ y := of_decide_eq_false q
theorem qne {x y : Int32} (q : jcmp .ne x y = true) : x ≠ y := of_decide_eq_true q
theorem qneF {x y : Int32} (q : jcmp .ne x y = false) : x = y := Decidable.of_not_not (of_decide_eq_false q)
theorem nI_inj {a b : Nat} (h : nI a = nI b) (ha : a < 2147483648 := by omega) (hb : b < 2147483648 := by omega) : a = b := (nI_eq ha hb).mp h
theorem nI_ne {a b : Nat} (h : a ≠ b) (ha : a < 2147483648 := by omega) (hb : b < 2147483648 := by omega) : nI a ≠ nI b := fun e => h ((nI_eq ha hb).mp e)
theorem nI_m1 {a : Nat} (ha : a < 2147483648 := by omega) : nI a ≠ -1 := by
  intro e
  have h := nI_pos (n := a) ha
  rw [e] at h
  exact h (by decide)
theorem jend_b {mi : Nat} {x : Int32} (hr : jm_ret mi = some .boolean) (hx : x = 0 ∨ x = 1) : jend mi [.int x] .ireturn = some (some (.int x)) := by
  unfold jend
  rw [hr]
  have h : jfit .boolean (.int x) = true := decide_eq_true hx
  dsimp only
  rw [if_pos h]
section KN
variable {T : List jC} {L : Nat} {xs : Nat → Int32} {d mi pc : Nat} {lv : jL} {st : List Value} {σ : kS} {Q : Option Value → kS → Prop}
/-- array accesses at a number -/
theorem kX_ialdN {j : Int32} {a n : Nat} {g0 : Nat → Int32} {rest : List Value} (hi : jm_ins mi pc = some (.iaload, 1)) (ha : T[a]? = some (.inl (0, n, .inl g0))) (hn : n ≤ 100000) (k : Nat) (hj : j = nI k) (hk : k < n) (g : kX T L xs (d + 1) mi (pc + 1) lv (.int (σ a k) :: rest) σ Q) : kX T L xs (d + 1) mi pc lv (.int j :: .ref a :: rest) σ Q := by
  subst hj
  exact kX_iald hi ha (jinN hk hn) (by rw [nI_clamp (by omega)]; exact g)
theorem kX_baldN {j : Int32} {a n : Nat} {g0 : Nat → Int32} {rest : List Value} (hi : jm_ins mi pc = some (.baload, 1)) (ha : T[a]? = some (.inl (1, n, .inl g0))) (hn : n ≤ 100000) (k : Nat) (hj : j = nI k) (hk : k < n) (g : kX T L xs (d + 1) mi (pc + 1) lv (.int (σ a k) :: rest) σ Q) : kX T L xs (d + 1) mi pc lv (.int j :: .ref a :: rest) σ Q := by
  subst hj
  exact kX_bald hi ha (jinN hk hn) (by rw [nI_clamp (by omega)]; exact g)
theorem kX_iastN {x j : Int32} {a n : Nat} {g0 : Nat → Int32} {rest : List Value} (hi : jm_ins mi pc = some (.iastore, 1)) (ha : T[a]? = some (.inl (0, n, .inl g0))) (hn : n ≤ 100000) (k : Nat) (hj : j = nI k) (hk : k < n) (g : kX T L xs (d + 1) mi (pc + 1) lv rest (va_up σ a (upd (σ a) k x)) Q) : kX T L xs (d + 1) mi pc lv (.int x :: .int j :: .ref a :: rest) σ Q := by
  subst hj
  exact kX_iast hi ha (jinN hk hn) (by rw [nI_clamp (by omega)]; exact g)
theorem kX_bastN {x j : Int32} {a n : Nat} {g0 : Nat → Int32} {rest : List Value} (hi : jm_ins mi pc = some (.bastore, 1)) (ha : T[a]? = some (.inl (1, n, .inl g0))) (hn : n ≤ 100000) (k : Nat) (hj : j = nI k) (hk : k < n) (hx : x = 0 ∨ x = 1) (g : kX T L xs (d + 1) mi (pc + 1) lv rest (va_up σ a (upd (σ a) k x)) Q) : kX T L xs (d + 1) mi pc lv (.int x :: .int j :: .ref a :: rest) σ Q := by
  subst hj
  exact kX_bast hi ha (jinN hk hn) hx (by rw [nI_clamp (by omega)]; exact g)
theorem kX_aaldN {j : Int32} {a n t r : Nat} {g0 : Nat → Option Nat} {rest : List Value} (hi : jm_ins mi pc = some (.aaload, 1)) (ha : T[a]? = some (.inl (t, n, .inr (.inr (.inr (.inr g0)))))) (hn : n ≤ 100000) (h2 : 2 ≤ t) (ht : t < jm_nat) (k : Nat) (hj : j = nI k) (hk : k < n) (hr : g0 k = some r) (g : kX T L xs (d + 1) mi (pc + 1) lv (.ref r :: rest) σ Q) : kX T L xs (d + 1) mi pc lv (.int j :: .ref a :: rest) σ Q := by
  subst hj
  refine kX_aald hi ha h2 ht (jinN hk hn) ?_
  rw [nI_clamp (by omega), hr]
  exact g
theorem kX_ialdV {j v : Int32} {a n : Nat} {g0 : Nat → Int32} {rest : List Value} (hi : jm_ins mi pc = some (.iaload, 1)) (ha : T[a]? = some (.inl (0, n, .inl g0))) (hn : n ≤ 100000) (k : Nat) (hj : j = nI k) (hk : k < n) (hv : σ a k = v) (g : kX T L xs (d + 1) mi (pc + 1) lv (.int v :: rest) σ Q) : kX T L xs (d + 1) mi pc lv (.int j :: .ref a :: rest) σ Q :=
  kX_ialdN hi ha hn k hj hk (by rw [hv]; exact g)
theorem kX_baldV {j v : Int32} {a n : Nat} {g0 : Nat → Int32} {rest : List Value} (hi : jm_ins mi pc = some (.baload, 1)) (ha : T[a]? = some (.inl (1, n, .inl g0))) (hn : n ≤ 100000) (k : Nat) (hj : j = nI k) (hk : k < n) (hv : σ a k = v) (g : kX T L xs (d + 1) mi (pc + 1) lv (.int v :: rest) σ Q) : kX T L xs (d + 1) mi pc lv (.int j :: .ref a :: rest) σ Q :=
  kX_baldN hi ha hn k hj hk (by rw [hv]; exact g)
/-- the int on top, by another name -/
theorem kX_top {x y : Int32} {rest : List Value} (e : x = y) (g : kX T L xs d mi pc lv (.int y :: rest) σ Q) : kX T L xs d mi pc lv (.int x :: rest) σ Q := by
  rw [e]
  exact g
/-- fields of an object whose cell is a number that isn't printed -/
theorem kX_getN {a ci f idx : Nat} {ts : List Value} {v : Value} {rest : List Value} (hi : jm_ins mi pc = some (.getfield idx, 3)) (hf : jm_fld (jm_own mi) idx = some (ci, f)) (ha : T[a]? = some (.inr (ci, ts))) (hv : ts[f]? = some v) (g : kX T L xs (d + 1) mi (pc + 3) lv (kval (σ a) f v :: rest) σ Q) : kX T L xs (d + 1) mi pc lv (.ref a :: rest) σ Q :=
  kX_one (by unfold kone; rw [hi]; simp [jlen, kplain, jend, jcall, jA, kH, hf, ha, hv]) g
theorem kX_putN {a ci f idx : Nat} {ts : List Value} {x y : Int32} {rest : List Value} (hi : jm_ins mi pc = some (.putfield idx, 3)) (hf : jm_fld (jm_own mi) idx = some (ci, f)) (ha : T[a]? = some (.inr (ci, ts))) (hv : ts[f]? = some (.int y)) (hx : jfit (jm_ty ci f) (.int x) = true) (hfin : jm_fin ci f = false) (g : kX T L xs (d + 1) mi (pc + 3) lv rest (va_up σ a (upd (σ a) f x)) Q) : kX T L xs (d + 1) mi pc lv (.int x :: .ref a :: rest) σ Q :=
  kX_one (by unfold kone; rw [hi]; simp [jlen, kplain, jend, jcall, jA, kH, hf, ha, hv, hx, hfin]) g
/-- a loop: what holds at its head, and a number that goes down -/
theorem kX_while {α : Type} (lv : α → jL) (τ : α → kS) (Inv : α → Prop) (μ : α → Nat) (step : ∀ a, Inv a → (∀ b, Inv b → μ b < μ a → kX T L xs d mi pc (lv b) [] (τ b) Q) → kX T L xs d mi pc (lv a) [] (τ a) Q) (a : α) (h : Inv a) : kX T L xs d mi pc (lv a) [] (τ a) Q := by
  have key : ∀ (n : Nat) (a : α), μ a < n → Inv a → kX T L xs d mi pc (lv a) [] (τ a) Q := by
    intro n
    induction n with
    | zero => intro a h; omega
    | succ n ih => exact fun a h hI => step a hI (fun b hb hl => ih b (by omega) hb)
  exact key (μ a + 1) a (by omega) h
end KN
/-! the order of the locals does not matter -/
def nk : jL → Bool
  | [] => true
  | q :: r => !(r.any (fun p => p.1 == q.1)) && nk r
theorem nk_none {i : Nat} : ∀ {r : jL}, r.any (fun p => p.1 == i) = false → jl r i = none := by
  intro r h
  unfold jl
  rw [List.find?_eq_none.mpr (fun p hp => by
    have := List.any_eq_false.mp h p hp
    exact this)]
  rfl
theorem any_filter {r : jL} {i : Nat} (p : Nat × Value → Bool) (h : r.any (fun p => p.1 == i) = false) : (r.filter p).any (fun p => p.1 == i) = false := by
  rw [List.any_eq_false] at h ⊢
  exact fun x hx => h x (List.mem_filter.mp hx).1
theorem nk_filter (p : Nat × Value → Bool) : ∀ {r : jL}, nk r = true → nk (r.filter p) = true
  | [], _ => rfl
  | q :: r, h => by
    unfold nk at h
    rw [Bool.and_eq_true] at h
    rw [List.filter_cons]
    split
    · unfold nk
      rw [any_filter p (by simpa using h.1), nk_filter p h.2]
      rfl
    · exact nk_filter p h.2
theorem jl_cons (q : Nat × Value) (r : jL) (i : Nat) : jl (q :: r) i = if q.1 = i then some q.2 else jl r i := by
  unfold jl
  rw [List.find?_cons]
  by_cases h : q.1 = i
  · rw [if_pos h]
    simp [h]
  · rw [if_neg h]
    have : (q.1 == i) = false := by simpa using h
    rw [this]
theorem jl_filter (p : Nat × Value → Bool) : ∀ {r : jL}, nk r = true → ∀ i, jl (r.filter p) i = (jl r i).bind (fun v => if p (i, v) = true then some v else none)
  | [], _, _ => rfl
  | q :: r, h, i => by
    unfold nk at h
    rw [Bool.and_eq_true] at h
    have ih := jl_filter p h.2 i
    rw [List.filter_cons, jl_cons]
    by_cases e : q.1 = i
    · rw [if_pos e]
      have hn : r.any (fun p => p.1 == i) = false := by rw [← e]; simpa using h.1
      split
      · next hp =>
        rw [jl_cons, if_pos e]
        show some q.2 = if p (i, q.2) = true then some q.2 else none
        rw [← e]
        exact (if_pos hp).symm
      · next hp =>
        rw [nk_none (any_filter p hn)]
        show none = if p (i, q.2) = true then some q.2 else none
        rw [← e]
        exact (if_neg hp).symm
    · rw [if_neg e]
      split
      · rw [jl_cons, if_neg e]
        exact ih
      · exact ih
/-- a has what b has -/
def lvS (a b : jL) : Prop := nk a = true ∧ nk b = true ∧ ∀ i v, jl b i = some v → jl a i = some v
theorem lvS_js1 {a b : jL} (h : lvS a b) (i : Nat) (v : Value) : lvS (js1 a i v) (js1 b i v) := by
  obtain ⟨h1, h2, h3⟩ := h
  have hh : ∀ r : jL, ((r.filter (fun q => !(q.1 == i) && !(q.1 + 1 == i && q.2.category == 2))).any (fun p => p.1 == i)) = false := fun r => by
    rw [List.any_eq_false]
    intro x hx
    have := (List.mem_filter.mp hx).2
    simp at this
    simpa using this.1
  refine ⟨?_, ?_, fun k w => ?_⟩
  · unfold js1 nk
    rw [hh, nk_filter _ h1]
    rfl
  · unfold js1 nk
    rw [hh, nk_filter _ h2]
    rfl
  · unfold js1
    rw [jl_cons, jl_cons, jl_filter _ h1, jl_filter _ h2]
    split
    · exact id
    · intro q
      obtain ⟨u, q1, q2⟩ := Option.bind_eq_some_iff.mp q
      rw [h3 k u q1]
      exact q2
theorem lvS_js2 {a b : jL} (h : lvS a b) (i : Nat) (v : Value) : lvS (js2 a i v) (js2 b i v) := by
  obtain ⟨h1, h2, h3⟩ := h
  have hh : ∀ r : jL, ((r.filter (fun q => !(q.1 == i) && (!(q.1 == i + 1) && !(q.1 + 1 == i && q.2.category == 2)))).any (fun p => p.1 == i)) = false := fun r => by
    rw [List.any_eq_false]
    intro x hx
    have := (List.mem_filter.mp hx).2
    simp at this
    simpa using this.1
  refine ⟨?_, ?_, fun k w => ?_⟩
  · unfold js2 nk
    rw [hh, nk_filter _ h1]
    rfl
  · unfold js2 nk
    rw [hh, nk_filter _ h2]
    rfl
  · unfold js2
    rw [jl_cons, jl_cons, jl_filter _ h1, jl_filter _ h2]
    split
    · exact id
    · intro q
      obtain ⟨u, q1, q2⟩ := Option.bind_eq_some_iff.mp q
      rw [h3 k u q1]
      exact q2
theorem jA_lv {k mL pc len : Nat} {a b : jL} {st : List Value} {i : Instr} (h : lvS a b) {pc' : Nat} {b' : jL} {st' : List Value} (q : jA k mL pc len b st i = some (pc', b', st')) : ∃ a', jA k mL pc len a st i = some (pc', a', st') ∧ lvS a' b' := by
  have hld : ∀ i b0 v, jld b i b0 = some v → jld a i b0 = some v := fun i b0 v q => by
    unfold jld at q ⊢
    cases hb : jl b i with
    | none => rw [hb] at q; cases q
    | some w => rw [hb] at q; rw [h.2.2 i w hb]; exact q
  have hldl : ∀ i v, jldl b i = some v → jldl a i = some v := fun i v q => by
    unfold jldl at q ⊢
    cases hb : jl b i with
    | none => rw [hb] at q; cases q
    | some w => rw [hb] at q; rw [h.2.2 i w hb]; exact q
  have hpush : ∀ (l : Nat) (v w : Option Value), (∀ z, v = some z → w = some z) → jpush pc l b st v = some (pc', b', st') → ∃ a', jpush pc l a st w = some (pc', a', st') ∧ lvS a' b' := fun l v w hvw q => by
    cases v with
    | none => cases q
    | some v => rw [hvw v rfl]; cases q; exact ⟨a, rfl, h⟩
  have hst1 : ∀ (l j : Nat) (b0 : Bool), jst1 mL pc l b j b0 st = some (pc', b', st') → ∃ a', jst1 mL pc l a j b0 st = some (pc', a', st') ∧ lvS a' b' := fun l j b0 q => by
    unfold jst1 at q ⊢
    split at q
    · split at q
      · next hc => cases q; exact ⟨_, if_pos hc, lvS_js1 h _ _⟩
      · cases q
    · split at q
      · next hc => cases q; exact ⟨_, if_pos hc, lvS_js1 h _ _⟩
      · cases q
    · split at q
      · next hc => cases q; exact ⟨_, if_pos hc, lvS_js1 h _ _⟩
      · cases q
    · cases q
  have hst2 : ∀ (l j : Nat), jst2 mL pc l b j st = some (pc', b', st') → ∃ a', jst2 mL pc l a j st = some (pc', a', st') ∧ lvS a' b' := fun l j q => by
    unfold jst2 at q ⊢
    split at q
    · split at q
      · next hc => cases q; exact ⟨_, if_pos hc, lvS_js2 h _ _⟩
      · cases q
    · cases q
  have hgo : ∀ (s : List Value) (o : Int), jgo pc b s o = some (pc', b', st') → ∃ a', jgo pc a s o = some (pc', a', st') ∧ lvS a' b' := fun s o q => by
    unfold jgo at q ⊢
    cases hj : jt pc o with
    | none => rw [hj] at q; cases q
    | some t => rw [hj] at q; cases q; exact ⟨a, rfl, h⟩
  have hbr : ∀ (s : List Value) (o : Int) (c : Bool), jbr pc b s o c = some (pc', b', st') → ∃ a', jbr pc a s o c = some (pc', a', st') ∧ lvS a' b' := fun s o c q => by
    unfold jbr at q ⊢
    cases hj : jt pc o with
    | none => rw [hj] at q; cases q
    | some t => rw [hj] at q; cases q; exact ⟨a, rfl, h⟩
  have hbin : ∀ (f : Int32 → Int32 → Int32), jbin pc b f st = some (pc', b', st') → ∃ a', jbin pc a f st = some (pc', a', st') ∧ lvS a' b' := fun f q => by
    unfold jbin at q ⊢
    split at q
    · cases q; exact ⟨a, rfl, h⟩
    · cases q
  have hbil : ∀ (f : Int64 → Int64 → Int64), jbil pc b f st = some (pc', b', st') → ∃ a', jbil pc a f st = some (pc', a', st') ∧ lvS a' b' := fun f q => by
    unfold jbil at q ⊢
    split at q
    · cases q; exact ⟨a, rfl, h⟩
    · cases q
  cases i with
  | iinc j n =>
    simp only [jA] at q ⊢
    cases hb : jld b j true with
    | none => rw [hb] at q; cases q
    | some w =>
      rw [hb] at q
      rw [hld _ _ _ hb]
      cases w with
      | int z =>
        dsimp only at q ⊢
        split at q
        · next hc => cases q; exact ⟨_, if_pos hc, lvS_js1 h _ _⟩
        · cases q
      | _ => cases q
  | idiv =>
    simp only [jA] at q ⊢
    split at q
    · split at q
      · cases q
      · next hc => cases q; exact ⟨a, if_neg hc, h⟩
    · cases q
  | irem =>
    simp only [jA] at q ⊢
    split at q
    · split at q
      · cases q
      · next hc => cases q; exact ⟨a, if_neg hc, h⟩
    · cases q
  | ineg => simp only [jA] at q ⊢; split at q; (· cases q; exact ⟨a, rfl, h⟩); (· cases q)
  | i2l => simp only [jA] at q ⊢; split at q; (· cases q; exact ⟨a, rfl, h⟩); (· cases q)
  | l2i => simp only [jA] at q ⊢; split at q; (· cases q; exact ⟨a, rfl, h⟩); (· cases q)
  | lcmp => simp only [jA] at q ⊢; split at q; (· cases q; exact ⟨a, rfl, h⟩); (· cases q)
  | dup =>
    simp only [jA] at q ⊢
    split at q
    · split at q
      · next hc => cases q; exact ⟨a, if_pos hc, h⟩
      · cases q
    · cases q
  | pop =>
    simp only [jA] at q ⊢
    split at q
    · split at q
      · next hc => cases q; exact ⟨a, if_pos hc, h⟩
      · cases q
    · cases q
  | dup2 =>
    simp only [jA] at q ⊢
    split at q
    · split at q
      · next hc => cases q; exact ⟨a, if_pos hc, h⟩
      · cases q
    · cases q
  | ifCond c o => simp only [jA] at q ⊢; split at q; (· exact hbr _ _ _ q); (· cases q)
  | if_icmp c o => simp only [jA] at q ⊢; split at q; (· exact hbr _ _ _ q); (· cases q)
  | ifnull o =>
    simp only [jA] at q ⊢
    split at q
    · exact hgo _ _ q
    · cases q; exact ⟨a, rfl, h⟩
    · cases q
  | ifnonnull o =>
    simp only [jA] at q ⊢
    split at q
    · exact hgo _ _ q
    · cases q; exact ⟨a, rfl, h⟩
    · cases q
  | tableswitch dflt lo hi offs =>
    simp only [jA] at q ⊢
    split at q
    · split at q
      · next hc =>
        rw [if_pos hc]
        exact hgo _ _ q
      · next hc =>
        rw [if_neg hc]
        split at q
        · exact hgo _ _ q
        · cases q
    · cases q
  | iload j => exact hpush _ _ _ (hld j true) q
  | iload_n j => exact hpush _ _ _ (hld j true) q
  | aload j => exact hpush _ _ _ (hld j false) q
  | aload_n j => exact hpush _ _ _ (hld j false) q
  | lload j => exact hpush _ _ _ (hldl j) q
  | lload_n j => exact hpush _ _ _ (hldl j) q
  | iconst j => exact hpush _ _ _ (fun _ e => e) q
  | bipush j => exact hpush _ _ _ (fun _ e => e) q
  | sipush j => exact hpush _ _ _ (fun _ e => e) q
  | lconst j => exact hpush _ _ _ (fun _ e => e) q
  | ldc2_w j => exact hpush _ _ _ (fun _ e => e) q
  | aconst_null => exact hpush _ _ _ (fun _ e => e) q
  | istore j => exact hst1 _ _ _ q
  | istore_n j => exact hst1 _ _ _ q
  | astore j => exact hst1 _ _ _ q
  | astore_n j => exact hst1 _ _ _ q
  | lstore j => exact hst2 _ _ q
  | lstore_n j => exact hst2 _ _ q
  | goto o => exact hgo _ _ q
  | _ => first | exact hbin _ q | exact hbil _ q | cases q
/-- an instruction of the heap is none of the others -/
theorem jA_heap {L : Nat} {xs : Nat → Int32} {il ini : Bool} {k k' mL pc pc2 len : Nat} {st st2 : List Value} {h : List jC} {i : Instr} (a b : jL) {r : Nat × jL × List Value × List jC} (q : jH L xs il ini k' pc2 b st2 h i = some r) : jA k mL pc len a st i = none := by
  cases i <;> first | rfl | cases q
theorem jH_lv {L : Nat} {xs : Nat → Int32} {il ini : Bool} {k pc : Nat} {st : List Value} {h : List jC} {i : Instr} (a b : jL) : jH L xs il ini k pc b st h i = (jH L xs il ini k pc a st h i).map (fun r => (r.1, b, r.2.2)) := by
  cases i with
  | getfield idx =>
    simp only [jH]
    split
    · split
      · split
        · rw [Option.map_map]
          rfl
        · rfl
      · rfl
    · rfl
  | putfield idx =>
    simp only [jH, jset]
    split
    · split
      · split <;> rfl
      · rfl
    · rfl
  | iaload =>
    simp only [jH]
    split
    · split
      · split <;> rfl
      · rfl
    · split <;> rfl
    · rfl
  | baload =>
    simp only [jH]
    split
    · split
      · split <;> rfl
      · rfl
    · rfl
  | aaload =>
    simp only [jH]
    split
    · split
      · split <;> rfl
      · rfl
    · rfl
  | arraylength =>
    simp only [jH]
    split
    · split
      · split <;> rfl
      · rfl
    · split <;> rfl
    · rfl
  | iastore =>
    simp only [jH, jset]
    split
    · split
      · split <;> rfl
      · rfl
    · rfl
  | bastore =>
    simp only [jH, jset]
    split
    · split
      · split <;> rfl
      · rfl
    · rfl
  | aastore =>
    simp only [jH, jset]
    split
    · split
      · split <;> rfl
      · rfl
    · rfl
  | new idx =>
    simp only [jH]
    split <;> rfl
  | newarray ty =>
    simp only [jH]
    split
    · split
      · split <;> rfl
      · rfl
    · rfl
  | anewarray idx =>
    simp only [jH]
    split
    · split <;> rfl
    · rfl
  | multianewarray idx n =>
    by_cases hn : n = 2
    · subst hn
      simp only [jH]
      split
      · split <;> rfl
      · rfl
    · have e : ∀ c : jL, jH L xs il ini k pc c st h (.multianewarray idx n) = none := fun c => by
        unfold jH
        split <;> first
          | rfl
          | (next hh => cases hh)
          | (next hh => cases hh; exact absurd rfl hn)
          | simp_all
      rw [e a, e b]
      rfl
  | invokestatic idx =>
    simp only [jH, jset]
    split
    · split
      · split <;> rfl
      · rfl
    · split
      · split
        · split <;> rfl
        · rfl
      · rfl
  | invokespecial idx =>
    simp only [jH]
    split
    · split <;> rfl
    · rfl
  | _ => rfl
theorem jrun_lv (L : Nat) (xs : Nat → Int32) : ∀ (n d mi pc : Nat) (a b : jL) (st : List Value) (h : List jC) (r : Option Value × List jC), lvS a b → jrun L xs n d mi pc b st h = some r → jrun L xs n d mi pc a st h = some r := by
  intro n
  induction n with
  | zero => intro _ _ _ _ _ _ _ _ _ q; cases q
  | succ n ih =>
    intro d mi pc a b st h r hE q
    rw [jrun] at q ⊢
    split at q
    · cases q
    · next i len hi =>
      split at q
      · next hl =>
        rw [if_pos hl]
        split at q
        · exact q
        · next he =>
          split at q
          · next y as rest d' hc =>
            split at q
            · next hy =>
              rw [if_pos hy]
              split at q
              · next r1 h1 hm => exact ih _ _ _ _ _ _ _ _ hE q
              · cases q
            · cases q
          · cases q
          · next d9 x9 d8 hc =>
            split at q
            · next pc' b' st' h' hs =>
              unfold jstep at hs
              cases hA : jA (jm_own mi) (jm_maxL mi) pc len b st i with
              | some z =>
                obtain ⟨p1, b1, s1⟩ := z
                rw [hA] at hs
                cases hs
                obtain ⟨a1, q1, q2⟩ := jA_lv hE hA
                have e : jstep L xs d9 mi pc a st h i len = some (pc', a1, st', h) := by unfold jstep; rw [q1]
                rw [e]
                exact ih _ _ _ _ _ _ _ _ q2 q
              | none =>
                rw [hA] at hs
                dsimp only at hs
                split at hs
                · cases hs
                · next hd =>
                  have e1 := jH_lv (L := L) (xs := xs) (il := decide (mi = 0)) (ini := jm_ini mi) (k := jm_own mi) (pc := pc) (st := st) (h := h) (i := i) b a
                  rw [hs] at e1
                  have e2 := jH_lv (L := L) (xs := xs) (il := decide (mi = 0)) (ini := jm_ini mi) (k := jm_own mi) (pc := pc) (st := st) (h := h) (i := i) b b
                  rw [hs] at e2
                  cases e2
                  have e : jstep L xs d9 mi pc a st h i len = some (pc', a, st', h') := by
                    unfold jstep
                    rw [jA_heap a b hs]
                    dsimp only
                    rw [if_neg hd, e1]
                    rfl
                  rw [e]
                  exact ih _ _ _ _ _ _ _ _ hE q
            · cases q
      · cases q
/-- fewer locals, in any order -/
theorem kX_lv {T : List jC} {L : Nat} {xs : Nat → Int32} {d mi pc : Nat} {a : jL} {st : List Value} {σ : kS} {Q : Option Value → kS → Prop} (b : jL) (ka : nk a = true) (kb : nk b = true) (e : b.map (fun q => jl a q.1) = b.map (fun q => some q.2)) (g : kX T L xs d mi pc b st σ Q) : kX T L xs d mi pc a st σ Q := by
  have hE : lvS a b := ⟨ka, kb, fun i v hv => by
    unfold jl at hv
    obtain ⟨p, hp, rfl⟩ := Option.map_eq_some_iff.mp hv
    have hm := List.mem_of_find?_eq_some hp
    have hi := List.find?_some hp
    simp only [beq_iff_eq] at hi
    have := List.map_inj_left.mp e p hm
    rw [← hi]
    exact this⟩
  intro h hk
  obtain ⟨r, σ', h', ⟨n, hn⟩, g2⟩ := g h hk
  exact ⟨r, σ', h', ⟨n, jrun_lv L xs n d mi pc a b st h _ hE hn⟩, g2⟩
theorem kX_st {T : List jC} {L : Nat} {xs : Nat → Int32} {d mi pc : Nat} {lv : jL} {st : List Value} {σ : kS} {Q : Option Value → kS → Prop} (σ' : kS) (e : σ = σ') (g : kX T L xs d mi pc lv st σ' Q) : kX T L xs d mi pc lv st σ Q := by
  rw [e]
  exact g
theorem kX_to {T : List jC} {L : Nat} {xs : Nat → Int32} {d mi pc : Nat} {a : jL} {st : List Value} {σ : kS} {Q : Option Value → kS → Prop} (b : jL) (σ' : kS) (ka : nk a = true) (kb : nk b = true) (e : b.map (fun q => jl a q.1) = b.map (fun q => some q.2)) (es : σ = σ') (g : kX T L xs d mi pc b st σ' Q) : kX T L xs d mi pc a st σ Q := by
  rw [es]
  exact kX_lv b ka kb e g
end
section
/-! TERMS as they lie in three rows (kind, first, second); what is told of one by going down -/
def fN (x : Int32) : Nat := x.toNatClampNeg
theorem fN_nI {k : Nat} (h : k < 2147483648) : fN (nI k) = k := nI_clamp h
/-- t is a TERM whose parts are of V; AG: what may be an AGENT -/
def tOk (V AG : Nat → Prop) (K F S : Nat → Int32) (t : Nat) : Prop :=
  (∃ k, k ≤ 3 ∧ K t = nI k ∧ F t = -1 ∧ S t = -1) ∨
  (∃ k x y, (k = 4 ∨ k = 5 ∨ ((k = 6 ∨ k = 8) ∧ AG y)) ∧ K t = nI k ∧ F t = nI x ∧ S t = nI y ∧ x < t ∧ y < t ∧ V x ∧ V y) ∨
  (∃ k x, (k = 9 ∨ (k = 7 ∧ AG x)) ∧ K t = nI k ∧ F t = nI x ∧ S t = -1 ∧ x < t ∧ V x)
/-- a fold over what a TERM is of -/
def tF {α : Type} (lf : Nat → α) (nd : Nat → α → Option α → α) (K F S : Nat → Int32) : Nat → Nat → α
  | 0, t => lf t
  | f + 1, t => if fN (K t) ≤ 3 then lf t else nd (fN (K t)) (tF lf nd K F S f (fN (F t))) (if S t = -1 then none else some (tF lf nd K F S f (fN (S t))))
theorem tF_fuel {α : Type} {lf : Nat → α} {nd : Nat → α → Option α → α} {V AG : Nat → Prop} {K F S : Nat → Int32} (hV : ∀ t, V t → t < 100000 ∧ tOk V AG K F S t) : ∀ (f g t : Nat), V t → t < f → t < g → tF lf nd K F S f t = tF lf nd K F S g t := by
  intro f
  induction f with
  | zero => intro g t _ h; omega
  | succ f ih =>
    intro g t ht h1 h2
    obtain ⟨g, rfl⟩ : ∃ g', g = g' + 1 := ⟨g - 1, by omega⟩
    unfold tF
    rcases (hV t ht).2 with ⟨k, h3, hk, -, -⟩ | ⟨k, x, y, h3, hk, hx, hy, h4, h5, h6, h7⟩ | ⟨k, x, h3, hk, hx, hy, h4, h6⟩
    · rw [hk, fN_nI (by omega), if_pos h3, if_pos h3]
    · have hk9 : k ≤ 8 := by omega
      have := (hV t ht).1
      have hk3 : ¬ k ≤ 3 := by omega
      have hy1 : nI y ≠ -1 := nI_m1 (by omega)
      rw [hk, fN_nI (show k < 2147483648 by omega), if_neg hk3, if_neg hk3, hx, hy, if_neg hy1, if_neg hy1, fN_nI (show x < 2147483648 by omega), fN_nI (show y < 2147483648 by omega), ih g x h6 (by omega) (by omega), ih g y h7 (by omega) (by omega)]
    · have hk9 : k ≤ 9 := by omega
      have := (hV t ht).1
      have hk3 : ¬ k ≤ 3 := by omega
      rw [hk, fN_nI (show k < 2147483648 by omega), if_neg hk3, if_neg hk3, hx, hy, if_pos rfl, if_pos rfl, fN_nI (show x < 2147483648 by omega), ih g x h6 (by omega) (by omega)]
/-- of the TERM t -/
def tA {α : Type} (lf : Nat → α) (nd : Nat → α → Option α → α) (K F S : Nat → Int32) (t : Nat) : α := tF lf nd K F S (t + 1) t
section TA
variable {α : Type} {lf : Nat → α} {nd : Nat → α → Option α → α} {V AG : Nat → Prop} {K F S : Nat → Int32}
theorem tA_0 {t k : Nat} (hk : K t = nI k) (h3 : k ≤ 3) : tA lf nd K F S t = lf t := by
  unfold tA tF
  rw [hk, fN_nI (by omega), if_pos h3]
theorem tA_2 (hV : ∀ t, V t → t < 100000 ∧ tOk V AG K F S t) {t k x y : Nat} (hk : K t = nI k) (hx : F t = nI x) (hy : S t = nI y) (h3 : 3 < k) (hk9 : k ≤ 9) (h4 : x < t) (h5 : y < t) (h6 : V x) (h7 : V y) : tA lf nd K F S t = nd k (tA lf nd K F S x) (some (tA lf nd K F S y)) := by
  have h8 := (hV x h6).1
  have h9 := (hV y h7).1
  unfold tA
  have hk3 : ¬ k ≤ 3 := by omega
  have hy1 : nI y ≠ -1 := nI_m1 (by omega)
  rw [tF, hk, fN_nI (show k < 2147483648 by omega), if_neg hk3, hx, hy, if_neg hy1, fN_nI (show x < 2147483648 by omega), fN_nI (show y < 2147483648 by omega), tF_fuel hV t (x + 1) x h6 (by omega) (by omega), tF_fuel hV t (y + 1) y h7 (by omega) (by omega)]
theorem tA_1 (hV : ∀ t, V t → t < 100000 ∧ tOk V AG K F S t) {t k x : Nat} (hk : K t = nI k) (hx : F t = nI x) (hy : S t = -1) (h3 : 3 < k) (hk9 : k ≤ 9) (h4 : x < t) (h6 : V x) : tA lf nd K F S t = nd k (tA lf nd K F S x) none := by
  have h8 := (hV x h6).1
  unfold tA
  have hk3 : ¬ k ≤ 3 := by omega
  rw [tF, hk, fN_nI (show k < 2147483648 by omega), if_neg hk3, hx, hy, if_pos rfl, fN_nI (show x < 2147483648 by omega), tF_fuel hV t (x + 1) x h6 (by omega) (by omega)]
/-- what is told of t hangs on what stands at V alone -/
theorem tA_congr {K' F' S' : Nat → Int32} {lf' : Nat → α} (hV : ∀ t, V t → t < 100000 ∧ tOk V AG K F S t) (hK : ∀ t, V t → K' t = K t ∧ F' t = F t ∧ S' t = S t ∧ lf' t = lf t) : ∀ t, V t → tA lf' nd K' F' S' t = tA lf nd K F S t := by
  intro t
  induction t using Nat.strongRecOn with
  | _ t ih =>
    intro ht
    obtain ⟨e1, e2, e3, e4⟩ := hK t ht
    have hV' : ∀ t, V t → t < 100000 ∧ tOk V AG K' F' S' t := fun t ht => by
      obtain ⟨e1, e2, e3, -⟩ := hK t ht
      refine ⟨(hV t ht).1, ?_⟩
      have := (hV t ht).2
      unfold tOk at this ⊢
      rw [e1, e2, e3]
      exact this
    rcases (hV t ht).2 with ⟨k, h3, hk, -, -⟩ | ⟨k, x, y, h3, hk, hx, hy, h4, h5, h6, h7⟩ | ⟨k, x, h3, hk, hx, hy, h4, h6⟩
    · rw [tA_0 (e1.trans hk) h3, tA_0 hk h3, e4]
    · rw [tA_2 hV' (e1.trans hk) (e2.trans hx) (e3.trans hy) (by omega) (by omega) h4 h5 h6 h7, tA_2 hV hk hx hy (by omega) (by omega) h4 h5 h6 h7, ih x h4 h6, ih y h5 h7]
    · rw [tA_1 hV' (e1.trans hk) (e2.trans hx) (e3.trans hy) (by omega) (by omega) h4 h6, tA_1 hV hk hx hy (by omega) (by omega) h4 h6, ih x h4 h6]
end TA
/-- SIZE -/
def tsz (K F S : Nat → Int32) (t : Nat) : Nat := tA (fun _ => 1) (fun _ a b => 1 + a + b.getD 0) K F S t
/-- GROUND -/
def tgd (K F S : Nat → Int32) (t : Nat) : Bool := tA (fun t => decide (K t ≠ nI 3)) (fun _ a b => a && b.getD true) K F S t
def bI (b : Bool) : Int32 := if b then 1 else 0
theorem bI_01 (b : Bool) : bI b = 0 ∨ bI b = 1 := by cases b <;> decide
theorem bI_ne (b : Bool) : bI b ≠ 0 ↔ b = true := by cases b <;> decide
theorem bI_eq (b : Bool) : bI b = 0 ↔ b = false := by cases b <;> decide
end
section
/-! tops of chains, chains -/
/-- x is the number of the largest below bd of which P holds, or -1 -/
def isTop (P : Nat → Prop) (bd : Nat) (x : Int32) : Prop := (x = -1 ∧ ∀ t, t < bd → ¬ P t) ∨ ∃ t, t < bd ∧ x = nI t ∧ P t ∧ ∀ t', t < t' → t' < bd → ¬ P t'
def hcP (M B : Nat) (V : Nat → Prop) (pl : Nat → Nat) (hd nx : Nat → Int32) : Prop := (∀ h, h < M → isTop (fun t => V t ∧ pl t = h) B (hd h)) ∧ ∀ t, V t → isTop (fun t' => V t' ∧ pl t' = pl t) t (nx t)
theorem isTop_congr {P P' : Nat → Prop} {bd : Nat} {x : Int32} (h : ∀ t, t < bd → (P t ↔ P' t)) (g : isTop P bd x) : isTop P' bd x := by
  rcases g with ⟨g1, g2⟩ | ⟨t, g1, g2, g3, g4⟩
  · exact Or.inl ⟨g1, fun t ht hp => g2 t ht ((h t ht).mpr hp)⟩
  · exact Or.inr ⟨t, g1, g2, (h t g1).mp g3, fun t' h1 h2 hp => g4 t' h1 h2 ((h t' h2).mpr hp)⟩
theorem isTop_wide {P : Nat → Prop} {bd bd' : Nat} {x : Int32} (h : bd ≤ bd') (hn : ∀ t, bd ≤ t → t < bd' → ¬ P t) (g : isTop P bd x) : isTop P bd' x := by
  rcases g with ⟨g1, g2⟩ | ⟨t, g1, g2, g3, g4⟩
  · exact Or.inl ⟨g1, fun t ht => by
      by_cases hb : t < bd
      · exact g2 t hb
      · exact hn t (by omega) ht⟩
  · exact Or.inr ⟨t, by omega, g2, g3, fun t' h1 h2 => by
      by_cases hb : t' < bd
      · exact g4 t' h1 hb
      · exact hn t' (by omega) h2⟩
theorem hcP_congr {M B : Nat} {V V' : Nat → Prop} {pl pl' : Nat → Nat} {hd nx : Nat → Int32} (hV : ∀ t, V t ↔ V' t) (hp : ∀ t, V t → pl t = pl' t) (g : hcP M B V pl hd nx) : hcP M B V' pl' hd nx := by
  have key : ∀ h t, (V t ∧ pl t = h) ↔ (V' t ∧ pl' t = h) := fun h t => ⟨fun q => ⟨(hV t).mp q.1, by rw [← hp t q.1]; exact q.2⟩, fun q => ⟨(hV t).mpr q.1, by rw [hp t ((hV t).mpr q.1)]; exact q.2⟩⟩
  refine ⟨fun h hh => isTop_congr (fun t _ => key h t) (g.1 h hh), fun t ht => ?_⟩
  have := g.2 t ((hV t).mpr ht)
  rw [hp t ((hV t).mpr ht)] at this
  exact isTop_congr (fun t' _ => key _ t') this
theorem hcP_pop {M B : Nat} {V : Nat → Prop} {pl : Nat → Nat} {hd nx : Nat → Int32} {t : Nat} (g : hcP M B V pl hd nx) (ht : V t) (hm : ∀ t', V t' → t' ≤ t) (hb : t < B) : hcP M B (fun t' => V t' ∧ t' ≠ t) pl (upd hd (pl t) (nx t)) nx := by
  refine ⟨fun h hh => ?_, fun t1 h1 => ?_⟩
  · by_cases e : h = pl t
    · subst e
      rw [pk_us]
      refine isTop_wide (Nat.le_of_lt hb) (fun t2 h2 h3 q => ?_) (isTop_congr (fun t2 h2 => ⟨fun q => ⟨⟨q.1, by omega⟩, q.2⟩, fun q => ⟨q.1.1, q.2⟩⟩) (g.2 t ht))
      have := hm t2 q.1.1
      exact q.1.2 (by omega)
    · rw [pk_un e]
      exact isTop_congr (fun t2 h2 => ⟨fun q => ⟨⟨q.1, fun h => e (by rw [← q.2, h])⟩, q.2⟩, fun q => ⟨q.1.1, q.2⟩⟩) (g.1 h hh)
  · refine isTop_congr (fun t2 h2 => ⟨fun q => ⟨⟨q.1, ?_⟩, q.2⟩, fun q => ⟨q.1.1, q.2⟩⟩) (g.2 t1 h1.1)
    have := hm t1 h1.1
    omega
theorem hcP_push {M B : Nat} {V : Nat → Prop} {pl : Nat → Nat} {hd nx : Nat → Int32} {t : Nat} (g : hcP M B V pl hd nx) (hm : ∀ t', V t' → t' < t) (hb : t < B) (hp : pl t < M) : hcP M B (fun t' => V t' ∨ t' = t) pl (upd hd (pl t) (nI t)) (upd nx t (hd (pl t))) := by
  refine ⟨fun h hh => ?_, fun t1 h1 => ?_⟩
  · by_cases e : h = pl t
    · subst e
      rw [pk_us]
      refine Or.inr ⟨t, hb, rfl, ⟨Or.inr rfl, rfl⟩, fun t' h1 h2 q => ?_⟩
      rcases q.1 with q | q
      · have := hm t' q
        omega
      · omega
    · rw [pk_un e]
      exact isTop_congr (fun t2 h2 => ⟨fun q => ⟨Or.inl q.1, q.2⟩, fun q => ⟨q.1.elim id (fun h => absurd (by rw [← q.2, h]) e), q.2⟩⟩) (g.1 h hh)
  · rcases h1 with h1 | rfl
    · have hlt := hm t1 h1
      rw [pk_un (by omega)]
      exact isTop_congr (fun t2 h2 => ⟨fun q => ⟨Or.inl q.1, q.2⟩, fun q => ⟨q.1.elim id (fun h => by omega), q.2⟩⟩) (g.2 t1 h1)
    · rw [pk_us]
      have := g.1 (pl t1) hp
      rcases this with ⟨q1, q2⟩ | ⟨t2, q1, q2, q3, q4⟩
      · exact Or.inl ⟨q1, fun t2 h2 q => q2 t2 (by omega) ⟨q.1.elim id (fun h => by omega), q.2⟩⟩
      · exact Or.inr ⟨t2, hm t2 q3.1, q2, ⟨Or.inl q3.1, q3.2⟩, fun t3 h3 h4 q => q4 t3 h3 (by omega) ⟨q.1.elim id (fun h => by omega), q.2⟩⟩
end
section
/-! the reference: places, find -/
def mIs (σ : kS) (t : Nat) (w a b : Int32) : Prop := σ 233 t = w ∧ σ 234 t = a ∧ σ 235 t = b
def mPl (w a b : Int32) : Int32 := (w * (Int16.ofInt 7919).toInt32 + a * (Int16.ofInt 263).toInt32 + b * (Int8.ofInt 31).toInt32) &&& (Int16.ofInt 1023).toInt32
theorem mPl_ok (w a b : Int32) : ∃ h, h < 1024 ∧ mPl w a b = nI h := pk_andE _ (m := (Int16.ofInt 1023).toInt32) 10 (by decide)
def mpl (w a b : Int32) : Nat := (mPl w a b).toNatClampNeg
theorem mpl_lt (w a b : Int32) : mpl w a b < 1024 := by
  obtain ⟨h, h1, h2⟩ := mPl_ok w a b
  unfold mpl
  rw [h2, nI_clamp (by omega)]
  exact h1
theorem mpl_eq (w a b : Int32) : mPl w a b = nI (mpl w a b) := by
  obtain ⟨h, h1, h2⟩ := mPl_ok w a b
  unfold mpl
  rw [h2, nI_clamp (by omega)]
set_option maxRecDepth 100000 in
set_option maxHeartbeats 4000000 in
theorem mr_place (L : Nat) (xs : Nat → Int32) (d : Nat) (σ : kS) (w a b : Int32) : kXM kT L xs d 147 [.int w, .int a, .int b] σ (fun r σ' => r = some (.int (nI (mpl w a b))) ∧ σ = σ') := by
  unfold kXM
  repeat refine kX_one rfl ?_
  refine kX_ret (i := .ireturn) (len := 1) rfl (Or.inr rfl) rfl (⟨by rw [← mpl_eq]; rfl, rfl⟩)
def mFnd (σ : kS) (P : Nat → Prop) (w a b : Int32) (r : Option Value) : Prop := (r = some (.int (-1)) ∧ ∀ t, P t → ¬ mIs σ t w a b) ∨ ∃ t, t < 1000 ∧ r = some (.int (nI t)) ∧ P t ∧ mIs σ t w a b
/-- the place of a TERM in the reference's table -/
def mpt (σ : kS) (t : Nat) : Nat := mpl (σ 233 t) (σ 234 t) (σ 235 t)
set_option maxRecDepth 100000 in
set_option maxHeartbeats 4000000 in
theorem mr_find_loop (L : Nat) (xs : Nat → Int32) (d : Nat) (σ : kS) (w a b : Int32) (P : Nat → Prop) (hP : ∀ t, P t → t < 1000 ∧ isTop P t (σ 243 t)) : ∀ q : Nat × Int32, (q.1 ≤ 1000 ∧ isTop P q.1 q.2 ∧ ∀ t, P t → q.1 ≤ t → ¬ mIs σ t w a b) → kX kT L xs (d + 1) 148 13 [(4, .int q.2), (0, .ref 232), (1, .int w), (2, .int a), (3, .int b)] [] σ (fun r σ' => σ = σ' ∧ mFnd σ P w a b r) := by
  refine kX_while (fun q : Nat × Int32 => [(4, .int q.2), (0, .ref 232), (1, .int w), (2, .int a), (3, .int b)]) (fun _ => σ) _ (fun q => q.1) ?_
  rintro ⟨bd, x⟩ ⟨hb, hx, hm⟩ ih
  dsimp only at hb hx hm ih ⊢
  rcases hx with ⟨rfl, h1⟩ | ⟨t, h1, rfl, hPt, h2⟩
  · repeat refine kX_one rfl ?_
    refine kX_ret (i := .ireturn) (len := 1) rfl (Or.inr rfl) rfl (⟨rfl, Or.inl ⟨rfl, fun t ht => ?_⟩⟩)
    by_cases h : t < bd
    · exact absurd ht (h1 t h)
    · exact hm t ht (by omega)
  · obtain ⟨ht, hn⟩ := hP t hPt
    have hno : ¬ mIs σ t w a b → kX kT L xs (d + 1) 148 51 [(4, .int (nI t)), (0, .ref 232), (1, .int w), (2, .int a), (3, .int b)] [] σ (fun r σ' => σ = σ' ∧ mFnd σ P w a b r) := by
      intro hne
      repeat refine kX_one rfl ?_
      refine kX_ialdN rfl rfl (by decide) (t) (by first | rfl | decide) (ht) ?_
      iterate 2 (refine kX_one rfl ?_)
      refine ih (t, _) ⟨by omega, hn, fun t2 g1 g2 => ?_⟩ h1
      rcases Nat.lt_trichotomy t2 t with g | g | g
      · exact absurd g (by simp only at g2; omega)
      · subst g
        exact hne
      · by_cases g3 : t2 < bd
        · exact absurd g1 (h2 t2 g g3)
        · exact hm t2 g1 (by omega)
    iterate 2 (refine kX_one rfl ?_)
    repeat refine kX_one rfl ?_
    refine kX_ifF (decide_eq_false (nI_pos (by omega))) ?_
    repeat refine kX_one rfl ?_
    refine kX_ialdN rfl rfl (by decide) (t) (by first | rfl | decide) (ht) ?_
    repeat refine kX_one rfl ?_
    repeat refine kX_one rfl ?_
    refine kX_if (fun q1 => hno (fun e => qne q1 e.1)) (fun q1 => ?_)
    repeat refine kX_one rfl ?_
    refine kX_ialdN rfl rfl (by decide) (t) (by first | rfl | decide) (ht) ?_
    repeat refine kX_one rfl ?_
    repeat refine kX_one rfl ?_
    refine kX_if (fun q2 => hno (fun e => qne q2 e.2.1)) (fun q2 => ?_)
    repeat refine kX_one rfl ?_
    refine kX_ialdN rfl rfl (by decide) (t) (by first | rfl | decide) (ht) ?_
    repeat refine kX_one rfl ?_
    repeat refine kX_one rfl ?_
    refine kX_if (fun q3 => ?_) (fun q3 => hno (fun e => qeqF q3 e.2.2))
    repeat refine kX_one rfl ?_
    refine kX_ret (i := .ireturn) (len := 1) rfl (Or.inr rfl) rfl (⟨rfl, Or.inr ⟨t, ht, rfl, hPt, qneF q1, qneF q2, qeq q3⟩⟩)
set_option maxRecDepth 100000 in
set_option maxHeartbeats 4000000 in
theorem mr_find (L : Nat) (xs : Nat → Int32) (d : Nat) (σ : kS) (w a b : Int32) (V : Nat → Prop) (hV : ∀ t, V t → t < 1000) (hc : hcP 1024 1000 V (mpt σ) (σ 242) (σ 243)) : kXM kT L xs (d + 1) 148 [.ref 232, .int w, .int a, .int b] σ (fun r σ' => σ = σ' ∧ mFnd σ V w a b r) := by
  unfold kXM
  repeat refine kX_one rfl ?_
  refine kX_cal (mr_place L xs d σ w a b) rfl (Or.inr rfl) rfl rfl rfl (fun r1 σ1 q1 => ?_)
  obtain ⟨rfl, rfl⟩ := q1
  refine kX_ialdN rfl rfl (by decide) (mpl w a b) rfl (mpl_lt w a b) ?_
  iterate 1 (refine kX_one rfl ?_)
  refine kX_lv [(4, .int (σ 242 (mpl w a b))), (0, .ref 232), (1, .int w), (2, .int a), (3, .int b)] rfl rfl rfl ?_
  refine kX_post (mr_find_loop L xs d σ w a b (fun t => V t ∧ mpt σ t = mpl w a b) (fun t ht => ⟨hV t ht.1, by have := hc.2 t ht.1; rw [ht.2] at this; exact this⟩) (1000, _) ⟨Nat.le_refl _, hc.1 _ (mpl_lt w a b), fun t ht h => absurd (hV t ht.1) (by simp only at h; omega)⟩) (fun r σ' q => ⟨q.1, ?_⟩)
  rcases q.2 with ⟨q1, q2⟩ | ⟨t, q1, q2, q3, q4⟩
  · exact Or.inl ⟨q1, fun t ht hi => q2 t ⟨ht, by unfold mpt; rw [hi.1, hi.2.1, hi.2.2]⟩ hi⟩
  · exact Or.inr ⟨t, q1, q2, q3.1, q4⟩
set_option maxRecDepth 100000 in
set_option maxHeartbeats 4000000 in
theorem mr_release_loop (L : Nat) (xs : Nat → Int32) (d : Nat) (σ : kS) (V : Nat → Prop) (f : Nat) (hf : 200 ≤ f) (hf2 : f ≤ 1000) (Q : Option Value → kS → Prop)
    (he : ∀ hd x, hcP 1024 1000 (fun t => V t ∧ t < f) (mpt σ) hd (σ 243) → kX kT L xs (d + 1) 151 50 [(2, .int x), (0, .ref 232), (1, .int (nI f))] [] (va_up σ 242 hd) Q) :
    ∀ q : Nat × (Nat → Int32), (f ≤ q.1 + 1 ∧ q.1 < 1000 ∧ (∀ t, f ≤ t → t ≤ q.1 → V t) ∧ hcP 1024 1000 (fun t => V t ∧ t ≤ q.1) (mpt σ) q.2 (σ 243)) → kX kT L xs (d + 1) 151 7 [(2, .int (nI q.1)), (0, .ref 232), (1, .int (nI f))] [] (va_up σ 242 q.2) Q := by
  refine kX_while (fun q : Nat × (Nat → Int32) => [(2, .int (nI q.1)), (0, .ref 232), (1, .int (nI f))]) (fun q => va_up σ 242 q.2) _ (fun q => q.1) ?_
  rintro ⟨c, hd⟩ ⟨hb, h1, h2, h3⟩ ih
  dsimp only at hb h1 h2 h3 ih ⊢
  iterate 3 (refine kX_one rfl ?_)
  refine kX_if (fun q => ?_) (fun q => ?_)
  · have q := qlt q c f
    exact he hd _ (hcP_congr (fun t => ⟨fun q => ⟨q.1, by have := q.2; omega⟩, fun q => ⟨q.1, by have := q.2; omega⟩⟩) (fun _ _ => rfl) h3)
  · have q := qltF q c f
    repeat refine kX_one rfl ?_
    refine kX_ialdN rfl rfl (by decide) (c) (by first | rfl | decide) (h1) ?_
    repeat refine kX_one rfl ?_
    refine kX_ialdN rfl rfl (by decide) (c) (by first | rfl | decide) (h1) ?_
    repeat refine kX_one rfl ?_
    refine kX_ialdN rfl rfl (by decide) (c) (by first | rfl | decide) (h1) ?_
    refine kX_cal (mr_place L xs d _ _ _ _) rfl (Or.inr rfl) rfl rfl rfl (fun r1 σ1 q1 => ?_)
    obtain ⟨rfl, rfl⟩ := q1
    repeat refine kX_one rfl ?_
    refine kX_ialdN rfl rfl (by decide) (c) (by first | rfl | decide) (h1) ?_
    refine kX_iastN rfl rfl (by decide) (mpl _ _ _) rfl (mpl_lt _ _ _) ?_
    iterate 2 (refine kX_one rfl ?_)
    rw [kup_up]
    have hV : V c := h2 c (by omega) (by omega)
    obtain ⟨c, rfl⟩ : ∃ c', c = c' + 1 := ⟨c - 1, by omega⟩
    have := ih (c, upd hd (mpt σ (c + 1)) (σ 243 (c + 1))) ⟨by simp only; omega, by simp only; omega, fun t g1 g2 => h2 t g1 (by simp only at g2; omega), (hcP_congr (fun t => ⟨fun q => ⟨q.1.1, by have := q.1.2; have := q.2; simp only; omega⟩, fun q => ⟨⟨q.1, by have := q.2; simp only at this; omega⟩, by have := q.2; simp only at this; omega⟩⟩) (fun _ _ => rfl) (hcP_pop h3 ⟨hV, Nat.le_refl _⟩ (fun t' q => q.2) h1))⟩ (by simp only; omega)
    rw [← pk_m1] at this
    exact this
end
section
/-! a table of TERMS that holds together; one more TERM -/
def tbW (V AG : Nat → Prop) (K F S Z : Nat → Int32) : Prop := (∀ t, V t → t < 100000 ∧ tOk V AG K F S t) ∧ (∀ t, V t → Z t = nI (tsz K F S t)) ∧ ∀ t u, V t → V u → 3 < fN (K t) → K t = K u → F t = F u → S t = S u → t = u
theorem tOk_mono {V V' AG AG' : Nat → Prop} {K F S K' F' S' : Nat → Int32} {t : Nat} (hV : ∀ x, x < t → V x → V' x) (hA : ∀ x, x < t → AG x → AG' x) (e1 : K' t = K t) (e2 : F' t = F t) (e3 : S' t = S t) (h : tOk V AG K F S t) : tOk V' AG' K' F' S' t := by
  unfold tOk
  rw [e1, e2, e3]
  rcases h with ⟨k, h3, hk, h4, h5⟩ | ⟨k, x, y, h3, hk, hx, hy, h4, h5, h6, h7⟩ | ⟨k, x, h3, hk, hx, hy, h4, h6⟩
  · exact Or.inl ⟨k, h3, hk, h4, h5⟩
  · refine Or.inr (Or.inl ⟨k, x, y, ?_, hk, hx, hy, h4, h5, hV x h4 h6, hV y h5 h7⟩)
    rcases h3 with h3 | h3 | ⟨h3, h8⟩
    · exact Or.inl h3
    · exact Or.inr (Or.inl h3)
    · exact Or.inr (Or.inr ⟨h3, hA y h5 h8⟩)
  · refine Or.inr (Or.inr ⟨k, x, ?_, hk, hx, hy, h4, hV x h4 h6⟩)
    rcases h3 with h3 | ⟨h3, h8⟩
    · exact Or.inl h3
    · exact Or.inr ⟨h3, hA x h4 h8⟩
theorem tb_valid {V AG AG' : Nat → Prop} {K F S : Nat → Int32} {t : Nat} {w a c : Int32} (hW : ∀ t, V t → t < 100000 ∧ tOk V AG K F S t) (hm : ∀ u, V u → u < t) (ht : t < 100000) (hA : ∀ y, AG y → AG' y) (hn : tOk V AG' (upd K t w) (upd F t a) (upd S t c) t) :
    ∀ u, (V u ∨ u = t) → u < 100000 ∧ tOk (fun u => V u ∨ u = t) AG' (upd K t w) (upd F t a) (upd S t c) u := by
  intro u hu
  rcases hu with hu | rfl
  · have hl := hm u hu
    exact ⟨(hW u hu).1, tOk_mono (fun x _ h => Or.inl h) (fun x _ => hA x) (pk_un (by omega)) (pk_un (by omega)) (pk_un (by omega)) (hW u hu).2⟩
  · exact ⟨ht, tOk_mono (fun x _ h => Or.inl h) (fun x _ h => h) rfl rfl rfl hn⟩
/-- what is told of the old ones stays -/
theorem tb_old {α : Type} {lf lf' : Nat → α} {nd : Nat → α → Option α → α} {V AG : Nat → Prop} {K F S : Nat → Int32} {t : Nat} {w a c : Int32} (hW : ∀ t, V t → t < 100000 ∧ tOk V AG K F S t) (hm : ∀ u, V u → u < t) (hl : ∀ u, V u → lf' u = lf u) : ∀ u, V u → tA lf' nd (upd K t w) (upd F t a) (upd S t c) u = tA lf nd K F S u :=
  tA_congr hW (fun u hu => by
    have := hm u hu
    exact ⟨pk_un (by omega), pk_un (by omega), pk_un (by omega), hl u hu⟩)
theorem tb_push {V AG AG' : Nat → Prop} {K F S Z : Nat → Int32} {t : Nat} {w a c : Int32} (hW : tbW V AG K F S Z) (hm : ∀ u, V u → u < t) (ht : t < 100000) (hA : ∀ y, AG y → AG' y) (hn : tOk V AG' (upd K t w) (upd F t a) (upd S t c) t)
    (hu : 3 < fN w → ∀ u, V u → ¬ (K u = w ∧ F u = a ∧ S u = c)) : tbW (fun u => V u ∨ u = t) AG' (upd K t w) (upd F t a) (upd S t c) (upd Z t (nI (tsz (upd K t w) (upd F t a) (upd S t c) t))) := by
  refine ⟨tb_valid hW.1 hm ht hA hn, fun u h => ?_, fun u v h1 h2 h3 h4 h5 h6 => ?_⟩
  · rcases h with h | rfl
    · have := hm u h
      rw [pk_un (by omega), hW.2.1 u h]
      exact congrArg nI (tb_old hW.1 hm (fun _ _ => rfl) u h).symm
    · exact pk_us
  · rcases h1 with h1 | rfl
    · have l1 := hm u h1
      rw [pk_un (by omega)] at h3 h4 h5 h6
      rcases h2 with h2 | rfl
      · have l2 := hm v h2
        rw [pk_un (by omega)] at h4 h5 h6
        exact hW.2.2 u v h1 h2 h3 h4 h5 h6
      · rw [pk_us] at h4 h5 h6
        exact absurd ⟨h4, h5, h6⟩ (hu (by rw [← h4]; exact h3) u h1)
    · rcases h2 with h2 | rfl
      · have l2 := hm v h2
        rw [pk_us] at h3 h4 h5 h6
        rw [pk_un (by omega)] at h4 h5 h6
        exact absurd ⟨h4.symm, h5.symm, h6.symm⟩ (hu h3 v h2)
      · rfl
/-- of what a new TERM is: kind k, first x, second y (or none), all below bd -/
def tNw (k : Nat) (a c : Int32) (x y bd : Nat) : Prop := (k ≤ 3 ∧ a = -1 ∧ c = -1) ∨ ((k = 4 ∨ k = 5 ∨ k = 6 ∨ k = 8) ∧ a = nI x ∧ c = nI y ∧ x < bd ∧ y < bd) ∨ ((k = 7 ∨ k = 9) ∧ a = nI x ∧ c = -1 ∧ x < bd)
theorem tOk_new {V AG : Nat → Prop} {K F S : Nat → Int32} {t k x y : Nat} {a c : Int32} (h : tNw k a c x y t) (hx : 3 < k → V x) (hy : k = 4 ∨ k = 5 ∨ k = 6 ∨ k = 8 → V y) (h6 : k = 6 ∨ k = 8 → AG y) (h7 : k = 7 → AG x) : tOk V AG (upd K t (nI k)) (upd F t a) (upd S t c) t := by
  unfold tOk
  rw [pk_us, pk_us, pk_us]
  rcases h with ⟨h1, h2, h3⟩ | ⟨h1, h2, h3, h4, h5⟩ | ⟨h1, h2, h3, h4⟩
  · exact Or.inl ⟨k, h1, rfl, h2, h3⟩
  · refine Or.inr (Or.inl ⟨k, x, y, ?_, rfl, h2, h3, h4, h5, hx (by omega), hy h1⟩)
    rcases h1 with h1 | h1 | h1 | h1
    · exact Or.inl h1
    · exact Or.inr (Or.inl h1)
    · exact Or.inr (Or.inr ⟨Or.inl h1, h6 (Or.inl h1)⟩)
    · exact Or.inr (Or.inr ⟨Or.inr h1, h6 (Or.inr h1)⟩)
  · refine Or.inr (Or.inr ⟨k, x, ?_, rfl, h2, h3, h4, hx (by omega)⟩)
    rcases h1 with h1 | h1
    · exact Or.inr ⟨h1, h7 h1⟩
    · exact Or.inl h1
/-- any fold of the new TERM, by those of its parts -/
def tNd {α : Type} (nd : Nat → α → Option α → α) (l : α) (k : Nat) (a b : α) : α := if k ≤ 3 then l else if k = 7 ∨ k = 9 then nd k a none else nd k a (some b)
theorem tA_new {α : Type} {lf lf' : Nat → α} {nd : Nat → α → Option α → α} {V AG AG' : Nat → Prop} {K F S : Nat → Int32} {t k x y : Nat} {a c : Int32} (hW : ∀ t, V t → t < 100000 ∧ tOk V AG K F S t) (hm : ∀ u, V u → u < t) (ht : t < 100000) (hA : ∀ y, AG y → AG' y) (hl : ∀ u, V u → lf' u = lf u) (h : tNw k a c x y t) (hx : 3 < k → V x) (hy : k = 4 ∨ k = 5 ∨ k = 6 ∨ k = 8 → V y) (h6 : k = 6 ∨ k = 8 → AG' y) (h7 : k = 7 → AG' x) :
    tA lf' nd (upd K t (nI k)) (upd F t a) (upd S t c) t = tNd nd (lf' t) k (tA lf nd K F S x) (tA lf nd K F S y) := by
  have hV := tb_valid hW hm ht hA (tOk_new (K := K) (F := F) (S := S) h hx hy h6 h7)
  have ho := fun u hu => tb_old (lf := lf) (lf' := lf') (nd := nd) (w := nI k) (a := a) (c := c) hW hm hl u hu
  unfold tNd
  rcases h with ⟨h1, h2, h3⟩ | ⟨h1, h2, h3, h4, h5⟩ | ⟨h1, h2, h3, h4⟩
  · rw [if_pos h1]
    exact tA_0 pk_us h1
  · rw [if_neg (by omega), if_neg (by omega), tA_2 (x := x) (y := y) hV pk_us (pk_us.trans h2) (pk_us.trans h3) (by omega) (by omega) h4 h5 (Or.inl (hx (by omega))) (Or.inl (hy h1)), ho x (hx (by omega)), ho y (hy h1)]
  · rw [if_neg (by omega), if_pos h1, tA_1 (x := x) hV pk_us (pk_us.trans h2) (pk_us.trans h3) (by omega) (by omega) h4 (Or.inl (hx (by omega))), ho x (hx (by omega))]
theorem tNw_9 {k x y bd : Nat} {a c : Int32} (h : tNw k a c x y bd) : k ≤ 9 := by
  rcases h with h | h | h <;> omega
theorem tNw_x {k x y bd : Nat} {a c : Int32} (h : tNw k a c x y bd) (hk : 3 < k) : a = nI x ∧ x < bd := by
  rcases h with h | h | h
  · omega
  · exact ⟨h.2.1, h.2.2.2.1⟩
  · exact ⟨h.2.1, h.2.2.2⟩
theorem tNw_y {k x y bd : Nat} {a c : Int32} (h : tNw k a c x y bd) (hk : k = 4 ∨ k = 5 ∨ k = 6 ∨ k = 8) : c = nI y ∧ y < bd := by
  rcases h with h | h | h
  · omega
  · exact ⟨h.2.2.1, h.2.2.2.2⟩
  · omega
theorem tNw_mono {k x y bd bd' : Nat} {a c : Int32} (h : tNw k a c x y bd) (hb : bd ≤ bd') : tNw k a c x y bd' := by
  rcases h with h | h | h
  · exact Or.inl h
  · exact Or.inr (Or.inl ⟨h.1, h.2.1, h.2.2.1, by omega, by omega⟩)
  · exact Or.inr (Or.inr ⟨h.1, h.2.1, h.2.2.1, by omega⟩)
end
section
/-! the reference's table: sizeOf, lay, release, last, made -/
def mv (n b t : Nat) : Prop := t < n ∨ (200 ≤ t ∧ t < b)
def mAG (σ : kS) (n y : Nat) : Prop := y < n ∧ (σ 233 y = nI 0 ∨ (σ 233 y = nI 3 ∧ σ 240 y = nI 0))
def mTb (σ : kS) (n b : Nat) : Prop := n ≤ 200 ∧ 200 ≤ b ∧ b ≤ 1000 ∧ σ 232 9 = nI n ∧ σ 232 10 = nI b ∧ tbW (mv n b) (mAG σ n) (σ 233) (σ 234) (σ 235) (σ 236) ∧ (∀ t, mv n b t → σ 237 t = bI (tgd (σ 233) (σ 234) (σ 235) t)) ∧
  hcP 1024 1000 (fun t => mv n b t ∧ 3 < fN (σ 233 t)) (mpt σ) (σ 242) (σ 243) ∧ (∀ t, 200 ≤ t → t < b → 3 < fN (σ 233 t)) ∧ ∀ t, t < n → tsz (σ 233) (σ 234) (σ 235) t ≤ 24
def msz (Z : Nat → Int32) (k x y : Nat) : Int32 := if k ≤ 3 then nI 1 else if k = 7 then nI 2 else if k = 4 ∨ k = 5 then nI 1 + Z x + Z y else if k = 9 then nI 1 + Z x + 0 else nI 1 + Z x + nI 1
set_option maxRecDepth 100000 in
set_option maxHeartbeats 4000000 in
theorem mr_size (L : Nat) (xs : Nat → Int32) (d : Nat) (σ : kS) (k : Nat) (a c : Int32) (x y : Nat) (h : tNw k a c x y 1000) : kXM kT L xs (d + 1) 150 [.ref 232, .int (nI k), .int a, .int c] σ (fun r σ' => r = some (.int (msz (σ 236) k x y)) ∧ σ = σ') := by
  have hk9 : k ≤ 9 := by rcases h with h | h | h <;> omega
  unfold kXM
  repeat refine kX_one rfl ?_
  repeat refine kX_one rfl ?_
  refine kX_if (fun q => ?_) (fun q => ?_)
  · have q := qgt q k 3
    have ha := tNw_x h q
    repeat refine kX_one rfl ?_
    repeat refine kX_one rfl ?_
    refine kX_if (fun q2 => ?_) (fun q2 => ?_)
    · have q2 : k ≠ 7 := fun e => qne q2 (by rw [e]; decide)
      repeat refine kX_one rfl ?_
      refine kX_ialdN rfl rfl (by decide) x ha.1 ha.2 ?_
      repeat refine kX_one rfl ?_
      have tail : ∀ v : Int32, (v = if k = 4 ∨ k = 5 then σ 236 y else if k = 9 then 0 else nI 1) → kX kT L xs (d + 1) 150 53 [(0, .ref 232), (1, .int (nI k)), (2, .int a), (3, .int c)] [.int v, .int (nI 1 + σ 236 x)] σ (fun r σ' => r = some (.int (msz (σ 236) k x y)) ∧ σ = σ') := by
        intro v hv
        subst hv
        repeat refine kX_one rfl ?_
        refine kX_ret (i := .ireturn) (len := 1) rfl (Or.inr rfl) rfl ⟨?_, rfl⟩
        unfold msz
        repeat' split
        all_goals first | rfl | omega
      have t45 : k = 4 ∨ k = 5 → kX kT L xs (d + 1) 150 33 [(0, .ref 232), (1, .int (nI k)), (2, .int a), (3, .int c)] [.int (nI 1 + σ 236 x)] σ (fun r σ' => r = some (.int (msz (σ 236) k x y)) ∧ σ = σ') := by
        intro h45
        have hc := tNw_y h (by omega)
        repeat refine kX_one rfl ?_
        refine kX_ialdN rfl rfl (by decide) y hc.1 hc.2 ?_
        iterate 1 (refine kX_one rfl ?_)
        exact tail _ (by split <;> first | rfl | omega)
      repeat refine kX_one rfl ?_
      refine kX_if (fun q3 => ?_) (fun q3 => ?_)
      · exact t45 (Or.inl (nI_inj (qeq q3)))
      · have q3 : k ≠ 4 := fun e => qeqF q3 (by rw [e]; decide)
        repeat refine kX_one rfl ?_
        repeat refine kX_one rfl ?_
        refine kX_if (fun q4 => ?_) (fun q4 => ?_)
        · have q4 : k ≠ 5 := fun e => qne q4 (by rw [e]; decide)
          repeat refine kX_one rfl ?_
          repeat refine kX_one rfl ?_
          refine kX_if (fun q5 => ?_) (fun q5 => ?_)
          · have q5 : k ≠ 9 := fun e => qne q5 (by rw [e]; decide)
            iterate 1 (refine kX_one rfl ?_)
            exact tail _ (by (repeat' split) <;> first | rfl | omega)
          · have q5 : k = 9 := nI_inj (qneF q5)
            iterate 2 (refine kX_one rfl ?_)
            exact tail _ (by (repeat' split) <;> first | rfl | omega)
        · exact t45 (Or.inr (nI_inj (qneF q4)))
    · have q2 : k = 7 := nI_inj (qneF q2)
      repeat refine kX_one rfl ?_
      refine kX_ret (i := .ireturn) (len := 1) rfl (Or.inr rfl) rfl ⟨?_, rfl⟩
      unfold msz
      repeat' split
      all_goals first | rfl | omega
  · have q := qgtF q k 3
    repeat refine kX_one rfl ?_
    refine kX_ret (i := .ireturn) (len := 1) rfl (Or.inr rfl) rfl ⟨?_, rfl⟩
    unfold msz
    repeat' split
    all_goals first | rfl | omega
def mgv (G : Nat → Int32) (k x y : Nat) : Int32 := if k = 3 then 0 else if k < 3 then 1 else if G x = 0 then 0 else if k = 7 ∨ k = 9 then 1 else if G y = 0 then 0 else 1
def mLy (σ : kS) (t : Nat) (w a c z g : Int32) : kS := va_up (va_up (va_up (va_up (va_up σ 233 (upd (σ 233) t w)) 234 (upd (σ 234) t a)) 235 (upd (σ 235) t c)) 236 (upd (σ 236) t z)) 237 (upd (σ 237) t g)
def mLay (σ : kS) (t k : Nat) (a c : Int32) (x y : Nat) : kS := if k ≤ 3 then mLy σ t (nI k) a c (msz (σ 236) k x y) (mgv (σ 237) k x y) else
  va_up (va_up (mLy σ t (nI k) a c (msz (σ 236) k x y) (mgv (σ 237) k x y)) 243 (upd (σ 243) t (σ 242 (mpl (nI k) a c)))) 242 (upd (σ 242) (mpl (nI k) a c) (nI t))
set_option maxRecDepth 100000 in
set_option maxHeartbeats 4000000 in
theorem mr_lay (L : Nat) (xs : Nat → Int32) (d : Nat) (σ : kS) (t k : Nat) (a c : Int32) (x y : Nat) (h : tNw k a c x y t) (ht : t < 1000) : kXM kT L xs (d + 2) 149 [.ref 232, .int (nI t), .int (nI k), .int a, .int c] σ (fun r σ' => r = none ∧ σ' = mLay σ t k a c x y) := by
  have hk9 : k ≤ 9 := by rcases h with h | h | h <;> omega
  have h' := tNw_mono h (Nat.le_of_lt ht)
  unfold kXM
  repeat refine kX_one rfl ?_
  refine kX_iastN rfl rfl (by decide) (t) (by first | rfl | decide) (ht) ?_
  repeat refine kX_one rfl ?_
  refine kX_iastN rfl rfl (by decide) (t) (by first | rfl | decide) (ht) ?_
  repeat refine kX_one rfl ?_
  refine kX_iastN rfl rfl (by decide) (t) (by first | rfl | decide) (ht) ?_
  repeat refine kX_one rfl ?_
  refine kX_cal (mr_size L xs d _ k a c x y h') rfl (Or.inr rfl) rfl rfl rfl (fun r1 σ1 q1 => ?_)
  obtain ⟨rfl, rfl⟩ := q1
  refine kX_iastN rfl rfl (by decide) (t) (by first | rfl | decide) (ht) ?_
  repeat refine kX_one rfl ?_
  have tail : ∀ g : Int32, g = mgv (σ 237) k x y → kX kT L xs (d + 2) 149 79 [(0, .ref 232), (1, .int (nI t)), (2, .int (nI k)), (3, .int a), (4, .int c)] [.int g, .int (nI t), .ref 237] (va_up (va_up (va_up (va_up σ 233 (upd (σ 233) t (nI k))) 234 (upd (σ 234) t a)) 235 (upd (σ 235) t c)) 236 (upd (σ 236) t (msz (σ 236) k x y))) (fun r σ' => r = none ∧ σ' = mLay σ t k a c x y) := by
    intro g hg
    have hg01 : g = 0 ∨ g = 1 := by
      subst hg
      unfold mgv
      repeat' split
      all_goals first | exact Or.inl rfl | exact Or.inr rfl
    refine kX_bastN rfl rfl (by decide) (t) (by first | rfl | decide) (ht) (hg01) ?_
    iterate 2 (refine kX_one rfl ?_)
    repeat refine kX_one rfl ?_
    refine kX_if (fun q => ?_) (fun q => ?_)
    · have q := qle q k 3
      refine kX_ret (i := .return_) (len := 1) rfl (Or.inr rfl) rfl ⟨rfl, ?_⟩
      unfold mLay
      rw [if_pos q, ← hg]
      rfl
    · have q := qleF q k 3
      repeat refine kX_one rfl ?_
      refine kX_cal (mr_place L xs (d + 1) _ _ _ _) rfl (Or.inr rfl) rfl rfl rfl (fun r1 σ1 q1 => ?_)
      obtain ⟨rfl, rfl⟩ := q1
      repeat refine kX_one rfl ?_
      refine kX_ialdN rfl rfl (by decide) (mpl (nI k) a c) rfl (mpl_lt _ _ _) ?_
      refine kX_iastN rfl rfl (by decide) (t) (by first | rfl | decide) (ht) ?_
      repeat refine kX_one rfl ?_
      refine kX_iastN rfl rfl (by decide) (mpl (nI k) a c) rfl (mpl_lt _ _ _) ?_
      refine kX_ret (i := .return_) (len := 1) rfl (Or.inr rfl) rfl ⟨rfl, ?_⟩
      unfold mLay
      rw [if_neg (show ¬ k ≤ 3 by omega), ← hg]
      rfl
  repeat refine kX_one rfl ?_
  refine kX_if (fun q => ?_) (fun q => ?_)
  · have q : k = 3 := nI_inj (qeq q)
    iterate 1 (refine kX_one rfl ?_)
    exact tail _ (by unfold mgv; (repeat' split) <;> first | rfl | omega | contradiction)
  · have q3 : k ≠ 3 := fun e => qeqF q (by rw [e]; decide)
    repeat refine kX_one rfl ?_
    rcases h with ⟨h1, rfl, rfl⟩ | ⟨h1, rfl, rfl, h4, h5⟩ | ⟨h1, rfl, rfl, h4⟩
    · iterate 4 (refine kX_one rfl ?_)
      exact tail _ (by unfold mgv; (repeat' split) <;> first | rfl | omega | contradiction)
    · repeat refine kX_one rfl ?_
      refine kX_ifF (decide_eq_false (nI_pos (by omega))) ?_
      repeat refine kX_one rfl ?_
      refine kX_baldN rfl rfl (by decide) (x) (by first | rfl | decide) (by omega) ?_
      repeat refine kX_one rfl ?_
      refine kX_if (fun q1 => ?_) (fun q1 => ?_)
      · have q1 : σ 237 x = 0 := qeq q1
        iterate 1 (refine kX_one rfl ?_)
        exact tail _ (by unfold mgv; (repeat' split) <;> first | rfl | omega | contradiction)
      · have q1 : σ 237 x ≠ 0 := qeqF q1
        iterate 1 (refine kX_one rfl ?_)
        repeat refine kX_one rfl ?_
        refine kX_ifF (decide_eq_false (nI_pos (by omega))) ?_
        repeat refine kX_one rfl ?_
        refine kX_baldN rfl rfl (by decide) (y) (by first | rfl | decide) (by omega) ?_
        repeat refine kX_one rfl ?_
        refine kX_if (fun q2 => ?_) (fun q2 => ?_)
        · have q2 : σ 237 y = 0 := qeq q2
          iterate 1 (refine kX_one rfl ?_)
          exact tail _ (by unfold mgv; (repeat' split) <;> first | rfl | omega | contradiction)
        · have q2 : σ 237 y ≠ 0 := qeqF q2
          iterate 2 (refine kX_one rfl ?_)
          exact tail _ (by unfold mgv; (repeat' split) <;> first | rfl | omega | contradiction)
    · repeat refine kX_one rfl ?_
      refine kX_ifF (decide_eq_false (nI_pos (by omega))) ?_
      repeat refine kX_one rfl ?_
      refine kX_baldN rfl rfl (by decide) (x) (by first | rfl | decide) (by omega) ?_
      repeat refine kX_one rfl ?_
      refine kX_if (fun q1 => ?_) (fun q1 => ?_)
      · have q1 : σ 237 x = 0 := qeq q1
        iterate 1 (refine kX_one rfl ?_)
        exact tail _ (by unfold mgv; (repeat' split) <;> first | rfl | omega | contradiction)
      · have q1 : σ 237 x ≠ 0 := qeqF q1
        iterate 4 (refine kX_one rfl ?_)
        exact tail _ (by unfold mgv; (repeat' split) <;> first | rfl | omega | contradiction)
end
section
/-! the reference's table: release, last, made keep it whole -/
/-- what release leaves -/
def mRel (σ : kS) (f : Nat) (hd : Nat → Int32) : kS := va_up (va_up σ 242 hd) 232 (upd (upd (σ 232) 10 (nI f)) 49 (if σ 232 49 < nI f then σ 232 49 else nI f))
theorem tbW_sub {V V' AG : Nat → Prop} {K F S Z : Nat → Int32} (h : tbW V AG K F S Z) (h1 : ∀ t, V' t → V t) (h2 : ∀ t x, V' t → x < t → V x → V' x) : tbW V' AG K F S Z :=
  ⟨fun t ht => ⟨(h.1 t (h1 t ht)).1, tOk_mono (fun x hx hv => h2 t x ht hx hv) (fun _ _ q => q) rfl rfl rfl (h.1 t (h1 t ht)).2⟩, fun t ht => h.2.1 t (h1 t ht), fun t u ht hu => h.2.2 t u (h1 t ht) (h1 u hu)⟩
theorem mRel_Tb {σ : kS} {n b f : Nat} {hd : Nat → Int32} (h : mTb σ n b) (hf : 200 ≤ f) (hb : f ≤ b) (hc : hcP 1024 1000 (fun t => (mv n b t ∧ 3 < fN (σ 233 t)) ∧ t < f) (mpt σ) hd (σ 243)) : mTb (mRel σ f hd) n f := by
  obtain ⟨h1, h2, h3, h4, h5, h6, h7, h8, h9, h10⟩ := h
  have hv : ∀ t, mv n f t ↔ mv n b t ∧ t < f := fun t => by unfold mv; omega
  refine ⟨h1, hf, by omega, h4, rfl, ?_, fun t ht => h7 t ((hv t).mp ht).1, ?_, fun t g1 g2 => h9 t g1 (by omega), h10⟩
  · exact tbW_sub h6 (fun t ht => ((hv t).mp ht).1) (fun t x ht hx q => (hv x).mpr ⟨q, by have := ((hv t).mp ht).2; omega⟩)
  · exact hcP_congr (V' := fun t => mv n f t ∧ 3 < fN (σ 233 t)) (fun t => ⟨fun q => ⟨(hv t).mpr ⟨q.1.1, q.2⟩, q.1.2⟩, fun q => ⟨⟨((hv t).mp q.1).1, q.2⟩, ((hv t).mp q.1).2⟩⟩) (fun _ _ => rfl) hc
set_option maxRecDepth 100000 in
set_option maxHeartbeats 4000000 in
theorem mr_release (L : Nat) (xs : Nat → Int32) (d : Nat) (σ : kS) (n b f : Nat) (h : mTb σ n b) (hf : 200 ≤ f) (hb : f ≤ b) : kXM kT L xs (d + 1) 151 [.ref 232, .int (nI f)] σ (fun r σ' => r = none ∧ ∃ hd, σ' = mRel σ f hd ∧ mTb σ' n f) := by
  have h0 := h
  obtain ⟨h1, h2, h3, h4, h5, h6, h7, h8, h9, h10⟩ := h
  unfold kXM
  have hend : ∀ hd x, hcP 1024 1000 (fun t => (mv n b t ∧ 3 < fN (σ 233 t)) ∧ t < f) (mpt σ) hd (σ 243) → kX kT L xs (d + 1) 151 50 [(2, .int x), (0, .ref 232), (1, .int (nI f))] [] (va_up σ 242 hd) (fun r σ' => r = none ∧ ∃ hd, σ' = mRel σ f hd ∧ mTb σ' n f) := by
    intro hd x hc
    have hH := mRel_Tb h0 hf hb hc
    repeat refine kX_one rfl ?_
    repeat refine kX_one rfl ?_
    refine kX_if (fun q => ?_) (fun q => ?_)
    · have q1 : nI f ≤ σ 232 49 := of_decide_eq_true q
      have e : mRel σ f hd = va_up (va_up σ 242 hd) 232 (upd (upd (σ 232) 10 (nI f)) 49 (nI f)) := by
        unfold mRel
        rw [if_neg (Int32.not_lt.mpr q1)]
      repeat refine kX_one rfl ?_
      rw [kup_up]
      refine kX_ret (i := .return_) (len := 1) rfl (Or.inr rfl) rfl ⟨rfl, hd, e.symm, ?_⟩
      rw [e] at hH
      exact hH
    · have q1 : σ 232 49 < nI f := Int32.not_le.mp (of_decide_eq_false q)
      have e : mRel σ f hd = va_up (va_up σ 242 hd) 232 (upd (upd (σ 232) 10 (nI f)) 49 (σ 232 49)) := by
        unfold mRel
        rw [if_pos q1]
      repeat refine kX_one rfl ?_
      rw [kup_up]
      refine kX_ret (i := .return_) (len := 1) rfl (Or.inr rfl) rfl ⟨rfl, hd, e.symm, ?_⟩
      rw [e] at hH
      exact hH
  iterate 5 (refine kX_one rfl ?_)
  rw [h5]
  obtain ⟨c, rfl⟩ : ∃ c, b = c + 1 := ⟨b - 1, by omega⟩
  have := mr_release_loop L xs d σ (fun t => mv n (c + 1) t ∧ 3 < fN (σ 233 t)) f hf (by omega) _ hend (c, σ 242) ⟨by simp only; omega, by simp only; omega, fun t g1 g2 => ⟨Or.inr (by simp only at g2; omega), h9 t (by omega) (by simp only at g2; omega)⟩, hcP_congr (fun t => ⟨fun q => ⟨q, by have := q.1; unfold mv at this; simp only; omega⟩, fun q => q.1⟩) (fun _ _ => rfl) h8⟩
  rw [← nI_pred] at this
  rw [kup_self] at this
  exact this
/-- the new TERM's own words -/
theorem mTb_new {σ : kS} {n b t k x y : Nat} {a c : Int32} (h : mTb σ n b) (hm : ∀ u, mv n b u → u < t) (ht : t < 1000) (hw : tNw k a c x y t) (hx : 3 < k → mv n b x) (hy : k = 4 ∨ k = 5 ∨ k = 6 ∨ k = 8 → mv n b y) (h6 : k = 6 ∨ k = 8 → mAG σ n y) (h7 : k = 7 → mAG σ n x) :
    msz (σ 236) k x y = nI (tsz (upd (σ 233) t (nI k)) (upd (σ 234) t a) (upd (σ 235) t c) t) ∧ mgv (σ 237) k x y = bI (tgd (upd (σ 233) t (nI k)) (upd (σ 234) t a) (upd (σ 235) t c) t) := by
  obtain ⟨h1, h2, h3, h4, h5, hW, hG, -⟩ := h
  have hk9 : k ≤ 9 := by rcases hw with h | h | h <;> omega
  have hag : ∀ z, mAG σ n z → mv n b z ∧ tsz (σ 233) (σ 234) (σ 235) z = 1 := fun z hz => by
    refine ⟨Or.inl hz.1, ?_⟩
    rcases hz.2 with e | ⟨e, -⟩
    · exact tA_0 e (by omega)
    · exact tA_0 e (by omega)
  constructor
  · unfold tsz
    rw [tA_new (lf := fun _ => 1) (nd := fun _ a b => 1 + a + b.getD 0) hW.1 hm (by omega) (fun _ q => q) (fun _ _ => rfl) hw hx hy h6 h7]
    unfold msz tNd
    split
    · rfl
    · next h3 =>
      have ex := hW.2.1 x (hx (by omega))
      split
      · next e7 =>
        rw [if_pos (Or.inl e7)]
        have := (hag x (h7 e7)).2
        unfold tsz at this
        rw [this]
        rfl
      · next e7 =>
        split
        · next e45 =>
          rw [if_neg (show ¬ (k = 7 ∨ k = 9) by omega), ex, hW.2.1 y (hy (by omega)), nI_add, nI_add]
          rfl
        · next e45 =>
          split
          · next e9 =>
            rw [if_pos (Or.inr e9), ex, ← nI_0, nI_add, nI_add]
            rfl
          · next e9 =>
            have e68 : k = 6 ∨ k = 8 := by rcases hw with h | h | h <;> omega
            have := (hag y (h6 e68)).2
            unfold tsz at this
            rw [if_neg (show ¬ (k = 7 ∨ k = 9) by omega), ex, nI_add, nI_add, this]
            rfl
  · unfold tgd
    rw [tA_new (lf := fun t => decide (σ 233 t ≠ nI 3)) (nd := fun _ a b => a && b.getD true) hW.1 hm (by omega) (fun _ q => q) (fun u hu => by rw [pk_un (by have := hm u hu; omega)]) hw hx hy h6 h7]
    unfold mgv tNd
    rw [pk_us]
    split
    · next e3 =>
      subst e3
      rfl
    · next e3 =>
      split
      · next e =>
        rw [if_pos (show k ≤ 3 by omega)]
        have : nI k ≠ nI 3 := nI_ne (by omega)
        rw [decide_eq_true this]
        rfl
      · next e =>
        rw [if_neg (show ¬ k ≤ 3 by omega)]
        have ex := hG x (hx (by omega))
        unfold tgd at ex
        rw [ex]
        split
        · next g0 =>
          rw [bI_eq] at g0
          rw [g0]
          split <;> rfl
        · next g0 =>
          have g0 := (bI_ne _).mp g0
          rw [g0]
          split
          · rfl
          · next e7 =>
            have ey := hG y (hy (by rcases hw with h | h | h <;> omega))
            unfold tgd at ey
            rw [ey]
            split
            · next g1 =>
              rw [bI_eq] at g1
              rw [g1]
              rfl
            · next g1 =>
              have g1 := (bI_ne _).mp g1
              rw [g1]
              rfl
/-- the table with one TERM more -/
theorem mTb_lay {σ : kS} {n b t k x y n' b' : Nat} {a c : Int32} (h : mTb σ n b) (hm : ∀ u, mv n b u → u < t) (hv : ∀ u, mv n' b' u ↔ mv n b u ∨ u = t) (ht : t < 1000) (hw : tNw k a c x y t) (hx : 3 < k → mv n b x) (hy : k = 4 ∨ k = 5 ∨ k = 6 ∨ k = 8 → mv n b y) (h6 : k = 6 ∨ k = 8 → mAG σ n y) (h7 : k = 7 → mAG σ n x)
    (hu : 3 < k → ∀ u, mv n b u → ¬ mIs σ u (nI k) a c) (hn : n ≤ n') (τ : Nat → Int32) (e1 : τ 9 = nI n') (e2 : τ 10 = nI b') (hb : n' ≤ 200 ∧ 200 ≤ b' ∧ b' ≤ 1000) (h3 : 200 ≤ t → 3 < k) (h24 : t < n' → tsz (upd (σ 233) t (nI k)) (upd (σ 234) t a) (upd (σ 235) t c) t ≤ 24) :
    mTb (va_up (mLay σ t k a c x y) 232 τ) n' b' := by
  have hk9 : k ≤ 9 := by rcases hw with h | h | h <;> omega
  obtain ⟨ez, eg⟩ := mTb_new h hm ht hw hx hy h6 h7
  have h0 := h
  obtain ⟨g1, g2, g3, g4, g5, hW, hG, hC, hB, hS⟩ := h
  have hA : ∀ z, mAG σ n z → mAG (va_up (mLay σ t k a c x y) 232 τ) n' z := fun z hz => by
    have hzt := hm z (Or.inl hz.1)
    refine ⟨by have := hz.1; omega, ?_⟩
    have e : (va_up (mLay σ t k a c x y) 232 τ) 233 = upd (σ 233) t (nI k) := by unfold mLay; split <;> rfl
    have e' : (va_up (mLay σ t k a c x y) 232 τ) 240 = σ 240 := by unfold mLay; split <;> rfl
    rw [e, e', pk_un (by omega)]
    exact hz.2
  have hp := tb_push hW hm (by omega) hA (tOk_new hw hx hy (fun e => hA _ (h6 e)) (fun e => hA _ (h7 e))) (fun hk u hu' hi => hu (by rw [fN_nI (by omega)] at hk; exact hk) u hu' hi)
  rw [← ez] at hp
  have hgd : ∀ u, mv n' b' u → upd (σ 237) t (mgv (σ 237) k x y) u = bI (tgd (upd (σ 233) t (nI k)) (upd (σ 234) t a) (upd (σ 235) t c) u) := fun u hu' => by
    rcases (hv u).mp hu' with q | rfl
    · have := hm u q
      rw [pk_un (by omega), hG u q]
      exact congrArg bI (tb_old hW.1 hm (fun u hu => by rw [pk_un (by have := hm u hu; omega)]) u q).symm
    · rw [pk_us]
      exact eg
  have hW' : tbW (mv n' b') (mAG (va_up (mLay σ t k a c x y) 232 τ) n') (upd (σ 233) t (nI k)) (upd (σ 234) t a) (upd (σ 235) t c) (upd (σ 236) t (msz (σ 236) k x y)) := tbW_sub hp (fun u q => (hv u).mp q) (fun u z _ _ q => (hv z).mpr q)
  have hb3 : ∀ u, 200 ≤ u → u < b' → 3 < fN (upd (σ 233) t (nI k) u) := fun u q1 q2 => by
    rcases (hv u).mp (Or.inr ⟨q1, q2⟩) with q | rfl
    · have := hm u q
      rw [pk_un (by omega)]
      unfold mv at q
      exact hB u q1 (by omega)
    · rw [pk_us, fN_nI (by omega)]
      exact h3 q1
  have h24' : ∀ u, u < n' → tsz (upd (σ 233) t (nI k)) (upd (σ 234) t a) (upd (σ 235) t c) u ≤ 24 := fun u q => by
    rcases (hv u).mp (Or.inl q) with q1 | rfl
    · have := hm u q1
      have e : tsz (upd (σ 233) t (nI k)) (upd (σ 234) t a) (upd (σ 235) t c) u = tsz (σ 233) (σ 234) (σ 235) u := tb_old hW.1 hm (fun _ _ => rfl) u q1
      rw [e]
      by_cases hun : u < n
      · exact hS u hun
      · exfalso
        unfold mv at q1
        omega
    · exact h24 q
  have hch : hcP 1024 1000 (fun u => mv n' b' u ∧ 3 < fN (upd (σ 233) t (nI k) u)) (fun u => mpl (upd (σ 233) t (nI k) u) (upd (σ 234) t a u) (upd (σ 235) t c u)) (if k ≤ 3 then σ 242 else upd (σ 242) (mpl (nI k) a c) (nI t)) (if k ≤ 3 then σ 243 else upd (σ 243) t (σ 242 (mpl (nI k) a c))) := by
    have hpl : ∀ u, (mv n b u ∧ 3 < fN (σ 233 u)) → mpt σ u = mpl (upd (σ 233) t (nI k) u) (upd (σ 234) t a u) (upd (σ 235) t c u) := fun u q => by
      have := hm u q.1
      rw [pk_un (by omega), pk_un (by omega), pk_un (by omega)]
      rfl
    split
    · next h3 =>
      refine hcP_congr (fun u => ⟨fun q => ⟨(hv u).mpr (Or.inl q.1), ?_⟩, fun q => ?_⟩) hpl hC
      · rw [pk_un (by have := hm u q.1; omega)]
        exact q.2
      · rcases (hv u).mp q.1 with q1 | rfl
        · have q2 := q.2
          rw [pk_un (by have := hm u q1; omega)] at q2
          exact ⟨q1, q2⟩
        · have q2 := q.2
          rw [pk_us, fN_nI (by omega)] at q2
          omega
    · next h3 =>
      have hC2 : hcP 1024 1000 (fun u => mv n b u ∧ 3 < fN (σ 233 u)) (fun u => mpl (upd (σ 233) t (nI k) u) (upd (σ 234) t a u) (upd (σ 235) t c u)) (σ 242) (σ 243) := hcP_congr (fun _ => Iff.rfl) hpl hC
      have := hcP_push (t := t) hC2 (fun u q => hm u q.1) ht (mpl_lt _ _ _)
      rw [pk_us, pk_us, pk_us] at this
      refine hcP_congr (fun u => ⟨fun q => ?_, fun q => ?_⟩) (fun _ _ => rfl) this
      · rcases q with q | rfl
        · refine ⟨(hv u).mpr (Or.inl q.1), ?_⟩
          rw [pk_un (by have := hm u q.1; omega)]
          exact q.2
        · refine ⟨(hv u).mpr (Or.inr rfl), ?_⟩
          rw [pk_us, fN_nI (by omega)]
          omega
      · rcases (hv u).mp q.1 with q1 | rfl
        · have q2 := q.2
          rw [pk_un (by have := hm u q1; omega)] at q2
          exact Or.inl ⟨q1, q2⟩
        · exact Or.inr rfl
  unfold mLay at hA hW' ⊢
  split at hch
  · next hk3 =>
    rw [if_pos hk3] at hW' ⊢
    exact ⟨hb.1, hb.2.1, hb.2.2, e1, e2, hW', hgd, hch, hb3, h24'⟩
  · next hk3 =>
    rw [if_neg hk3] at hW' ⊢
    exact ⟨hb.1, hb.2.1, hb.2.2, e1, e2, hW', hgd, hch, hb3, h24'⟩
/-- contents with another table -/
def mU (σ : kS) (K F S Z G nx hd o : Nat → Int32) : kS := va_up (va_up (va_up (va_up (va_up (va_up (va_up (va_up σ 233 K) 234 F) 235 S) 236 Z) 237 G) 243 nx) 242 hd) 232 o
theorem mU_of {σ τ : kS} (h : ∀ c, c ≠ 233 → c ≠ 234 → c ≠ 235 → c ≠ 236 → c ≠ 237 → c ≠ 243 → c ≠ 242 → c ≠ 232 → τ c = σ c) : τ = mU σ (τ 233) (τ 234) (τ 235) (τ 236) (τ 237) (τ 243) (τ 242) (τ 232) := by
  funext c
  unfold mU va_up
  repeat' split
  all_goals first | (next e => rw [e]) | skip
  next h1 h2 h3 h4 h5 h6 h7 h8 => exact h c h8 h7 h6 h5 h4 h3 h2 h1
def mO (o : Nat → Int32) (n : Nat) (jd : Int32) : Nat → Int32 := upd (upd (upd (upd o 10 (nI 200)) 49 jd) 47 0) 9 (nI (n + 1))
set_option maxRecDepth 100000 in
set_option maxHeartbeats 4000000 in
theorem mr_last (L : Nat) (xs : Nat → Int32) (d : Nat) (σ : kS) (n b k : Nat) (a c : Int32) (x y : Nat) (h : mTb σ n b) (hn : n < 200) (hw : tNw k a c x y n) (h6 : k = 6 ∨ k = 8 → mAG σ n y) (h7 : k = 7 → mAG σ n x) (hu : 3 < k → ∀ u, u < n → ¬ mIs σ u (nI k) a c) (h24 : msz (σ 236) k x y ≤ nI 24) :
    kXM kT L xs (d + 3) 152 [.ref 232, .int (nI k), .int a, .int c] σ (fun r σ' => r = some (.int (nI n)) ∧ ∃ z g nx hd jd, σ' = mU σ (upd (σ 233) n (nI k)) (upd (σ 234) n a) (upd (σ 235) n c) (upd (σ 236) n z) (upd (σ 237) n g) nx hd (mO (σ 232) n jd) ∧ mTb σ' (n + 1) 200) := by
  unfold kXM
  have hb := h.2.1
  repeat refine kX_one rfl ?_
  refine kX_cal (mr_release L xs (d + 1) σ n b 200 h (by decide) hb) rfl (Or.inr rfl) rfl rfl rfl (fun r1 σ1 q1 => ?_)
  obtain ⟨rfl, hd, rfl, hT⟩ := q1
  iterate 6 (refine kX_one rfl ?_)
  refine kX_top (hT.2.2.2.1) ?_
  repeat refine kX_one rfl ?_
  refine kX_cal (mr_lay L xs d _ n k a c x y hw (by omega)) rfl (Or.inr rfl) rfl rfl rfl (fun r1 σ1 q1 => ?_)
  obtain ⟨rfl, rfl⟩ := q1
  have hT2 : mTb (va_up (mRel σ 200 hd) 232 (upd (mRel σ 200 hd 232) 47 (Int32.ofInt 0))) n 200 := hT
  have hterm : mLay (va_up (mRel σ 200 hd) 232 (upd (mRel σ 200 hd 232) 47 (Int32.ofInt 0))) n k a c x y 232 9 = nI n := by
    have := hT.2.2.2.1
    unfold mLay
    split <;> exact this
  iterate 3 (refine kX_one rfl ?_)
  refine kX_top (hterm) ?_
  repeat refine kX_one rfl ?_
  have hm : ∀ u, mv n 200 u → u < n := fun u q => by unfold mv at q; omega
  have hmx : 3 < k → mv n 200 x := fun q => Or.inl (by rcases hw with h | h | h <;> omega)
  have hmy : k = 4 ∨ k = 5 ∨ k = 6 ∨ k = 8 → mv n 200 y := fun q => Or.inl (by rcases hw with h | h | h <;> omega)
  have hnew := mTb_new hT2 hm (by omega) hw hmx hmy h6 h7
  have hz : msz (σ 236) k x y = nI (tsz (upd (σ 233) n (nI k)) (upd (σ 234) n a) (upd (σ 235) n c) n) := hnew.1
  have hsz : ∀ t, t < n → tsz (σ 233) (σ 234) (σ 235) t ≤ 24 := h.2.2.2.2.2.2.2.2.2
  have hle : tsz (upd (σ 233) n (nI k)) (upd (σ 234) n a) (upd (σ 235) n c) n ≤ 24 := by
    have hb : tsz (upd (σ 233) n (nI k)) (upd (σ 234) n a) (upd (σ 235) n c) n < 100 := by
      unfold tsz
      have hV0 : ∀ t, mv n 200 t → t < 100000 ∧ tOk (mv n 200) (mAG σ n) (σ 233) (σ 234) (σ 235) t := hT2.2.2.2.2.2.1.1
      rw [tA_new (lf := fun _ => 1) (nd := fun _ a b => 1 + a + b.getD 0) hV0 hm (by omega) (fun _ q => q) (fun _ _ => rfl) hw hmx hmy h6 h7]
      unfold tNd
      split
      · omega
      · next h3 =>
        have hx9 := hsz x (by rcases hw with h | h | h <;> omega)
        unfold tsz at hx9
        split
        · show 1 + tA (fun _ => 1) (fun _ a b => 1 + a + b.getD 0) (σ 233) (σ 234) (σ 235) x + 0 < 100
          omega
        · next e =>
          have hy9 := hsz y (by rcases hw with h | h | h <;> omega)
          unfold tsz at hy9
          show 1 + tA (fun _ => 1) (fun _ a b => 1 + a + b.getD 0) (σ 233) (σ 234) (σ 235) x + tA (fun _ => 1) (fun _ a b => 1 + a + b.getD 0) (σ 233) (σ 234) (σ 235) y < 100
          omega
    rw [hz] at h24
    exact (nI_leI (by omega) (by decide)).mp h24
  have hF := mTb_lay hT2 hm (n' := n + 1) (b' := 200) (fun u => by unfold mv; omega) (by omega) hw hmx hmy h6 h7 (fun q u hu' => hu q u (hm u hu')) (by omega) (mO (σ 232) n ((mRel σ 200 hd) 232 49)) rfl rfl ⟨by omega, by omega, by omega⟩ (fun q => by omega) (fun _ => hle)
  have eO : (upd (mLay (va_up (mRel σ 200 hd) 232 (upd (mRel σ 200 hd 232) 47 (Int32.ofInt 0))) n k a c x y 232) 9 (nI n + Int32.ofInt 1)) = mO (σ 232) n ((mRel σ 200 hd) 232 49) := by
    have e1 : nI n + Int32.ofInt 1 = nI (n + 1) := nI_1 n
    rw [e1]
    have e2 : mLay (va_up (mRel σ 200 hd) 232 (upd (mRel σ 200 hd 232) 47 (Int32.ofInt 0))) n k a c x y 232 = upd (upd (upd (σ 232) 10 (nI 200)) 49 ((mRel σ 200 hd) 232 49)) 47 0 := by
      unfold mLay
      split <;> rfl
    rw [e2]
    rfl
  refine kX_st (va_up (mLay (va_up (mRel σ 200 hd) 232 (upd (mRel σ 200 hd 232) 47 (Int32.ofInt 0))) n k a c x y) 232 (mO (σ 232) n ((mRel σ 200 hd) 232 49))) (congrArg (va_up _ 232) eO) ?_
  refine kX_ret (i := .ireturn) (len := 1) rfl (Or.inr rfl) rfl ⟨?_, ?_⟩
  · show some (Value.int (upd (mLay (va_up (mRel σ 200 hd) 232 (upd (mRel σ 200 hd 232) 47 (Int32.ofInt 0))) n k a c x y 232) 9 (nI n + Int32.ofInt 1) 9 - Int32.ofInt 1)) = _
    rw [pk_us, show nI n + Int32.ofInt 1 = nI (n + 1) from nI_1 n]
    exact congrArg (fun z => some (Value.int z)) (nI_pred n)
  · refine ⟨msz (σ 236) k x y, mgv (σ 237) k x y, (if k ≤ 3 then σ 243 else upd (σ 243) n (hd (mpl (nI k) a c))), (if k ≤ 3 then hd else upd hd (mpl (nI k) a c) (nI n)), (mRel σ 200 hd) 232 49, ?_, hF⟩
    have := mU_of (σ := σ) (τ := va_up (mLay (va_up (mRel σ 200 hd) 232 (upd (mRel σ 200 hd 232) 47 (Int32.ofInt 0))) n k a c x y) 232 (mO (σ 232) n ((mRel σ 200 hd) 232 49))) (fun c h1 h2 h3 h4 h5 h6 h7 h8 => by
      unfold mLay
      split <;> (unfold mLy mRel; repeat (first | rw [va_ne h8] | rw [va_ne h7] | rw [va_ne h6] | rw [va_ne h5] | rw [va_ne h4] | rw [va_ne h3] | rw [va_ne h2] | rw [va_ne h1])))
    rw [this]
    unfold mLay
    split <;> rfl
end
section
/-! the reference's table: made, oldOrNew, isTerm -/
theorem mcp_iff {σ : kS} {n b : Nat} (h : mTb σ n b) {k : Nat} {a c : Int32} (hk : 3 < k) (hk9 : k ≤ 9) {t : Nat} (ht : mv n b t) (hi : mIs σ t (nI k) a c) : mv n b t ∧ 3 < fN (σ 233 t) := ⟨ht, by rw [hi.1, fN_nI (by omega)]; exact hk⟩
theorem mTb_find {σ : kS} {n b : Nat} (h : mTb σ n b) (L : Nat) (xs : Nat → Int32) (d : Nat) (k : Nat) (a c : Int32) (hk : 3 < k) (hk9 : k ≤ 9) : kXM kT L xs (d + 1) 148 [.ref 232, .int (nI k), .int a, .int c] σ (fun r σ' => σ = σ' ∧ ((r = some (.int (-1)) ∧ ∀ t, mv n b t → ¬ mIs σ t (nI k) a c) ∨ ∃ t, r = some (.int (nI t)) ∧ mv n b t ∧ mIs σ t (nI k) a c)) := by
  have hb := h.2.2.1
  have hn := h.1
  refine kX_post (mr_find L xs d σ (nI k) a c _ (fun t q => by have := q.1; unfold mv at this; omega) h.2.2.2.2.2.2.2.1) (fun r σ' q => ⟨q.1, ?_⟩)
  rcases q.2 with ⟨q1, q2⟩ | ⟨t, q1, q2, q3, q4⟩
  · exact Or.inl ⟨q1, fun t ht hi => q2 t (mcp_iff h hk hk9 ht hi) hi⟩
  · exact Or.inr ⟨t, q2, q3.1, q4⟩
set_option maxRecDepth 100000 in
set_option maxHeartbeats 4000000 in
theorem mr_made (L : Nat) (xs : Nat → Int32) (d : Nat) (σ : kS) (n b k : Nat) (a c : Int32) (x y : Nat) (h : mTb σ n b) (hb : b < 1000) (hk : 3 < k) (hw : tNw k a c x y b) (hx : mv n b x) (hy : k = 4 ∨ k = 5 ∨ k = 6 ∨ k = 8 → mv n b y) (h6 : k = 6 ∨ k = 8 → mAG σ n y) (h7 : k = 7 → mAG σ n x) :
    kXM kT L xs (d + 3) 153 [.ref 232, .int (nI k), .int a, .int c] σ (fun r σ' => ∃ t, r = some (.int (nI t)) ∧ ((mv n b t ∧ mIs σ t (nI k) a c ∧ σ = σ') ∨ (t = b ∧ (∀ u, mv n b u → ¬ mIs σ u (nI k) a c) ∧ (∃ z g nx hd, σ' = mU σ (upd (σ 233) b (nI k)) (upd (σ 234) b a) (upd (σ 235) b c) (upd (σ 236) b z) (upd (σ 237) b g) nx hd (upd (σ 232) 10 (nI (b + 1)))) ∧ mTb σ' n (b + 1)))) := by
  unfold kXM
  have hk9 : k ≤ 9 := by rcases hw with h | h | h <;> omega
  repeat refine kX_one rfl ?_
  refine kX_cal (mTb_find h L xs (d + 1) k a c hk hk9) rfl (Or.inr rfl) rfl rfl rfl (fun r1 σ1 q1 => ?_)
  obtain ⟨rfl, q1⟩ := q1
  rcases q1 with ⟨rfl, hno⟩ | ⟨t, rfl, ht, hi⟩
  · repeat refine kX_one rfl ?_
    rw [h.2.2.2.2.1]
    refine kX_cal (mr_lay L xs d σ b k a c x y hw hb) rfl (Or.inr rfl) rfl rfl rfl (fun r1 σ1 q1 => ?_)
    obtain ⟨rfl, rfl⟩ := q1
    have h2 := h.2.1
    have h1 := h.1
    have hbe : mLay σ b k a c x y 232 10 = nI b := by
      have := h.2.2.2.2.1
      unfold mLay
      split <;> exact this
    iterate 3 (refine kX_one rfl ?_)
    refine kX_top (hbe) ?_
    iterate 2 (refine kX_one rfl ?_)
    refine kX_top (nI_1 b) ?_
    repeat refine kX_one rfl ?_
    have hm : ∀ u, mv n b u → u < b := fun u q => by unfold mv at q; omega
    have e232 : mLay σ b k a c x y 232 = σ 232 := by unfold mLay; split <;> rfl
    refine kX_st (va_up (mLay σ b k a c x y) 232 (upd (σ 232) 10 (nI (b + 1)))) (congrArg (fun z => va_up (mLay σ b k a c x y) 232 (upd z 10 (nI (b + 1)))) e232) ?_
    have hF := mTb_lay h hm (n' := n) (b' := b + 1) (fun u => by unfold mv; omega) hb hw (fun _ => hx) hy h6 h7 (fun _ u hu => hno u hu) (Nat.le_refl _) (upd (σ 232) 10 (nI (b + 1))) h.2.2.2.1 rfl ⟨h1, by omega, by omega⟩ (fun _ => hk) (fun q => by omega)
    refine kX_ret (i := .ireturn) (len := 1) rfl (Or.inr rfl) rfl ⟨b, rfl, Or.inr ⟨rfl, hno, ⟨msz (σ 236) k x y, mgv (σ 237) k x y, upd (σ 243) b (σ 242 (mpl (nI k) a c)), upd (σ 242) (mpl (nI k) a c) (nI b), ?_⟩, hF⟩⟩
    unfold mLay
    rw [if_neg (show ¬ k ≤ 3 by omega)]
    rfl
  · have hb3 := h.2.2.1
    have h1 := h.1
    repeat refine kX_one rfl ?_
    repeat refine kX_one rfl ?_
    refine kX_ifT (by show jcmp .ge (nI t) 0 = true; exact decide_eq_true (nI_pos' (by unfold mv at ht; omega))) ?_
    repeat refine kX_one rfl ?_
    refine kX_ret (i := .ireturn) (len := 1) rfl (Or.inr rfl) rfl (⟨t, rfl, Or.inl ⟨ht, hi, rfl⟩⟩)
theorem lcmp_lt {a b : Int64} : lg_cmp a b < 0 ↔ a < b := by
  unfold lg_cmp
  split
  · next h =>
    refine ⟨fun q => absurd q (by decide), fun q => ?_⟩
    have h1 := Int64.lt_iff_toInt_lt.mp h
    have h2 := Int64.lt_iff_toInt_lt.mp q
    omega
  · next h =>
    split
    · next e =>
      refine ⟨fun q => absurd q (by decide), fun q => ?_⟩
      have h2 := Int64.lt_iff_toInt_lt.mp q
      rw [e] at h2
      omega
    · next e =>
      refine ⟨fun _ => ?_, fun _ => by decide⟩
      refine Int64.lt_iff_toInt_lt.mpr ?_
      have h1 : ¬ b.toInt < a.toInt := fun q => h (Int64.lt_iff_toInt_lt.mpr q)
      have h2 : a.toInt ≠ b.toInt := fun q => e (Int64.toInt_inj.mp q)
      omega
theorem lcmp_gt {a b : Int64} : 0 < lg_cmp a b ↔ b < a := by
  unfold lg_cmp
  split
  · next h => exact ⟨fun _ => h, fun _ => by decide⟩
  · next h =>
    split
    · exact ⟨fun q => absurd q (by decide), fun q => absurd q h⟩
    · exact ⟨fun q => absurd q (by decide), fun q => absurd q h⟩
set_option maxRecDepth 100000 in
set_option maxHeartbeats 4000000 in
theorem mr_in (L : Nat) (xs : Nat → Int32) (d : Nat) (σ : kS) (v lo hi : Int64) : kXM kT L xs d 145 [.long v, .long lo, .long hi] σ (fun r σ' => r = some (.int (bI (decide (¬ v < lo ∧ ¬ hi < v)))) ∧ σ = σ') := by
  unfold kXM
  repeat refine kX_one rfl ?_
  repeat refine kX_one rfl ?_
  refine kX_if (fun q => ?_) (fun q => ?_)
  · have q := lcmp_lt.mp (of_decide_eq_true q)
    repeat refine kX_one rfl ?_
    refine kX_ret (i := .ireturn) (len := 1) rfl (Or.inr rfl) rfl (⟨by rw [decide_eq_false (fun h => h.1 q)]; rfl, rfl⟩)
  · have q : ¬ v < lo := fun h => of_decide_eq_false q (lcmp_lt.mpr h)
    repeat refine kX_one rfl ?_
    repeat refine kX_one rfl ?_
    refine kX_if (fun q2 => ?_) (fun q2 => ?_)
    · have q2 := lcmp_gt.mp (of_decide_eq_true q2)
      repeat refine kX_one rfl ?_
      refine kX_ret (i := .ireturn) (len := 1) rfl (Or.inr rfl) rfl (⟨by rw [decide_eq_false (fun h => h.2 q2)]; rfl, rfl⟩)
    · have q2 : ¬ hi < v := fun h => of_decide_eq_false q2 (lcmp_gt.mpr h)
      repeat refine kX_one rfl ?_
      refine kX_ret (i := .ireturn) (len := 1) rfl (Or.inr rfl) rfl (⟨by rw [decide_eq_true ⟨q, q2⟩]; rfl, rfl⟩)
/-- x is a number below n -/
def isN (x : Int32) (n : Nat) : Prop := ∃ j, j < n ∧ x = nI j
theorem i64_lt (x y : Int32) : x.toInt64 < y.toInt64 ↔ x < y := by
  rw [Int64.lt_iff_toInt_lt, Int32.lt_iff_toInt_lt, Int32.toInt_toInt64, Int32.toInt_toInt64]
theorem in_N {x : Int32} {n : Nat} (hn : n < 1000000) : (¬ x.toInt64 < (0 : Int32).toInt64 ∧ ¬ (nI n - 1).toInt64 < x.toInt64) ↔ isN x n := by
  rw [i64_lt, i64_lt]
  constructor
  · rintro ⟨h1, h2⟩
    obtain ⟨j, hj, rfl⟩ := nI_of h1
    refine ⟨j, ?_, rfl⟩
    refine Nat.not_le.mp (fun h => h2 ?_)
    rw [Int32.lt_iff_toInt_lt, nI_toInt hj]
    have := pk_sub_toInt (a := n) (b := 1) (by omega) (by omega)
    rw [show (nI n - 1).toInt = (nI n - nI 1).toInt from rfl, this]
    omega
  · rintro ⟨j, hj, rfl⟩
    refine ⟨nI_pos (by omega), fun h => ?_⟩
    rw [Int32.lt_iff_toInt_lt, nI_toInt (by omega)] at h
    have := pk_sub_toInt (a := n) (b := 1) (by omega) (by omega)
    rw [show (nI n - 1).toInt = (nI n - nI 1).toInt from rfl, this] at h
    omega
noncomputable def isB (P : Prop) : Int32 := @ite _ P (Classical.propDecidable P) 1 0
theorem isB_T {P : Prop} (h : P) : isB P = 1 := by unfold isB; exact if_pos h
theorem isB_F {P : Prop} (h : ¬ P) : isB P = 0 := by unfold isB; exact if_neg h
theorem isB_ne {P : Prop} : isB P ≠ 0 ↔ P := by
  by_cases h : P
  · rw [isB_T h]
    exact ⟨fun _ => h, fun _ => by decide⟩
  · rw [isB_F h]
    exact ⟨fun q => absurd rfl q, fun q => absurd q h⟩
theorem isB_dec {P : Prop} {_ : Decidable P} : bI (decide P) = isB P := by
  by_cases h : P
  · rw [isB_T h, decide_eq_true h]; rfl
  · rw [isB_F h, decide_eq_false h]; rfl
set_option maxRecDepth 100000 in
set_option maxHeartbeats 4000000 in
theorem mr_isTerm (L : Nat) (xs : Nat → Int32) (d : Nat) (σ : kS) (n : Nat) (x : Int32) (h : σ 232 9 = nI n) (hn : n < 1000000) : kXM kT L xs (d + 1) 154 [.ref 232, .int x] σ (fun r σ' => r = some (.int (isB (isN x n))) ∧ σ = σ') := by
  unfold kXM
  repeat refine kX_one rfl ?_
  refine kX_cal (mr_in L xs d σ _ _ _) rfl (Or.inr rfl) rfl rfl rfl (fun r1 σ1 q1 => ?_)
  obtain ⟨rfl, rfl⟩ := q1
  refine kX_ret (i := .ireturn) (len := 1) rfl (Or.inr rfl) (jend_b rfl (bI_01 _)) ⟨?_, rfl⟩
  rw [isB_dec, ← in_N hn, ← h]
  rfl
end
section
/-! the reference: TERMS made by calls -/
theorem mU_mU (σ : kS) (K F S Z G nx hd o K' F' S' Z' G' nx' hd' o' : Nat → Int32) : mU (mU σ K F S Z G nx hd o) K' F' S' Z' G' nx' hd' o' = mU σ K' F' S' Z' G' nx' hd' o' :=
  mU_of (σ := σ) (τ := mU (mU σ K F S Z G nx hd o) K' F' S' Z' G' nx' hd' o') (fun c h1 h2 h3 h4 h5 h6 h7 h8 => by
    simp [mU, va_up, h1, h2, h3, h4, h5, h6, h7, h8])
/-- σ' is σ with the TERM (k, a, c) at n -/
def mNw (σ σ' : kS) (n k : Nat) (a c : Int32) : Prop := ∃ z g nx hd jd, σ' = mU σ (upd (σ 233) n (nI k)) (upd (σ 234) n a) (upd (σ 235) n c) (upd (σ 236) n z) (upd (σ 237) n g) nx hd (mO (σ 232) n jd) ∧ mTb σ' (n + 1) 200
def mO0 (o : Nat → Int32) (jd : Int32) : Nat → Int32 := upd (upd (upd o 10 (nI 200)) 49 jd) 47 0
/-- σ' is σ without those that have no number, and without a row -/
def mRs (σ σ' : kS) (n : Nat) : Prop := ∃ hd jd, σ' = mU σ (σ 233) (σ 234) (σ 235) (σ 236) (σ 237) (σ 243) hd (mO0 (σ 232) jd) ∧ mTb σ' n 200
theorem mO_mO0 (o : Nat → Int32) (n : Nat) (jd jd' : Int32) : mO (mO0 o jd) n jd' = mO o n jd' := by
  funext j
  unfold mO mO0 upd
  repeat' split
  all_goals first | rfl | omega
theorem mNw_Rs {σ τ σ' : kS} {n k : Nat} {a c : Int32} (h1 : mRs σ τ n) (h2 : mNw τ σ' n k a c) : mNw σ σ' n k a c := by
  obtain ⟨hd, jd, rfl, hT⟩ := h1
  obtain ⟨z, g, nx, hd2, jd2, rfl, hT2⟩ := h2
  refine ⟨z, g, nx, hd2, jd2, ?_, hT2⟩
  rw [mU_mU]
  have e : mO (mU σ (σ 233) (σ 234) (σ 235) (σ 236) (σ 237) (σ 243) hd (mO0 (σ 232) jd) 232) n jd2 = mO (σ 232) n jd2 := mO_mO0 _ _ _ _
  rw [e]
  rfl
set_option maxRecDepth 100000 in
set_option maxHeartbeats 4000000 in
theorem mr_oldOrNew (L : Nat) (xs : Nat → Int32) (d : Nat) (σ : kS) (n b k : Nat) (a c : Int32) (x y : Nat) (h : mTb σ n b) (hk : 3 < k) (hw : tNw k a c x y n) (h6 : k = 6 ∨ k = 8 → mAG σ n y) (h7 : k = 7 → mAG σ n x) :
    kXM kT L xs (d + 4) 157 [.ref 232, .int (nI k), .int a, .int c] σ (fun r σ' =>
      (¬ msz (σ 236) k x y ≤ nI 24 ∧ r = some (.int (-2)) ∧ σ = σ') ∨
      (msz (σ 236) k x y ≤ nI 24 ∧ (∃ t, t < n ∧ mIs σ t (nI k) a c ∧ r = some (.int (nI t))) ∧ σ = σ') ∨
      (msz (σ 236) k x y ≤ nI 24 ∧ (∀ t, t < n → ¬ mIs σ t (nI k) a c) ∧ n = 200 ∧ r = some (.int (-4)) ∧ (σ = σ' ∨ mRs σ σ' n)) ∨
      (msz (σ 236) k x y ≤ nI 24 ∧ (∀ t, t < n → ¬ mIs σ t (nI k) a c) ∧ n < 200 ∧ r = some (.int (nI n)) ∧ mNw σ σ' n k a c)) := by
  have hk9 : k ≤ 9 := by rcases hw with h | h | h <;> omega
  have hn := h.1
  have hw' : tNw k a c x y 1000 := tNw_mono hw (by omega)
  unfold kXM
  repeat refine kX_one rfl ?_
  refine kX_cal (mr_size L xs (d + 2) σ k a c x y hw') rfl (Or.inr rfl) rfl rfl rfl (fun r1 σ1 q1 => ?_)
  obtain ⟨rfl, rfl⟩ := q1
  repeat refine kX_one rfl ?_
  repeat refine kX_one rfl ?_
  refine kX_if (fun q => ?_) (fun q => ?_)
  · have q : msz (σ 236) k x y ≤ nI 24 := of_decide_eq_true q
    repeat refine kX_one rfl ?_
    refine kX_cal (mTb_find h L xs (d + 2) k a c hk hk9) rfl (Or.inr rfl) rfl rfl rfl (fun r1 σ1 q1 => ?_)
    obtain ⟨rfl, q1⟩ := q1
    /- behind the search: t is -1, in contents that are σ or without the unnumbered -/
    have tail : ∀ τ, (σ = τ ∨ mRs σ τ n) → (∀ t, t < n → ¬ mIs σ t (nI k) a c) → ∀ lv, lv = [(4, Value.int (-1)), (0, .ref 232), (1, .int (nI k)), (2, .int a), (3, .int c)] → kX kT L xs (d + 4) 157 47 lv [] τ (fun r σ' =>
      (¬ msz (σ 236) k x y ≤ nI 24 ∧ r = some (.int (-2)) ∧ σ = σ') ∨
      (msz (σ 236) k x y ≤ nI 24 ∧ (∃ t, t < n ∧ mIs σ t (nI k) a c ∧ r = some (.int (nI t))) ∧ σ = σ') ∨
      (msz (σ 236) k x y ≤ nI 24 ∧ (∀ t, t < n → ¬ mIs σ t (nI k) a c) ∧ n = 200 ∧ r = some (.int (-4)) ∧ (σ = σ' ∨ mRs σ σ' n)) ∨
      (msz (σ 236) k x y ≤ nI 24 ∧ (∀ t, t < n → ¬ mIs σ t (nI k) a c) ∧ n < 200 ∧ r = some (.int (nI n)) ∧ mNw σ σ' n k a c)) := by
      intro τ hτ hno lv hlv
      subst hlv
      have hT : ∃ b', mTb τ n b' := by
        rcases hτ with rfl | ⟨hd, jd, -, hT⟩
        · exact ⟨b, h⟩
        · exact ⟨200, hT⟩
      obtain ⟨b', hT⟩ := hT
      repeat refine kX_one rfl ?_
      repeat refine kX_one rfl ?_
      refine kX_if (fun q2 => ?_) (fun q2 => ?_)
      · have q2 : n ≠ 200 := fun e => qne q2 (by rw [hT.2.2.2.1, e]; decide)
        repeat refine kX_one rfl ?_
        have hcond : (k = 6 ∨ k = 8 → mAG τ n y) ∧ (k = 7 → mAG τ n x) ∧ (3 < k → ∀ u, u < n → ¬ mIs τ u (nI k) a c) ∧ msz (τ 236) k x y ≤ nI 24 := by
          rcases hτ with rfl | ⟨hd, jd, rfl, -⟩
          · exact ⟨h6, h7, fun _ => hno, q⟩
          · exact ⟨h6, h7, fun _ => hno, q⟩
        refine kX_cal (mr_last L xs d τ n b' k a c x y hT (by omega) hw hcond.1 hcond.2.1 hcond.2.2.1 hcond.2.2.2) rfl (Or.inr rfl) rfl rfl rfl (fun r1 σ1 q1 => ?_)
        obtain ⟨rfl, hnew⟩ := q1
        repeat refine kX_one rfl ?_
        refine kX_ret (i := .ireturn) (len := 1) rfl (Or.inr rfl) rfl (Or.inr (Or.inr (Or.inr ⟨q, hno, by omega, rfl, ?_⟩)))
        rcases hτ with rfl | hτ
        · exact hnew
        · exact mNw_Rs hτ hnew
      · have q2 : n = 200 := nI_inj (hT.2.2.2.1.symm.trans (qneF q2))
        repeat refine kX_one rfl ?_
        refine kX_ret (i := .ireturn) (len := 1) rfl (Or.inr rfl) rfl (Or.inr (Or.inr (Or.inl ⟨q, hno, q2, rfl, hτ⟩)))
    rcases q1 with ⟨rfl, hno⟩ | ⟨t, rfl, ht, hi⟩
    · iterate 4 (refine kX_one rfl ?_)
      exact tail σ (Or.inl rfl) (fun t ht => hno t (Or.inl ht)) _ rfl
    · have ht1 : t < 1000 := by have := h.2.2.1; unfold mv at ht; omega
      iterate 3 (refine kX_one rfl ?_)
      repeat refine kX_one rfl ?_
      refine kX_if (fun q2 => ?_) (fun q2 => ?_)
      · have q2 := qlt q2 t 200
        iterate 1 (refine kX_one rfl ?_)
        repeat refine kX_one rfl ?_
        refine kX_ifF (decide_eq_false (nI_pos (by omega))) ?_
        repeat refine kX_one rfl ?_
        refine kX_ret (i := .ireturn) (len := 1) rfl (Or.inr rfl) rfl (Or.inr (Or.inl ⟨q, ⟨t, by unfold mv at ht; omega, hi, rfl⟩, rfl⟩))
      · have q2 := qltF q2 t 200
        repeat refine kX_one rfl ?_
        refine kX_cal (mr_release L xs (d + 2) σ n b 200 h (by decide) h.2.1) rfl (Or.inr rfl) rfl rfl rfl (fun r1 σ1 q1 => ?_)
        obtain ⟨rfl, hd, rfl, hT⟩ := q1
        iterate 5 (refine kX_one rfl ?_)
        refine kX_lv [(4, Value.int (-1)), (0, .ref 232), (1, .int (nI k)), (2, .int a), (3, .int c)] rfl rfl rfl ?_
        refine tail (va_up (mRel σ 200 hd) 232 (upd (mRel σ 200 hd 232) 47 (Int32.ofInt 0))) (Or.inr ⟨hd, (mRel σ 200 hd) 232 49, ?_, hT⟩) (fun u hu hi2 => ?_) _ rfl
        · have := mU_of (σ := σ) (τ := va_up (mRel σ 200 hd) 232 (upd (mRel σ 200 hd 232) 47 (Int32.ofInt 0))) (fun c h1 h2 h3 h4 h5 h6 h7 h8 => by
            simp [mRel, va_up, h1, h2, h3, h4, h5, h6, h7, h8])
          rw [this]
          have e : (va_up (mRel σ 200 hd) 232 (upd (mRel σ 200 hd 232) 47 (Int32.ofInt 0))) 232 = mO0 (σ 232) ((mRel σ 200 hd) 232 49) := rfl
          rw [e]
          rfl
        · have := h.2.2.2.2.2.1.2.2 t u ht (Or.inl hu) (mcp_iff h hk hk9 ht hi).2 (hi.1.trans hi2.1.symm) (hi.2.1.trans hi2.2.1.symm) (hi.2.2.trans hi2.2.2.symm)
          omega
  · have q : ¬ msz (σ 236) k x y ≤ nI 24 := of_decide_eq_false q
    repeat refine kX_one rfl ?_
    refine kX_ret (i := .ireturn) (len := 1) rfl (Or.inr rfl) rfl (Or.inl ⟨q, rfl, rfl⟩)
set_option maxRecDepth 100000 in
set_option maxHeartbeats 4000000 in
theorem mr_agent (L : Nat) (xs : Nat → Int32) (d : Nat) (σ : kS) (n b : Nat) (h : mTb σ n b) (v : Int32) (hv : v = 0 ∨ v = 1) : kXM kT L xs (d + 4) 155 [.ref 232, .int v] σ (fun r σ' => (n = 200 ∧ r = some (.int (-4)) ∧ σ = σ') ∨ (n < 200 ∧ r = some (.int (nI n)) ∧ ∃ τ, mNw σ τ n 0 (-1) (-1) ∧ σ' = va_up τ 238 (upd (σ 238) n v))) := by
  unfold kXM
  repeat refine kX_one rfl ?_
  have hn := h.1
  repeat refine kX_one rfl ?_
  refine kX_if (fun q => ?_) (fun q => ?_)
  · have q : n ≠ 200 := fun e => qne q (by rw [h.2.2.2.1, e]; decide)
    repeat refine kX_one rfl ?_
    refine kX_cal (mr_last L xs d σ n b 0 (-1) (-1) 0 0 h (by omega) (Or.inl ⟨by omega, rfl, rfl⟩) (by omega) (by omega) (by omega) (show nI 1 ≤ nI 24 by decide)) rfl (Or.inr rfl) rfl rfl rfl (fun r1 σ1 q1 => ?_)
    obtain ⟨rfl, hnew⟩ := q1
    repeat refine kX_one rfl ?_
    refine kX_bastN rfl rfl (by decide) (n) (by first | rfl | decide) (by omega) (hv) ?_
    repeat refine kX_one rfl ?_
    refine kX_ret (i := .ireturn) (len := 1) rfl (Or.inr rfl) rfl (Or.inr ⟨by omega, rfl, σ1, hnew, ?_⟩)
    obtain ⟨z, g, nx, hd, jd, rfl, -⟩ := hnew
    rfl
  · have q : n = 200 := nI_inj (h.2.2.2.1.symm.trans (qneF q))
    repeat refine kX_one rfl ?_
    refine kX_ret (i := .ireturn) (len := 1) rfl (Or.inr rfl) rfl (Or.inl ⟨q, rfl, rfl⟩)
end
