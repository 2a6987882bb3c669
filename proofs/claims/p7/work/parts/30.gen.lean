/-! tools: branches, updates, comparisons over numbers, loops by a measure, locals in any order -/
section KIF
variable {T : List jC} {L : Nat} {xs : Nat → Int32} {d mi pc : Nat} {lv : jL} {st : List Value} {σ : kS} {Q : Option Value → kS → Prop}
theorem kX_ifT {c : Bool} {p1 p2 : Nat} (h : c = true) (g : kX T L xs d mi p1 lv st σ Q) : kX T L xs d mi (if c = true then p1 else p2) lv st σ Q := by
  rw [if_pos h]
  exact g
theorem kX_ifF {c : Bool} {p1 p2 : Nat} (h : c = false) (g : kX T L xs d mi p2 lv st σ Q) : kX T L xs d mi (if c = true then p1 else p2) lv st σ Q := by
  rw [if_neg (by rw [h]; exact Bool.false_ne_true)]
  exact g
end KIF
theorem kup_up (σ : kS) (a : Nat) (f g : Nat → Int32) : va_up (va_up σ a f) a g = va_up σ a g := by
  funext k
  unfold va_up
  split
  · rfl
  · rfl
theorem kup_self (σ : kS) (a : Nat) : va_up σ a (σ a) = σ := by
  funext k
  unfold va_up
  split
  · next h => rw [h]
  · rfl
theorem kup_at (σ : kS) (a : Nat) (f : Nat → Int32) : va_up σ a f a = f := if_pos rfl
theorem kup_ne {σ : kS} {a b : Nat} {f : Nat → Int32} (h : b ≠ a) : va_up σ a f b = σ b := if_neg h
theorem kup_comm (σ : kS) {a b : Nat} (h : a ≠ b) (f g : Nat → Int32) : va_up (va_up σ a f) b g = va_up (va_up σ b g) a f := by
  funext k
  unfold va_up
  split
  · next e =>
    subst e
    rw [if_neg (Ne.symm h)]
  · rfl
theorem jinN {k n : Nat} (h : k < n) (hn : n ≤ 100000) : jin (nI k) n = true := decide_eq_true (nI_in h (by omega))
theorem jeq_rf (x : Int32) : jcmp .eq x x = true := decide_eq_true rfl
theorem qge {x y : Int32} (q : jcmp .ge x y = true) (a b : Nat) (hx : x = nI a := by first | rfl | decide) (hy : y = nI b := by first | rfl | decide) (ha : a < 2147483648 := by omega) (hb : b < 2147483648 := by omega) : b ≤ a := by
  subst hx hy
  exact (nI_leI hb ha).mp (of_decide_eq_true q)
theorem qgeF {x y : Int32} (q : jcmp .ge x y = false) (a b : Nat) (hx : x = nI a := by first | rfl | decide) (hy : y = nI b := by first | rfl | decide) (ha : a < 2147483648 := by omega) (hb : b < 2147483648 := by omega) : a < b := by
  subst hx hy
  exact Nat.not_le.mp (fun h => of_decide_eq_false q ((nI_leI hb ha).mpr h))
theorem qlt {x y : Int32} (q : jcmp .lt x y = true) (a b : Nat) (hx : x = nI a := by first | rfl | decide) (hy : y = nI b := by first | rfl | decide) (ha : a < 2147483648 := by omega) (hb : b < 2147483648 := by omega) : a < b := by
  subst hx hy
  exact (nI_ltI ha hb).mp (of_decide_eq_true q)
theorem qltF {x y : Int32} (q : jcmp .lt x y = false) (a b : Nat) (hx : x = nI a := by first | rfl | decide) (hy : y = nI b := by first | rfl | decide) (ha : a < 2147483648 := by omega) (hb : b < 2147483648 := by omega) : b ≤ a := by
  subst hx hy
  exact Nat.not_lt.mp (fun h => of_decide_eq_false q ((nI_ltI ha hb).mpr h))
theorem qgt {x y : Int32} (q : jcmp .gt x y = true) (a b : Nat) (hx : x = nI a := by first | rfl | decide) (hy : y = nI b := by first | rfl | decide) (ha : a < 2147483648 := by omega) (hb : b < 2147483648 := by omega) : b < a := by
  subst hx hy
  exact (nI_ltI hb ha).mp (of_decide_eq_true q)
theorem qgtF {x y : Int32} (q : jcmp .gt x y = false) (a b : Nat) (hx : x = nI a := by first | rfl | decide) (hy : y = nI b := by first | rfl | decide) (ha : a < 2147483648 := by omega) (hb : b < 2147483648 := by omega) : a ≤ b := by
  subst hx hy
  exact Nat.not_lt.mp (fun h => of_decide_eq_false q ((nI_ltI hb ha).mpr h))
theorem qle {x y : Int32} (q : jcmp .le x y = true) (a b : Nat) (hx : x = nI a := by first | rfl | decide) (hy : y = nI b := by first | rfl | decide) (ha : a < 2147483648 := by omega) (hb : b < 2147483648 := by omega) : a ≤ b := by
  subst hx hy
  exact (nI_leI ha hb).mp (of_decide_eq_true q)
theorem qleF {x y : Int32} (q : jcmp .le x y = false) (a b : Nat) (hx : x = nI a := by first | rfl | decide) (hy : y = nI b := by first | rfl | decide) (ha : a < 2147483648 := by omega) (hb : b < 2147483648 := by omega) : b < a := by
  subst hx hy
  exact Nat.not_le.mp (fun h => of_decide_eq_false q ((nI_leI ha hb).mpr h))
theorem qeq {x y : Int32} (q : jcmp .eq x y = true) : x = y := of_decide_eq_true q
theorem qeqF {x y : Int32} (q : jcmp .eq x y = false) : x ≠ y := of_decide_eq_false q
theorem qne {x y : Int32} (q : jcmp .ne x y = true) : x ≠ y := of_decide_eq_true q
theorem qneF {x y : Int32} (q : jcmp .ne x y = false) : x = y := Decidable.of_not_not (of_decide_eq_false q)
theorem nI_inj {a b : Nat} (h : nI a = nI b) (ha : a < 2147483648 := by omega) (hb : b < 2147483648 := by omega) : a = b := (nI_eq ha hb).mp h
theorem nI_ne {a b : Nat} (h : a ≠ b) (ha : a < 2147483648 := by omega) (hb : b < 2147483648 := by omega) : nI a ≠ nI b := fun e => h ((nI_eq ha hb).mp e)
theorem nI_m1 {a : Nat} (ha : a < 2147483648 := by omega) : nI a ≠ -1 := by
  intro e
  have h := nI_pos (n := a) ha
  rw [e] at h
  exact h (by decide)
theorem jend_b {mi : Nat} {x : Int32} (hr : jm_ret mi = some .boolean) (hx : x = 0 ∨ x = 1) : jend mi [.int x] .ireturn = some (some (.int x)) := by
  unfold jend
  rw [hr]
  have h : jfit .boolean (.int x) = true := decide_eq_true hx
  dsimp only
  rw [if_pos h]
section KN
variable {T : List jC} {L : Nat} {xs : Nat → Int32} {d mi pc : Nat} {lv : jL} {st : List Value} {σ : kS} {Q : Option Value → kS → Prop}
/-- array accesses at a number -/
theorem kX_ialdN {j : Int32} {a n : Nat} {g0 : Nat → Int32} {rest : List Value} (hi : jm_ins mi pc = some (.iaload, 1)) (ha : T[a]? = some (.inl (0, n, .inl g0))) (hn : n ≤ 100000) (k : Nat) (hj : j = nI k) (hk : k < n) (g : kX T L xs (d + 1) mi (pc + 1) lv (.int (σ a k) :: rest) σ Q) : kX T L xs (d + 1) mi pc lv (.int j :: .ref a :: rest) σ Q := by
  subst hj
  exact kX_iald hi ha (jinN hk hn) (by rw [nI_clamp (by omega)]; exact g)
theorem kX_baldN {j : Int32} {a n : Nat} {g0 : Nat → Int32} {rest : List Value} (hi : jm_ins mi pc = some (.baload, 1)) (ha : T[a]? = some (.inl (1, n, .inl g0))) (hn : n ≤ 100000) (k : Nat) (hj : j = nI k) (hk : k < n) (g : kX T L xs (d + 1) mi (pc + 1) lv (.int (σ a k) :: rest) σ Q) : kX T L xs (d + 1) mi pc lv (.int j :: .ref a :: rest) σ Q := by
  subst hj
  exact kX_bald hi ha (jinN hk hn) (by rw [nI_clamp (by omega)]; exact g)
theorem kX_iastN {x j : Int32} {a n : Nat} {g0 : Nat → Int32} {rest : List Value} (hi : jm_ins mi pc = some (.iastore, 1)) (ha : T[a]? = some (.inl (0, n, .inl g0))) (hn : n ≤ 100000) (k : Nat) (hj : j = nI k) (hk : k < n) (g : kX T L xs (d + 1) mi (pc + 1) lv rest (va_up σ a (upd (σ a) k x)) Q) : kX T L xs (d + 1) mi pc lv (.int x :: .int j :: .ref a :: rest) σ Q := by
  subst hj
  exact kX_iast hi ha (jinN hk hn) (by rw [nI_clamp (by omega)]; exact g)
theorem kX_bastN {x j : Int32} {a n : Nat} {g0 : Nat → Int32} {rest : List Value} (hi : jm_ins mi pc = some (.bastore, 1)) (ha : T[a]? = some (.inl (1, n, .inl g0))) (hn : n ≤ 100000) (k : Nat) (hj : j = nI k) (hk : k < n) (hx : x = 0 ∨ x = 1) (g : kX T L xs (d + 1) mi (pc + 1) lv rest (va_up σ a (upd (σ a) k x)) Q) : kX T L xs (d + 1) mi pc lv (.int x :: .int j :: .ref a :: rest) σ Q := by
  subst hj
  exact kX_bast hi ha (jinN hk hn) hx (by rw [nI_clamp (by omega)]; exact g)
theorem kX_aaldN {j : Int32} {a n t r : Nat} {g0 : Nat → Option Nat} {rest : List Value} (hi : jm_ins mi pc = some (.aaload, 1)) (ha : T[a]? = some (.inl (t, n, .inr (.inr (.inr (.inr g0)))))) (hn : n ≤ 100000) (h2 : 2 ≤ t) (ht : t < jm_nat) (k : Nat) (hj : j = nI k) (hk : k < n) (hr : g0 k = some r) (g : kX T L xs (d + 1) mi (pc + 1) lv (.ref r :: rest) σ Q) : kX T L xs (d + 1) mi pc lv (.int j :: .ref a :: rest) σ Q := by
  subst hj
  refine kX_aald hi ha h2 ht (jinN hk hn) ?_
  rw [nI_clamp (by omega), hr]
  exact g
theorem kX_ialdV {j v : Int32} {a n : Nat} {g0 : Nat → Int32} {rest : List Value} (hi : jm_ins mi pc = some (.iaload, 1)) (ha : T[a]? = some (.inl (0, n, .inl g0))) (hn : n ≤ 100000) (k : Nat) (hj : j = nI k) (hk : k < n) (hv : σ a k = v) (g : kX T L xs (d + 1) mi (pc + 1) lv (.int v :: rest) σ Q) : kX T L xs (d + 1) mi pc lv (.int j :: .ref a :: rest) σ Q :=
  kX_ialdN hi ha hn k hj hk (by rw [hv]; exact g)
theorem kX_baldV {j v : Int32} {a n : Nat} {g0 : Nat → Int32} {rest : List Value} (hi : jm_ins mi pc = some (.baload, 1)) (ha : T[a]? = some (.inl (1, n, .inl g0))) (hn : n ≤ 100000) (k : Nat) (hj : j = nI k) (hk : k < n) (hv : σ a k = v) (g : kX T L xs (d + 1) mi (pc + 1) lv (.int v :: rest) σ Q) : kX T L xs (d + 1) mi pc lv (.int j :: .ref a :: rest) σ Q :=
  kX_baldN hi ha hn k hj hk (by rw [hv]; exact g)
/-- the int on top, by another name -/
theorem kX_top {x y : Int32} {rest : List Value} (e : x = y) (g : kX T L xs d mi pc lv (.int y :: rest) σ Q) : kX T L xs d mi pc lv (.int x :: rest) σ Q := by
  rw [e]
  exact g
/-- fields of an object whose cell is a number that isn't printed -/
theorem kX_getN {a ci f idx : Nat} {ts : List Value} {v : Value} {rest : List Value} (hi : jm_ins mi pc = some (.getfield idx, 3)) (hf : jm_fld (jm_own mi) idx = some (ci, f)) (ha : T[a]? = some (.inr (ci, ts))) (hv : ts[f]? = some v) (g : kX T L xs (d + 1) mi (pc + 3) lv (kval (σ a) f v :: rest) σ Q) : kX T L xs (d + 1) mi pc lv (.ref a :: rest) σ Q :=
  kX_one (by unfold kone; rw [hi]; simp [jlen, kplain, jend, jcall, jA, kH, hf, ha, hv]) g
theorem kX_putN {a ci f idx : Nat} {ts : List Value} {x y : Int32} {rest : List Value} (hi : jm_ins mi pc = some (.putfield idx, 3)) (hf : jm_fld (jm_own mi) idx = some (ci, f)) (ha : T[a]? = some (.inr (ci, ts))) (hv : ts[f]? = some (.int y)) (hx : jfit (jm_ty ci f) (.int x) = true) (hfin : jm_fin ci f = false) (g : kX T L xs (d + 1) mi (pc + 3) lv rest (va_up σ a (upd (σ a) f x)) Q) : kX T L xs (d + 1) mi pc lv (.int x :: .ref a :: rest) σ Q :=
  kX_one (by unfold kone; rw [hi]; simp [jlen, kplain, jend, jcall, jA, kH, hf, ha, hv, hx, hfin]) g
/-- a loop: what holds at its head, and a number that goes down -/
theorem kX_while {α : Type} (lv : α → jL) (τ : α → kS) (Inv : α → Prop) (μ : α → Nat) (step : ∀ a, Inv a → (∀ b, Inv b → μ b < μ a → kX T L xs d mi pc (lv b) [] (τ b) Q) → kX T L xs d mi pc (lv a) [] (τ a) Q) (a : α) (h : Inv a) : kX T L xs d mi pc (lv a) [] (τ a) Q := by
  have key : ∀ (n : Nat) (a : α), μ a < n → Inv a → kX T L xs d mi pc (lv a) [] (τ a) Q := by
    intro n
    induction n with
    | zero => intro a h; omega
    | succ n ih => exact fun a h hI => step a hI (fun b hb hl => ih b (by omega) hb)
  exact key (μ a + 1) a (by omega) h
end KN
/-! the order of the locals does not matter -/
def nk : jL → Bool
  | [] => true
  | q :: r => !(r.any (fun p => p.1 == q.1)) && nk r
theorem nk_none {i : Nat} : ∀ {r : jL}, r.any (fun p => p.1 == i) = false → jl r i = none := by
  intro r h
  unfold jl
  rw [List.find?_eq_none.mpr (fun p hp => by
    have := List.any_eq_false.mp h p hp
    exact this)]
  rfl
theorem any_filter {r : jL} {i : Nat} (p : Nat × Value → Bool) (h : r.any (fun p => p.1 == i) = false) : (r.filter p).any (fun p => p.1 == i) = false := by
  rw [List.any_eq_false] at h ⊢
  exact fun x hx => h x (List.mem_filter.mp hx).1
theorem nk_filter (p : Nat × Value → Bool) : ∀ {r : jL}, nk r = true → nk (r.filter p) = true
  | [], _ => rfl
  | q :: r, h => by
    unfold nk at h
    rw [Bool.and_eq_true] at h
    rw [List.filter_cons]
    split
    · unfold nk
      rw [any_filter p (by simpa using h.1), nk_filter p h.2]
      rfl
    · exact nk_filter p h.2
theorem jl_cons (q : Nat × Value) (r : jL) (i : Nat) : jl (q :: r) i = if q.1 = i then some q.2 else jl r i := by
  unfold jl
  rw [List.find?_cons]
  by_cases h : q.1 = i
  · rw [if_pos h]
    simp [h]
  · rw [if_neg h]
    have : (q.1 == i) = false := by simpa using h
    rw [this]
theorem jl_filter (p : Nat × Value → Bool) : ∀ {r : jL}, nk r = true → ∀ i, jl (r.filter p) i = (jl r i).bind (fun v => if p (i, v) = true then some v else none)
  | [], _, _ => rfl
  | q :: r, h, i => by
    unfold nk at h
    rw [Bool.and_eq_true] at h
    have ih := jl_filter p h.2 i
    rw [List.filter_cons, jl_cons]
    by_cases e : q.1 = i
    · rw [if_pos e]
      have hn : r.any (fun p => p.1 == i) = false := by rw [← e]; simpa using h.1
      split
      · next hp =>
        rw [jl_cons, if_pos e]
        show some q.2 = if p (i, q.2) = true then some q.2 else none
        rw [← e]
        exact (if_pos hp).symm
      · next hp =>
        rw [nk_none (any_filter p hn)]
        show none = if p (i, q.2) = true then some q.2 else none
        rw [← e]
        exact (if_neg hp).symm
    · rw [if_neg e]
      split
      · rw [jl_cons, if_neg e]
        exact ih
      · exact ih
/-- a has what b has -/
def lvS (a b : jL) : Prop := nk a = true ∧ nk b = true ∧ ∀ i v, jl b i = some v → jl a i = some v
theorem lvS_js1 {a b : jL} (h : lvS a b) (i : Nat) (v : Value) : lvS (js1 a i v) (js1 b i v) := by
  obtain ⟨h1, h2, h3⟩ := h
  have hh : ∀ r : jL, ((r.filter (fun q => !(q.1 == i) && !(q.1 + 1 == i && q.2.category == 2))).any (fun p => p.1 == i)) = false := fun r => by
    rw [List.any_eq_false]
    intro x hx
    have := (List.mem_filter.mp hx).2
    simp at this
    simpa using this.1
  refine ⟨?_, ?_, fun k w => ?_⟩
  · unfold js1 nk
    rw [hh, nk_filter _ h1]
    rfl
  · unfold js1 nk
    rw [hh, nk_filter _ h2]
    rfl
  · unfold js1
    rw [jl_cons, jl_cons, jl_filter _ h1, jl_filter _ h2]
    split
    · exact id
    · intro q
      obtain ⟨u, q1, q2⟩ := Option.bind_eq_some_iff.mp q
      rw [h3 k u q1]
      exact q2
theorem lvS_js2 {a b : jL} (h : lvS a b) (i : Nat) (v : Value) : lvS (js2 a i v) (js2 b i v) := by
  obtain ⟨h1, h2, h3⟩ := h
  have hh : ∀ r : jL, ((r.filter (fun q => !(q.1 == i) && (!(q.1 == i + 1) && !(q.1 + 1 == i && q.2.category == 2)))).any (fun p => p.1 == i)) = false := fun r => by
    rw [List.any_eq_false]
    intro x hx
    have := (List.mem_filter.mp hx).2
    simp at this
    simpa using this.1
  refine ⟨?_, ?_, fun k w => ?_⟩
  · unfold js2 nk
    rw [hh, nk_filter _ h1]
    rfl
  · unfold js2 nk
    rw [hh, nk_filter _ h2]
    rfl
  · unfold js2
    rw [jl_cons, jl_cons, jl_filter _ h1, jl_filter _ h2]
    split
    · exact id
    · intro q
      obtain ⟨u, q1, q2⟩ := Option.bind_eq_some_iff.mp q
      rw [h3 k u q1]
      exact q2
theorem jA_lv {k mL pc len : Nat} {a b : jL} {st : List Value} {i : Instr} (h : lvS a b) {pc' : Nat} {b' : jL} {st' : List Value} (q : jA k mL pc len b st i = some (pc', b', st')) : ∃ a', jA k mL pc len a st i = some (pc', a', st') ∧ lvS a' b' := by
  have hld : ∀ i b0 v, jld b i b0 = some v → jld a i b0 = some v := fun i b0 v q => by
    unfold jld at q ⊢
    cases hb : jl b i with
    | none => rw [hb] at q; cases q
    | some w => rw [hb] at q; rw [h.2.2 i w hb]; exact q
  have hldl : ∀ i v, jldl b i = some v → jldl a i = some v := fun i v q => by
    unfold jldl at q ⊢
    cases hb : jl b i with
    | none => rw [hb] at q; cases q
    | some w => rw [hb] at q; rw [h.2.2 i w hb]; exact q
  have hpush : ∀ (l : Nat) (v w : Option Value), (∀ z, v = some z → w = some z) → jpush pc l b st v = some (pc', b', st') → ∃ a', jpush pc l a st w = some (pc', a', st') ∧ lvS a' b' := fun l v w hvw q => by
    cases v with
    | none => cases q
    | some v => rw [hvw v rfl]; cases q; exact ⟨a, rfl, h⟩
  have hst1 : ∀ (l j : Nat) (b0 : Bool), jst1 mL pc l b j b0 st = some (pc', b', st') → ∃ a', jst1 mL pc l a j b0 st = some (pc', a', st') ∧ lvS a' b' := fun l j b0 q => by
    unfold jst1 at q ⊢
    split at q
    · split at q
      · next hc => cases q; exact ⟨_, if_pos hc, lvS_js1 h _ _⟩
      · cases q
    · split at q
      · next hc => cases q; exact ⟨_, if_pos hc, lvS_js1 h _ _⟩
      · cases q
    · split at q
      · next hc => cases q; exact ⟨_, if_pos hc, lvS_js1 h _ _⟩
      · cases q
    · cases q
  have hst2 : ∀ (l j : Nat), jst2 mL pc l b j st = some (pc', b', st') → ∃ a', jst2 mL pc l a j st = some (pc', a', st') ∧ lvS a' b' := fun l j q => by
    unfold jst2 at q ⊢
    split at q
    · split at q
      · next hc => cases q; exact ⟨_, if_pos hc, lvS_js2 h _ _⟩
      · cases q
    · cases q
  have hgo : ∀ (s : List Value) (o : Int), jgo pc b s o = some (pc', b', st') → ∃ a', jgo pc a s o = some (pc', a', st') ∧ lvS a' b' := fun s o q => by
    unfold jgo at q ⊢
    cases hj : jt pc o with
    | none => rw [hj] at q; cases q
    | some t => rw [hj] at q; cases q; exact ⟨a, rfl, h⟩
  have hbr : ∀ (s : List Value) (o : Int) (c : Bool), jbr pc b s o c = some (pc', b', st') → ∃ a', jbr pc a s o c = some (pc', a', st') ∧ lvS a' b' := fun s o c q => by
    unfold jbr at q ⊢
    cases hj : jt pc o with
    | none => rw [hj] at q; cases q
    | some t => rw [hj] at q; cases q; exact ⟨a, rfl, h⟩
  have hbin : ∀ (f : Int32 → Int32 → Int32), jbin pc b f st = some (pc', b', st') → ∃ a', jbin pc a f st = some (pc', a', st') ∧ lvS a' b' := fun f q => by
    unfold jbin at q ⊢
    split at q
    · cases q; exact ⟨a, rfl, h⟩
    · cases q
  have hbil : ∀ (f : Int64 → Int64 → Int64), jbil pc b f st = some (pc', b', st') → ∃ a', jbil pc a f st = some (pc', a', st') ∧ lvS a' b' := fun f q => by
    unfold jbil at q ⊢
    split at q
    · cases q; exact ⟨a, rfl, h⟩
    · cases q
  cases i with
  | iinc j n =>
    simp only [jA] at q ⊢
    cases hb : jld b j true with
    | none => rw [hb] at q; cases q
    | some w =>
      rw [hb] at q
      rw [hld _ _ _ hb]
      cases w with
      | int z =>
        dsimp only at q ⊢
        split at q
        · next hc => cases q; exact ⟨_, if_pos hc, lvS_js1 h _ _⟩
        · cases q
      | _ => cases q
  | idiv =>
    simp only [jA] at q ⊢
    split at q
    · split at q
      · cases q
      · next hc => cases q; exact ⟨a, if_neg hc, h⟩
    · cases q
  | irem =>
    simp only [jA] at q ⊢
    split at q
    · split at q
      · cases q
      · next hc => cases q; exact ⟨a, if_neg hc, h⟩
    · cases q
  | ineg => simp only [jA] at q ⊢; split at q; (· cases q; exact ⟨a, rfl, h⟩); (· cases q)
  | i2l => simp only [jA] at q ⊢; split at q; (· cases q; exact ⟨a, rfl, h⟩); (· cases q)
  | l2i => simp only [jA] at q ⊢; split at q; (· cases q; exact ⟨a, rfl, h⟩); (· cases q)
  | lcmp => simp only [jA] at q ⊢; split at q; (· cases q; exact ⟨a, rfl, h⟩); (· cases q)
  | dup =>
    simp only [jA] at q ⊢
    split at q
    · split at q
      · next hc => cases q; exact ⟨a, if_pos hc, h⟩
      · cases q
    · cases q
  | pop =>
    simp only [jA] at q ⊢
    split at q
    · split at q
      · next hc => cases q; exact ⟨a, if_pos hc, h⟩
      · cases q
    · cases q
  | dup2 =>
    simp only [jA] at q ⊢
    split at q
    · split at q
      · next hc => cases q; exact ⟨a, if_pos hc, h⟩
      · cases q
    · cases q
  | ifCond c o => simp only [jA] at q ⊢; split at q; (· exact hbr _ _ _ q); (· cases q)
  | if_icmp c o => simp only [jA] at q ⊢; split at q; (· exact hbr _ _ _ q); (· cases q)
  | ifnull o =>
    simp only [jA] at q ⊢
    split at q
    · exact hgo _ _ q
    · cases q; exact ⟨a, rfl, h⟩
    · cases q
  | ifnonnull o =>
    simp only [jA] at q ⊢
    split at q
    · exact hgo _ _ q
    · cases q; exact ⟨a, rfl, h⟩
    · cases q
  | tableswitch dflt lo hi offs =>
    simp only [jA] at q ⊢
    split at q
    · split at q
      · next hc =>
        rw [if_pos hc]
        exact hgo _ _ q
      · next hc =>
        rw [if_neg hc]
        split at q
        · exact hgo _ _ q
        · cases q
    · cases q
  | iload j => exact hpush _ _ _ (hld j true) q
  | iload_n j => exact hpush _ _ _ (hld j true) q
  | aload j => exact hpush _ _ _ (hld j false) q
  | aload_n j => exact hpush _ _ _ (hld j false) q
  | lload j => exact hpush _ _ _ (hldl j) q
  | lload_n j => exact hpush _ _ _ (hldl j) q
  | iconst j => exact hpush _ _ _ (fun _ e => e) q
  | bipush j => exact hpush _ _ _ (fun _ e => e) q
  | sipush j => exact hpush _ _ _ (fun _ e => e) q
  | lconst j => exact hpush _ _ _ (fun _ e => e) q
  | ldc2_w j => exact hpush _ _ _ (fun _ e => e) q
  | aconst_null => exact hpush _ _ _ (fun _ e => e) q
  | istore j => exact hst1 _ _ _ q
  | istore_n j => exact hst1 _ _ _ q
  | astore j => exact hst1 _ _ _ q
  | astore_n j => exact hst1 _ _ _ q
  | lstore j => exact hst2 _ _ q
  | lstore_n j => exact hst2 _ _ q
  | goto o => exact hgo _ _ q
  | _ => first | exact hbin _ q | exact hbil _ q | cases q
/-- an instruction of the heap is none of the others -/
theorem jA_heap {L : Nat} {xs : Nat → Int32} {il ini : Bool} {k k' mL pc pc2 len : Nat} {st st2 : List Value} {h : List jC} {i : Instr} (a b : jL) {r : Nat × jL × List Value × List jC} (q : jH L xs il ini k' pc2 b st2 h i = some r) : jA k mL pc len a st i = none := by
  cases i <;> first | rfl | cases q
theorem jH_lv {L : Nat} {xs : Nat → Int32} {il ini : Bool} {k pc : Nat} {st : List Value} {h : List jC} {i : Instr} (a b : jL) : jH L xs il ini k pc b st h i = (jH L xs il ini k pc a st h i).map (fun r => (r.1, b, r.2.2)) := by
  cases i with
  | getfield idx =>
    simp only [jH]
    split
    · split
      · split
        · rw [Option.map_map]
          rfl
        · rfl
      · rfl
    · rfl
  | putfield idx =>
    simp only [jH, jset]
    split
    · split
      · split <;> rfl
      · rfl
    · rfl
  | iaload =>
    simp only [jH]
    split
    · split
      · split <;> rfl
      · rfl
    · split <;> rfl
    · rfl
  | baload =>
    simp only [jH]
    split
    · split
      · split <;> rfl
      · rfl
    · rfl
  | aaload =>
    simp only [jH]
    split
    · split
      · split <;> rfl
      · rfl
    · rfl
  | arraylength =>
    simp only [jH]
    split
    · split
      · split <;> rfl
      · rfl
    · split <;> rfl
    · rfl
  | iastore =>
    simp only [jH, jset]
    split
    · split
      · split <;> rfl
      · rfl
    · rfl
  | bastore =>
    simp only [jH, jset]
    split
    · split
      · split <;> rfl
      · rfl
    · rfl
  | aastore =>
    simp only [jH, jset]
    split
    · split
      · split <;> rfl
      · rfl
    · rfl
  | new idx =>
    simp only [jH]
    split <;> rfl
  | newarray ty =>
    simp only [jH]
    split
    · split
      · split <;> rfl
      · rfl
    · rfl
  | anewarray idx =>
    simp only [jH]
    split
    · split <;> rfl
    · rfl
  | multianewarray idx n =>
    by_cases hn : n = 2
    · subst hn
      simp only [jH]
      split
      · split <;> rfl
      · rfl
    · have e : ∀ c : jL, jH L xs il ini k pc c st h (.multianewarray idx n) = none := fun c => by
        unfold jH
        split <;> first
          | rfl
          | (next hh => cases hh)
          | (next hh => cases hh; exact absurd rfl hn)
          | simp_all
      rw [e a, e b]
      rfl
  | invokestatic idx =>
    simp only [jH, jset]
    split
    · split
      · split <;> rfl
      · rfl
    · split
      · split
        · split <;> rfl
        · rfl
      · rfl
  | invokespecial idx =>
    simp only [jH]
    split
    · split <;> rfl
    · rfl
  | _ => rfl
theorem jrun_lv (L : Nat) (xs : Nat → Int32) : ∀ (n d mi pc : Nat) (a b : jL) (st : List Value) (h : List jC) (r : Option Value × List jC), lvS a b → jrun L xs n d mi pc b st h = some r → jrun L xs n d mi pc a st h = some r := by
  intro n
  induction n with
  | zero => intro _ _ _ _ _ _ _ _ _ q; cases q
  | succ n ih =>
    intro d mi pc a b st h r hE q
    rw [jrun] at q ⊢
    split at q
    · cases q
    · next i len hi =>
      split at q
      · next hl =>
        rw [if_pos hl]
        split at q
        · exact q
        · next he =>
          split at q
          · next y as rest d' hc =>
            split at q
            · next hy =>
              rw [if_pos hy]
              split at q
              · next r1 h1 hm => exact ih _ _ _ _ _ _ _ _ hE q
              · cases q
            · cases q
          · cases q
          · next d9 x9 d8 hc =>
            split at q
            · next pc' b' st' h' hs =>
              unfold jstep at hs
              cases hA : jA (jm_own mi) (jm_maxL mi) pc len b st i with
              | some z =>
                obtain ⟨p1, b1, s1⟩ := z
                rw [hA] at hs
                cases hs
                obtain ⟨a1, q1, q2⟩ := jA_lv hE hA
                have e : jstep L xs d9 mi pc a st h i len = some (pc', a1, st', h) := by unfold jstep; rw [q1]
                rw [e]
                exact ih _ _ _ _ _ _ _ _ q2 q
              | none =>
                rw [hA] at hs
                dsimp only at hs
                split at hs
                · cases hs
                · next hd =>
                  have e1 := jH_lv (L := L) (xs := xs) (il := decide (mi = 0)) (ini := jm_ini mi) (k := jm_own mi) (pc := pc) (st := st) (h := h) (i := i) b a
                  rw [hs] at e1
                  have e2 := jH_lv (L := L) (xs := xs) (il := decide (mi = 0)) (ini := jm_ini mi) (k := jm_own mi) (pc := pc) (st := st) (h := h) (i := i) b b
                  rw [hs] at e2
                  cases e2
                  have e : jstep L xs d9 mi pc a st h i len = some (pc', a, st', h') := by
                    unfold jstep
                    rw [jA_heap a b hs]
                    dsimp only
                    rw [if_neg hd, e1]
                    rfl
                  rw [e]
                  exact ih _ _ _ _ _ _ _ _ hE q
            · cases q
      · cases q
/-- fewer locals, in any order -/
theorem kX_lv {T : List jC} {L : Nat} {xs : Nat → Int32} {d mi pc : Nat} {a : jL} {st : List Value} {σ : kS} {Q : Option Value → kS → Prop} (b : jL) (ka : nk a = true) (kb : nk b = true) (e : b.map (fun q => jl a q.1) = b.map (fun q => some q.2)) (g : kX T L xs d mi pc b st σ Q) : kX T L xs d mi pc a st σ Q := by
  have hE : lvS a b := ⟨ka, kb, fun i v hv => by
    unfold jl at hv
    obtain ⟨p, hp, rfl⟩ := Option.map_eq_some_iff.mp hv
    have hm := List.mem_of_find?_eq_some hp
    have hi := List.find?_some hp
    simp only [beq_iff_eq] at hi
    have := List.map_inj_left.mp e p hm
    rw [← hi]
    exact this⟩
  intro h hk
  obtain ⟨r, σ', h', ⟨n, hn⟩, g2⟩ := g h hk
  exact ⟨r, σ', h', ⟨n, jrun_lv L xs n d mi pc a b st h _ hE hn⟩, g2⟩
theorem kX_st {T : List jC} {L : Nat} {xs : Nat → Int32} {d mi pc : Nat} {lv : jL} {st : List Value} {σ : kS} {Q : Option Value → kS → Prop} (σ' : kS) (e : σ = σ') (g : kX T L xs d mi pc lv st σ' Q) : kX T L xs d mi pc lv st σ Q := by
  rw [e]
  exact g
theorem kX_to {T : List jC} {L : Nat} {xs : Nat → Int32} {d mi pc : Nat} {a : jL} {st : List Value} {σ : kS} {Q : Option Value → kS → Prop} (b : jL) (σ' : kS) (ka : nk a = true) (kb : nk b = true) (e : b.map (fun q => jl a q.1) = b.map (fun q => some q.2)) (es : σ = σ') (g : kX T L xs d mi pc b st σ' Q) : kX T L xs d mi pc a st σ Q := by
  rw [es]
  exact kX_lv b ka kb e g
