/-! tools: branches, updates, comparisons over numbers, loops by a measure, locals in any order -/
section KIF
variable {T : List jC} {L : Nat} {xs : Nat → Int32} {d mi pc : Nat} {lv : jL} {st : List Value} {σ : kS} {Q : Option Value → kS → Prop}
theorem kX_ifT {c : Bool} {p1 p2 : Nat} (h : c = true) (g : kX T L xs d mi p1 lv st σ Q) : kX T L xs d mi (if c = true then p1 else p2) lv st σ Q := by
  rw [if_pos h]
  exact g
theorem kX_ifF {c : Bool} {p1 p2 : Nat} (h : c = false) (g : kX T L xs d mi p2 lv st σ Q) : kX T L xs d mi (if c = true then p1 else p2) lv st σ Q := by
  rw [if_neg (by rw [h]; exact Bool.false_ne_true)]
  exact g
end KIF
theorem kup_up (σ : kS) (a : Nat) (f g : Nat → Int32) : va_up (va_up σ a f) a g = va_up σ a g := by
  funext k
  unfold va_up
  split
  · rfl
  · rfl
theorem kup_self (σ : kS) (a : Nat) : va_up σ a (σ a) = σ := by
  funext k
  unfold va_up
  split
  · next h => rw [h]
  · rfl
theorem kup_at (σ : kS) (a : Nat) (f : Nat → Int32) : va_up σ a f a = f := if_pos rfl
theorem kup_ne {σ : kS} {a b : Nat} {f : Nat → Int32} (h : b ≠ a) : va_up σ a f b = σ b := if_neg h
theorem kup_comm (σ : kS) {a b : Nat} (h : a ≠ b) (f g : Nat → Int32) : va_up (va_up σ a f) b g = va_up (va_up σ b g) a f := by
  funext k
  unfold va_up
  split
  · next e =>
    subst e
    rw [if_neg (Ne.symm h)]
  · rfl
theorem jinN {k n : Nat} (h : k < n) (hn : n ≤ 100000) : jin (nI k) n = true := decide_eq_true (nI_in h (by omega))
theorem jeq_rf (x : Int32) : jcmp .eq x x = true := decide_eq_true rfl
theorem qge {x y : Int32} (q : jcmp .ge x y = true) (a b : Nat) (hx : x = nI a := by first | rfl | decide) (hy : y = nI b := by first | rfl | decide) (ha : a < 2147483648 := by omega) (hb : b < 2147483648 := by omega) : b ≤ a := by
  subst hx hy
  exact (nI_leI hb ha).mp (of_decide_eq_true q)
theorem qgeF {x y : Int32} (q : jcmp .ge x y = false) (a b : Nat) (hx : x = nI a := by first | rfl | decide) (hy : y = nI b := by first | rfl | decide) (ha : a < 2147483648 := by omega) (hb : b < 2147483648 := by omega) : a < b := by
  subst hx hy
  exact Nat.not_le.mp (fun h => of_decide_eq_false q ((nI_leI hb ha).mpr h))
theorem qlt {x y : Int32} (q : jcmp .lt x y = true) (a b : Nat) (hx : x = nI a := by first | rfl | decide) (hy : y = nI b := by first | rfl | decide) (ha : a < 2147483648 := by omega) (hb : b < 2147483648 := by omega) : a < b := by
  subst hx hy
  exact (nI_ltI ha hb).mp (of_decide_eq_true q)
theorem qltF {x y : Int32} (q : jcmp .lt x y = false) (a b : Nat) (hx : x = nI a := by first | rfl | decide) (hy : y = nI b := by first | rfl | decide) (ha : a < 2147483648 := by omega) (hb : b < 2147483648 := by omega) : b ≤ a := by
  subst hx hy
  exact Nat.not_lt.mp (fun h => of_decide_eq_false q ((nI_ltI ha hb).mpr h))
theorem qgt {x y : Int32} (q : jcmp .gt x y = true) (a b : Nat) (hx : x = nI a := by first | rfl | decide) (hy : y = nI b := by first | rfl | decide) (ha : a < 2147483648 := by omega) (hb : b < 2147483648 := by omega) : b < a := by
  subst hx hy
  exact (nI_ltI hb ha).mp (of_decide_eq_true q)
theorem qgtF {x y : Int32} (q : jcmp .gt x y = false) (a b : Nat) (hx : x = nI a := by first | rfl | decide) (hy : y = nI b := by first | rfl | decide) (ha : a < 2147483648 := by omega) (hb : b < 2147483648 := by omega) : a ≤ b := by
  subst hx hy
  exact Nat.not_lt.mp (fun h => of_decide_eq_false q ((nI_ltI hb ha).mpr h))
theorem qle {x y : Int32} (q : jcmp .le x y = true) (a b : Nat) (hx : x = nI a := by first | rfl | decide) (hy : y = nI b := by first | rfl | decide) (ha : a < 2147483648 := by omega) (hb : b < 2147483648 := by omega) : a ≤ b := by
  subst hx hy
  exact (nI_leI ha hb).mp (of_decide_eq_true q)
theorem qleF {x y : Int32} (q : jcmp .le x y = false) (a b : Nat) (hx : x = nI a := by first | rfl | decide) (hy : y = nI b := by first | rfl | decide) (ha : a < 2147483648 := by omega) (hb : b < 2147483648 := by omega) : b < a := by
  subst hx hy
  exact Nat.not_le.mp (fun h => of_decide_eq_false q ((nI_leI ha hb).mpr h))
theorem qeq {x y : Int32} (q : jcmp .eq x y = true) : x = y := of_decide_eq_true q
theorem qeqF {x y : Int32} (q : jcmp .eq x y = false) : x ≠ y := of_decide_eq_false q
theorem qne {x y : Int32} (q : jcmp .ne x y = true) : x ≠ y := of_decide_eq_true q
theorem qneF {x y : Int32} (q : jcmp .ne x y = false) : x = y := Decidable.of_not_not (of_decide_eq_false q)
theorem nI_inj {a b : Nat} (h : nI a = nI b) (ha : a < 2147483648 := by omega) (hb : b < 2147483648 := by omega) : a = b := (nI_eq ha hb).mp h
theorem nI_ne {a b : Nat} (h : a ≠ b) (ha : a < 2147483648 := by omega) (hb : b < 2147483648 := by omega) : nI a ≠ nI b := fun e => h ((nI_eq ha hb).mp e)
theorem nI_m1 {a : Nat} (ha : a < 2147483648 := by omega) : nI a ≠ -1 := by
  intro e
  have h := nI_pos (n := a) ha
  rw [e] at h
  exact h (by decide)
theorem jend_b {mi : Nat} {x : Int32} (hr : jm_ret mi = some .boolean) (hx : x = 0 ∨ x = 1) : jend mi [.int x] .ireturn = some (some (.int x)) := by
  unfold jend
  rw [hr]
  have h : jfit .boolean (.int x) = true := decide_eq_true hx
  dsimp only
  rw [if_pos h]
section KN
variable {T : List jC} {L : Nat} {xs : Nat → Int32} {d mi pc : Nat} {lv : jL} {st : List Value} {σ : kS} {Q : Option Value → kS → Prop}
/-- array accesses at a number -/
theorem kX_ialdN {j : Int32} {a n : Nat} {g0 : Nat → Int32} {rest : List Value} (hi : jm_ins mi pc = some (.iaload, 1)) (ha : T[a]? = some (.inl (0, n, .inl g0))) (hn : n ≤ 100000) (k : Nat) (hj : j = nI k) (hk : k < n) (g : kX T L xs (d + 1) mi (pc + 1) lv (.int (σ a k) :: rest) σ Q) : kX T L xs (d + 1) mi pc lv (.int j :: .ref a :: rest) σ Q := by
  subst hj
  exact kX_iald hi ha (jinN hk hn) (by rw [nI_clamp (by omega)]; exact g)
theorem kX_baldN {j : Int32} {a n : Nat} {g0 : Nat → Int32} {rest : List Value} (hi : jm_ins mi pc = some (.baload, 1)) (ha : T[a]? = some (.inl (1, n, .inl g0))) (hn : n ≤ 100000) (k : Nat) (hj : j = nI k) (hk : k < n) (g : kX T L xs (d + 1) mi (pc + 1) lv (.int (σ a k) :: rest) σ Q) : kX T L xs (d + 1) mi pc lv (.int j :: .ref a :: rest) σ Q := by
  subst hj
  exact kX_bald hi ha (jinN hk hn) (by rw [nI_clamp (by omega)]; exact g)
theorem kX_iastN {x j : Int32} {a n : Nat} {g0 : Nat → Int32} {rest : List Value} (hi : jm_ins mi pc = some (.iastore, 1)) (ha : T[a]? = some (.inl (0, n, .inl g0))) (hn : n ≤ 100000) (k : Nat) (hj : j = nI k) (hk : k < n) (g : kX T L xs (d + 1) mi (pc + 1) lv rest (va_up σ a (upd (σ a) k x)) Q) : kX T L xs (d + 1) mi pc lv (.int x :: .int j :: .ref a :: rest) σ Q := by
  subst hj
  exact kX_iast hi ha (jinN hk hn) (by rw [nI_clamp (by omega)]; exact g)
theorem kX_bastN {x j : Int32} {a n : Nat} {g0 : Nat → Int32} {rest : List Value} (hi : jm_ins mi pc = some (.bastore, 1)) (ha : T[a]? = some (.inl (1, n, .inl g0))) (hn : n ≤ 100000) (k : Nat) (hj : j = nI k) (hk : k < n) (hx : x = 0 ∨ x = 1) (g : kX T L xs (d + 1) mi (pc + 1) lv rest (va_up σ a (upd (σ a) k x)) Q) : kX T L xs (d + 1) mi pc lv (.int x :: .int j :: .ref a :: rest) σ Q := by
  subst hj
  exact kX_bast hi ha (jinN hk hn) hx (by rw [nI_clamp (by omega)]; exact g)
theorem kX_aaldN {j : Int32} {a n t r : Nat} {g0 : Nat → Option Nat} {rest : List Value} (hi : jm_ins mi pc = some (.aaload, 1)) (ha : T[a]? = some (.inl (t, n, .inr (.inr (.inr (.inr g0)))))) (hn : n ≤ 100000) (h2 : 2 ≤ t) (ht : t < jm_nat) (k : Nat) (hj : j = nI k) (hk : k < n) (hr : g0 k = some r) (g : kX T L xs (d + 1) mi (pc + 1) lv (.ref r :: rest) σ Q) : kX T L xs (d + 1) mi pc lv (.int j :: .ref a :: rest) σ Q := by
  subst hj
  refine kX_aald hi ha h2 ht (jinN hk hn) ?_
  rw [nI_clamp (by omega), hr]
  exact g
/-- fields of an object whose cell is a number that isn't printed -/
theorem kX_getN {a ci f idx : Nat} {ts : List Value} {v : Value} {rest : List Value} (hi : jm_ins mi pc = some (.getfield idx, 3)) (hf : jm_fld (jm_own mi) idx = some (ci, f)) (ha : T[a]? = some (.inr (ci, ts))) (hv : ts[f]? = some v) (g : kX T L xs (d + 1) mi (pc + 3) lv (kval (σ a) f v :: rest) σ Q) : kX T L xs (d + 1) mi pc lv (.ref a :: rest) σ Q :=
  kX_one (by unfold kone; rw [hi]; simp [jlen, kplain, jend, jcall, jA, kH, hf, ha, hv]) g
theorem kX_putN {a ci f idx : Nat} {ts : List Value} {x y : Int32} {rest : List Value} (hi : jm_ins mi pc = some (.putfield idx, 3)) (hf : jm_fld (jm_own mi) idx = some (ci, f)) (ha : T[a]? = some (.inr (ci, ts))) (hv : ts[f]? = some (.int y)) (hx : jfit (jm_ty ci f) (.int x) = true) (hfin : jm_fin ci f = false) (g : kX T L xs (d + 1) mi (pc + 3) lv rest (va_up σ a (upd (σ a) f x)) Q) : kX T L xs (d + 1) mi pc lv (.int x :: .ref a :: rest) σ Q :=
  kX_one (by unfold kone; rw [hi]; simp [jlen, kplain, jend, jcall, jA, kH, hf, ha, hv, hx, hfin]) g
/-- a loop: what holds at its head, and a number that goes down -/
theorem kX_while {α : Type} (lv : α → jL) (τ : α → kS) (Inv : α → Prop) (μ : α → Nat) (step : ∀ a, Inv a → (∀ b, Inv b → μ b < μ a → kX T L xs d mi pc (lv b) [] (τ b) Q) → kX T L xs d mi pc (lv a) [] (τ a) Q) (a : α) (h : Inv a) : kX T L xs d mi pc (lv a) [] (τ a) Q := by
  have key : ∀ (n : Nat) (a : α), μ a < n → Inv a → kX T L xs d mi pc (lv a) [] (τ a) Q := by
    intro n
    induction n with
    | zero => intro a h; omega
    | succ n ih => exact fun a h hI => step a hI (fun b hb hl => ih b (by omega) hb)
  exact key (μ a + 1) a (by omega) h
end KN
/-! the order of the locals does not matter -/
def nk : jL → Bool
  | [] => true
  | q :: r => !(r.any (fun p => p.1 == q.1)) && nk r
theorem nk_none {i : Nat} : ∀ {r : jL}, r.any (fun p => p.1 == i) = false → jl r i = none := by
  intro r h
  unfold jl
  rw [List.find?_eq_none.mpr (fun p hp => by
    have := List.any_eq_false.mp h p hp
    exact this)]
  rfl
theorem any_filter {r : jL} {i : Nat} (p : Nat × Value → Bool) (h : r.any (fun p => p.1 == i) = false) : (r.filter p).any (fun p => p.1 == i) = false := by
  rw [List.any_eq_false] at h ⊢
  exact fun x hx => h x (List.mem_filter.mp hx).1
theorem nk_filter (p : Nat × Value → Bool) : ∀ {r : jL}, nk r = true → nk (r.filter p) = true
  | [], _ => rfl
  | q :: r, h => by
    unfold nk at h
    rw [Bool.and_eq_true] at h
    rw [List.filter_cons]
    split
    · unfold nk
      rw [any_filter p (by simpa using h.1), nk_filter p h.2]
      rfl
    · exact nk_filter p h.2
theorem jl_cons (q : Nat × Value) (r : jL) (i : Nat) : jl (q :: r) i = if q.1 = i then some q.2 else jl r i := by
  unfold jl
  rw [List.find?_cons]
  by_cases h : q.1 = i
  · rw [if_pos h]
    simp [h]
  · rw [if_neg h]
    have : (q.1 == i) = false := by simpa using h
    rw [this]
theorem jl_filter (p : Nat × Value → Bool) : ∀ {r : jL}, nk r = true → ∀ i, jl (r.filter p) i = (jl r i).bind (fun v => if p (i, v) = true then some v else none)
  | [], _, _ => rfl
  | q :: r, h, i => by
    unfold nk at h
    rw [Bool.and_eq_true] at h
    have ih := jl_filter p h.2 i
    rw [List.filter_cons, jl_cons]
    by_cases e : q.1 = i
    · rw [if_pos e]
      have hn : r.any (fun p => p.1 == i) = false := by rw [← e]; simpa using h.1
      split
      · next hp =>
        rw [jl_cons, if_pos e]
        show some q.2 = if p (i, q.2) = true then some q.2 else none
        rw [← e]
        exact (if_pos hp).symm
      · next hp =>
        rw [nk_none (any_filter p hn)]
        show none = if p (i, q.2) = true then some q.2 else none
        rw [← e]
        exact (if_neg hp).symm
    · rw [if_neg e]
      split
      · rw [jl_cons, if_neg e]
        exact ih
      · exact ih
def lvE (a b : jL) : Prop := nk a = true ∧ nk b = true ∧ ∀ i, jl a i = jl b i
theorem lvE_js1 {a b : jL} (h : lvE a b) (i : Nat) (v : Value) : lvE (js1 a i v) (js1 b i v) := by
  obtain ⟨h1, h2, h3⟩ := h
  have hh : ∀ r : jL, ((r.filter (fun q => !(q.1 == i) && !(q.1 + 1 == i && q.2.category == 2))).any (fun p => p.1 == i)) = false := fun r => by
    rw [List.any_eq_false]
    intro x hx
    have := (List.mem_filter.mp hx).2
    simp at this
    simpa using this.1
  refine ⟨?_, ?_, fun k => ?_⟩
  · unfold js1 nk
    rw [hh, nk_filter _ h1]
    rfl
  · unfold js1 nk
    rw [hh, nk_filter _ h2]
    rfl
  · unfold js1
    rw [jl_cons, jl_cons, jl_filter _ h1, jl_filter _ h2, h3]
theorem lvE_js2 {a b : jL} (h : lvE a b) (i : Nat) (v : Value) : lvE (js2 a i v) (js2 b i v) := by
  obtain ⟨h1, h2, h3⟩ := h
  have hh : ∀ r : jL, ((r.filter (fun q => !(q.1 == i) && (!(q.1 == i + 1) && !(q.1 + 1 == i && q.2.category == 2)))).any (fun p => p.1 == i)) = false := fun r => by
    rw [List.any_eq_false]
    intro x hx
    have := (List.mem_filter.mp hx).2
    simp at this
    simpa using this.1
  refine ⟨?_, ?_, fun k => ?_⟩
  · unfold js2 nk
    rw [hh, nk_filter _ h1]
    rfl
  · unfold js2 nk
    rw [hh, nk_filter _ h2]
    rfl
  · unfold js2
    rw [jl_cons, jl_cons, jl_filter _ h1, jl_filter _ h2, h3]
theorem jA_lv {k mL pc len : Nat} {a b : jL} {st : List Value} {i : Instr} (h : lvE a b) : (∀ pc' a' st', jA k mL pc len a st i = some (pc', a', st') → ∃ b', jA k mL pc len b st i = some (pc', b', st') ∧ lvE a' b') ∧ (jA k mL pc len a st i = none → jA k mL pc len b st i = none) := by
  have hld : ∀ i b0, jld b i b0 = jld a i b0 := fun i b0 => by unfold jld; rw [h.2.2]
  have hldl : ∀ i, jldl b i = jldl a i := fun i => by unfold jldl; rw [h.2.2]
  have hpush : ∀ (l : Nat) (v : Option Value), (∀ pc' a' st', jpush pc l a st v = some (pc', a', st') → ∃ b', jpush pc l b st v = some (pc', b', st') ∧ lvE a' b') ∧ (jpush pc l a st v = none → jpush pc l b st v = none) := fun l v => by
    cases v with
    | none => exact ⟨fun _ _ _ q => by cases q, fun _ => rfl⟩
    | some v => exact ⟨fun _ _ _ q => by cases q; exact ⟨b, rfl, h⟩, fun q => by cases q⟩
  have hst1 : ∀ (l j : Nat) (b0 : Bool), (∀ pc' a' st', jst1 mL pc l a j b0 st = some (pc', a', st') → ∃ b', jst1 mL pc l b j b0 st = some (pc', b', st') ∧ lvE a' b') ∧ (jst1 mL pc l a j b0 st = none → jst1 mL pc l b j b0 st = none) := fun l j b0 => by
    unfold jst1
    split
    · split
      · exact ⟨fun _ _ _ q => by cases q; exact ⟨_, rfl, lvE_js1 h _ _⟩, fun q => by cases q⟩
      · exact ⟨fun _ _ _ q => by cases q, fun _ => rfl⟩
    · split
      · exact ⟨fun _ _ _ q => by cases q; exact ⟨_, rfl, lvE_js1 h _ _⟩, fun q => by cases q⟩
      · exact ⟨fun _ _ _ q => by cases q, fun _ => rfl⟩
    · split
      · exact ⟨fun _ _ _ q => by cases q; exact ⟨_, rfl, lvE_js1 h _ _⟩, fun q => by cases q⟩
      · exact ⟨fun _ _ _ q => by cases q, fun _ => rfl⟩
    · exact ⟨fun _ _ _ q => by cases q, fun _ => rfl⟩
  have hst2 : ∀ (l j : Nat), (∀ pc' a' st', jst2 mL pc l a j st = some (pc', a', st') → ∃ b', jst2 mL pc l b j st = some (pc', b', st') ∧ lvE a' b') ∧ (jst2 mL pc l a j st = none → jst2 mL pc l b j st = none) := fun l j => by
    unfold jst2
    split
    · split
      · exact ⟨fun _ _ _ q => by cases q; exact ⟨_, rfl, lvE_js2 h _ _⟩, fun q => by cases q⟩
      · exact ⟨fun _ _ _ q => by cases q, fun _ => rfl⟩
    · exact ⟨fun _ _ _ q => by cases q, fun _ => rfl⟩
  have hgo : ∀ (s : List Value) (o : Int), (∀ pc' a' st', jgo pc a s o = some (pc', a', st') → ∃ b', jgo pc b s o = some (pc', b', st') ∧ lvE a' b') ∧ (jgo pc a s o = none → jgo pc b s o = none) := fun s o => by
    unfold jgo
    cases jt pc o with
    | none => exact ⟨fun _ _ _ q => by cases q, fun _ => rfl⟩
    | some t => exact ⟨fun _ _ _ q => by cases q; exact ⟨b, rfl, h⟩, fun q => by cases q⟩
  have hbr : ∀ (s : List Value) (o : Int) (c : Bool), (∀ pc' a' st', jbr pc a s o c = some (pc', a', st') → ∃ b', jbr pc b s o c = some (pc', b', st') ∧ lvE a' b') ∧ (jbr pc a s o c = none → jbr pc b s o c = none) := fun s o c => by
    unfold jbr
    cases jt pc o with
    | none => exact ⟨fun _ _ _ q => by cases q, fun _ => rfl⟩
    | some t => exact ⟨fun _ _ _ q => by cases q; exact ⟨b, rfl, h⟩, fun q => by cases q⟩
  have hbin : ∀ (f : Int32 → Int32 → Int32), (∀ pc' a' st', jbin pc a f st = some (pc', a', st') → ∃ b', jbin pc b f st = some (pc', b', st') ∧ lvE a' b') ∧ (jbin pc a f st = none → jbin pc b f st = none) := fun f => by
    unfold jbin
    split
    · exact ⟨fun _ _ _ q => by cases q; exact ⟨b, rfl, h⟩, fun q => by cases q⟩
    · exact ⟨fun _ _ _ q => by cases q, fun _ => rfl⟩
  have hbil : ∀ (f : Int64 → Int64 → Int64), (∀ pc' a' st', jbil pc a f st = some (pc', a', st') → ∃ b', jbil pc b f st = some (pc', b', st') ∧ lvE a' b') ∧ (jbil pc a f st = none → jbil pc b f st = none) := fun f => by
    unfold jbil
    split
    · exact ⟨fun _ _ _ q => by cases q; exact ⟨b, rfl, h⟩, fun q => by cases q⟩
    · exact ⟨fun _ _ _ q => by cases q, fun _ => rfl⟩
  cases i <;> first
    | exact hpush _ _
    | exact hst1 _ _ _
    | exact hst2 _ _
    | exact hgo _ _
    | exact hbin _
    | exact hbil _
    | (simp only [jA, hld, hldl]; first | exact hpush _ _ | exact hgo _ _)
    | (simp only [jA]; exact ⟨fun _ _ _ q => by cases q, fun _ => rfl⟩)
    | (simp only [jA, hld]; split <;> first
        | exact hbr _ _ _
        | exact hgo _ _
        | exact ⟨fun _ _ _ q => by cases q, fun _ => rfl⟩
        | exact ⟨fun _ _ _ q => by cases q; exact ⟨b, rfl, h⟩, fun q => by cases q⟩
        | (split <;> first
            | exact hgo _ _
            | exact ⟨fun _ _ _ q => by cases q; exact ⟨_, rfl, lvE_js1 h _ _⟩, fun q => by cases q⟩
            | exact ⟨fun _ _ _ q => by cases q; exact ⟨b, rfl, h⟩, fun q => by cases q⟩
            | exact ⟨fun _ _ _ q => by cases q, fun _ => rfl⟩
            | (split <;> first
                | exact hgo _ _
                | exact ⟨fun _ _ _ q => by cases q, fun _ => rfl⟩)))
theorem jH_lv {L : Nat} {xs : Nat → Int32} {il ini : Bool} {k pc : Nat} {st : List Value} {h : List jC} {i : Instr} (a b : jL) : jH L xs il ini k pc b st h i = (jH L xs il ini k pc a st h i).map (fun r => (r.1, b, r.2.2)) := by
  cases i with
  | getfield idx =>
    simp only [jH]
    split
    · split
      · split
        · rw [Option.map_map]
          rfl
        · rfl
      · rfl
    · rfl
  | putfield idx =>
    simp only [jH, jset]
    split
    · split
      · split <;> rfl
      · rfl
    · rfl
  | iaload =>
    simp only [jH]
    split
    · split
      · split <;> rfl
      · rfl
    · split <;> rfl
    · rfl
  | baload =>
    simp only [jH]
    split
    · split
      · split <;> rfl
      · rfl
    · rfl
  | aaload =>
    simp only [jH]
    split
    · split
      · split <;> rfl
      · rfl
    · rfl
  | arraylength =>
    simp only [jH]
    split
    · split
      · split <;> rfl
      · rfl
    · split <;> rfl
    · rfl
  | iastore =>
    simp only [jH, jset]
    split
    · split
      · split <;> rfl
      · rfl
    · rfl
  | bastore =>
    simp only [jH, jset]
    split
    · split
      · split <;> rfl
      · rfl
    · rfl
  | aastore =>
    simp only [jH, jset]
    split
    · split
      · split <;> rfl
      · rfl
    · rfl
  | new idx =>
    simp only [jH]
    split <;> rfl
  | newarray ty =>
    simp only [jH]
    split
    · split
      · split <;> rfl
      · rfl
    · rfl
  | anewarray idx =>
    simp only [jH]
    split
    · split <;> rfl
    · rfl
  | multianewarray idx n =>
    unfold jH
    split <;> first
      | rfl
      | (split <;> first
          | rfl
          | (split <;> first
              | rfl
              | (split <;> rfl)))
  | invokestatic idx =>
    simp only [jH, jset]
    split
    · split
      · split <;> rfl
      · rfl
    · split
      · split
        · split <;> rfl
        · rfl
      · rfl
  | invokespecial idx =>
    simp only [jH]
    split
    · split <;> rfl
    · rfl
  | _ => rfl
theorem jrun_lv (L : Nat) (xs : Nat → Int32) : ∀ (n d mi pc : Nat) (a b : jL) (st : List Value) (h : List jC), lvE a b → jrun L xs n d mi pc a st h = jrun L xs n d mi pc b st h := by
  intro n
  induction n with
  | zero => intros; rfl
  | succ n ih =>
    intro d mi pc a b st h hE
    rw [jrun, jrun]
    split
    · rfl
    · next i len hi =>
      split
      · split
        · rfl
        · split
          · split
            · split
              · exact ih _ _ _ _ _ _ _ hE
              · rfl
            · rfl
          · rfl
          · have hA := jA_lv (k := jm_own mi) (mL := jm_maxL mi) (pc := pc) (len := len) (st := st) (i := i) hE
            unfold jstep
            cases hc : jA (jm_own mi) (jm_maxL mi) pc len a st i with
            | some r =>
              obtain ⟨pc', a', st'⟩ := r
              obtain ⟨b', q1, q2⟩ := hA.1 _ _ _ hc
              rw [q1]
              exact ih _ _ _ _ _ _ _ q2
            | none =>
              rw [hA.2 hc]
              dsimp only
              split
              · rfl
              · rw [jH_lv a b]
                cases hh : jH L xs (decide (mi = 0)) (jm_ini mi) (jm_own mi) pc a st h i with
                | none => rfl
                | some r =>
                  obtain ⟨pc', a', st', h'⟩ := r
                  have e := jH_lv (L := L) (xs := xs) (il := decide (mi = 0)) (ini := jm_ini mi) (k := jm_own mi) (pc := pc) (st := st) (h := h) (i := i) a a
                  rw [hh] at e
                  cases e
                  exact ih _ _ _ _ _ _ _ hE
      · rfl
theorem kX_lv {T : List jC} {L : Nat} {xs : Nat → Int32} {d mi pc : Nat} {a : jL} {st : List Value} {σ : kS} {Q : Option Value → kS → Prop} (b : jL) (ka : nk a = true) (kb : nk b = true) (ma : a.all (fun q => decide (q.1 < 16)) = true) (mb : b.all (fun q => decide (q.1 < 16)) = true) (e : (List.range 16).map (jl a) = (List.range 16).map (jl b)) (g : kX T L xs d mi pc b st σ Q) : kX T L xs d mi pc a st σ Q := by
  have hE : lvE a b := ⟨ka, kb, fun i => by
    by_cases hi : i < 16
    · have := congrArg (fun l => l[i]?) e
      simpa [hi] using this
    · have hn : ∀ c : jL, c.all (fun q => decide (q.1 < 16)) = true → jl c i = none := fun c hc => nk_none (by
        rw [List.any_eq_false]
        intro x hx
        have := List.all_eq_true.mp hc x hx
        simp at this
        simp
        omega)
      rw [hn a ma, hn b mb]⟩
  intro h hk
  obtain ⟨r, σ', h', ⟨n, hn⟩, g2⟩ := g h hk
  exact ⟨r, σ', h', ⟨n, by rw [jrun_lv L xs n d mi pc a b st h hE]; exact hn⟩, g2⟩
