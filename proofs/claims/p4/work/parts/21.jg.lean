/-! a run from a place in a method, whatever the fuel -/
def jG (L : Nat) (xs : Nat → Int32) (d mi pc : Nat) (lv : jL) (st : List Value) (h : List jC) (r : Option Value × List jC) : Prop := ∃ n, jrun L xs n d mi pc lv st h = some r
section JG
variable {L : Nat} {xs : Nat → Int32} {d mi pc : Nat} {lv : jL} {st : List Value} {h : List jC} {r : Option Value × List jC}
theorem jG_seg (k : Nat) {pc' : Nat} {lv' : jL} {st' : List Value} {h' : List jC} (e : ∀ N, jrun L xs (N + k) d mi pc lv st h = jrun L xs N d mi pc' lv' st' h') (g : jG L xs d mi pc' lv' st' h' r) : jG L xs d mi pc lv st h r := by
  obtain ⟨n, hn⟩ := g
  exact ⟨n + k, by rw [e]; exact hn⟩
theorem jG_step {i : Instr} {len pc' : Nat} {lv' : jL} {st' : List Value} {h' : List jC} (hi : jm_ins mi pc = some (i, len)) (hl : jlen i = 0 ∨ len = jlen i) (he : jend mi st i = none) (hc : jcall (jm_own mi) st h i = none) (hs : jstep L xs d mi pc lv st h i len = some (pc', lv', st', h')) (g : jG L xs d mi pc' lv' st' h' r) : jG L xs d mi pc lv st h r := by
  obtain ⟨n, hn⟩ := g
  refine ⟨n + 1, ?_⟩
  rw [jrun, hi]
  dsimp only
  rw [if_pos hl, he]
  dsimp only
  rw [hc]
  dsimp only
  rw [hs]
  exact hn
theorem jG_ret {i : Instr} {len : Nat} {v : Option Value} (hi : jm_ins mi pc = some (i, len)) (hl : jlen i = 0 ∨ len = jlen i) (he : jend mi st i = some v) : jG L xs d mi pc lv st h (v, h) := by
  refine ⟨1, ?_⟩
  rw [jrun, hi]
  dsimp only
  rw [if_pos hl, he]
theorem jG_call {i : Instr} {len y : Nat} {as rest : List Value} {r1 : Option Value} {h1 : List jC} (hi : jm_ins mi pc = some (i, len)) (hl : jlen i = 0 ∨ len = jlen i) (he : jend mi st i = none) (hc : jcall (jm_own mi) st h i = some (y, as, rest)) (hy : y ≠ 0 ∧ y < jm_n ∧ (lg_sl as).length ≤ jm_maxL y)
    (hm : jMR L xs d y as h (r1, h1)) (g : jG L xs (d + 1) mi (pc + 3) lv (r1.toList ++ rest) h1 r) : jG L xs (d + 1) mi pc lv st h r := by
  obtain ⟨n1, hn1⟩ := hm
  obtain ⟨n2, hn2⟩ := g
  exact ⟨_, jrun_call hi hl he hc hy hn1 hn2⟩
theorem jG_iast {x j : Int32} {a n : Nat} {f : Nat → Int32} {rest : List Value} (hi : jm_ins mi pc = some (.iastore, 1)) (ha : h[a]? = some (.inl (0, n, .inl f))) (hj : jin j n = true) (g : jG L xs (d + 1) mi (pc + 1) lv rest (h.set a (.inl (0, n, .inl (upd f j.toNatClampNeg x)))) r) : jG L xs (d + 1) mi pc lv (.int x :: .int j :: .ref a :: rest) h r :=
  jG_step hi (Or.inr rfl) rfl rfl (by
    show (if d + 1 = 0 then none else jH L xs (decide (mi = 0)) (jm_ini mi) (jm_own mi) pc lv (.int x :: .int j :: .ref a :: rest) h .iastore) = _
    rw [if_neg (Nat.succ_ne_zero d)]
    simp only [jH, ha, hj]
    rfl) g
end JG
def jm_fill : Nat := 227
theorem jfill_loop (L : Nat) (xs : Nat → Int32) (d a n : Nat) (v : Int32) (hn : n < 2 ^ 31) : ∀ (m i : Nat) (f : Nat → Int32) (h : List jC), i + m = n → h[a]? = some (.inl (0, n, .inl f)) → jG L xs (d + 1) 227 5 [(2, .int (nI i)), (3, .int (nI n)), (0, .ref a), (1, .int v)] [] h (none, h.set a (.inl (0, n, .inl (fun j => if i ≤ j ∧ j < n then v else f j)))) := by
  intro m
  induction m with
  | zero =>
    intro i f h hi ha
    have hin : i = n := by omega
    subst hin
    refine jG_seg 3 (pc' := 20) (lv' := [(2, .int (nI i)), (3, .int (nI i)), (0, .ref a), (1, .int v)]) (st' := []) (h' := h) (fun N => ?_) ?_
    · have e : jcmp .ge (nI i) (nI i) = true := decide_eq_true (Int32.le_refl _)
      show jrun L xs N (d + 1) 227 (if jcmp .ge (nI i) (nI i) then 20 else 10) _ _ _ = _
      rw [e]
      rfl
    · have e : h.set a (.inl (0, i, .inl (fun j => if i ≤ j ∧ j < i then v else f j))) = h := by
        have hf : (fun j => if i ≤ j ∧ j < i then v else f j) = f := funext fun j => if_neg (by omega)
        rw [hf]
        have hl := (List.getElem?_eq_some_iff.mp ha)
        obtain ⟨hlt, he⟩ := hl
        rw [← he]
        exact List.set_getElem_self hlt
      rw [e]
      exact jG_ret (i := .return_) (len := 1) rfl (Or.inr rfl) rfl
  | succ m ih =>
    intro i f h hi ha
    have hlt : i < n := by omega
    have e : jcmp .ge (nI i) (nI n) = false := decide_eq_false (nI_ge hlt hn)
    refine jG_seg 6 (pc' := 13) (lv' := [(2, .int (nI i)), (3, .int (nI n)), (0, .ref a), (1, .int v)]) (st' := [.int v, .int (nI i), .ref a]) (h' := h) (fun N => ?_) ?_
    · show jrun L xs (N + 3) (d + 1) 227 (if jcmp .ge (nI i) (nI n) then 20 else 10) _ _ _ = _
      rw [e]
      rfl
    · refine jG_iast rfl ha (decide_eq_true (nI_in hlt hn)) ?_
      rw [nI_clamp (Nat.lt_trans hlt hn)]
      refine jG_seg 2 (pc' := 5) (lv' := [(2, .int (nI i + 1)), (3, .int (nI n)), (0, .ref a), (1, .int v)]) (st' := []) (fun N => rfl) ?_
      rw [← nI_succ]
      have hl := (List.getElem?_eq_some_iff.mp ha).1
      have := ih (i + 1) (upd f i v) (h.set a (.inl (0, n, .inl (upd f i v)))) (by omega) (List.getElem?_set_self hl)
      rw [List.set_set] at this
      have hf : (fun j => if i + 1 ≤ j ∧ j < n then v else upd f i v j) = (fun j => if i ≤ j ∧ j < n then v else f j) := by
        funext j
        by_cases hj : j = i
        · subst hj
          rw [if_neg (by omega), if_pos ⟨Nat.le_refl _, hlt⟩, pk_us]
        · rw [pk_un hj]
          by_cases h1 : i ≤ j ∧ j < n
          · rw [if_pos h1, if_pos (by omega)]
          · rw [if_neg h1, if_neg (by omega)]
      rw [hf] at this
      exact this
