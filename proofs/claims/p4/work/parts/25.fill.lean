section JF
variable {L : Nat} {xs : Nat → Int32} {d mi pc : Nat} {lv : jL} {st : List Value} {h : List jC} {r : Option Value × List jC}
theorem jG_alen {a n : Nat} {f : Nat → Int32} {rest : List Value} (hi : jm_ins mi pc = some (.arraylength, 1)) (ha : h[a]? = some (.inl (0, n, .inl f))) (g : jG L xs (d + 1) mi (pc + 1) lv (.int (Int32.ofNat n) :: rest) h r) : jG L xs (d + 1) mi pc lv (.ref a :: rest) h r :=
  jG_step hi (Or.inr rfl) rfl rfl (by
    show (if d + 1 = 0 then none else jH L xs (decide (mi = 0)) (jm_ini mi) (jm_own mi) pc lv (.ref a :: rest) h .arraylength) = _
    rw [if_neg (Nat.succ_ne_zero d)]
    simp only [jH, ha]
    rfl) g
end JF
theorem jfill_ok (L : Nat) (xs : Nat → Int32) (d a n : Nat) (v : Int32) (f : Nat → Int32) (h : List jC) (hn : n < 2 ^ 31) (ha : h[a]? = some (.inl (0, n, .inl f))) : jMR L xs (d + 1) 227 [.ref a, .int v] h (none, h.set a (.inl (0, n, .inl (fun j => if j < n then v else f j)))) := by
  show jG L xs (d + 1) 227 0 [(0, .ref a), (1, .int v)] [] h _
  have hl := (List.getElem?_eq_some_iff.mp ha).1
  refine jG_seg 3 (pc' := 3) (lv' := [(2, .int 0), (0, .ref a), (1, .int v)]) (st' := [.ref a]) (h' := h) (fun N => rfl) ?_
  refine jG_alen rfl ha ?_
  refine jG_seg 1 (pc' := 5) (lv' := [(3, .int (nI n)), (2, .int 0), (0, .ref a), (1, .int v)]) (st' := []) (h' := h) (fun N => rfl) ?_
  by_cases h0 : n = 0
  · subst h0
    refine jG_seg 3 (pc' := 20) (lv' := [(3, .int (nI 0)), (2, .int 0), (0, .ref a), (1, .int v)]) (st' := []) (h' := h) (fun N => ?_) ?_
    · have e : jcmp .ge 0 (nI 0) = true := by decide
      show jrun L xs N (d + 1) 227 (if jcmp .ge 0 (nI 0) then 20 else 10) _ _ _ = _
      rw [e]
      rfl
    · have e : h.set a (.inl (0, 0, .inl (fun j => if j < 0 then v else f j))) = h := by
        have hf : (fun j => if j < 0 then v else f j) = f := funext fun j => if_neg (by omega)
        rw [hf]
        obtain ⟨hlt, he⟩ := List.getElem?_eq_some_iff.mp ha
        rw [← he]
        exact List.set_getElem_self hlt
      rw [e]
      exact jG_ret (i := .return_) (len := 1) rfl (Or.inr rfl) rfl
  · have hp : 0 < n := by omega
    have e : jcmp .ge 0 (nI n) = false := decide_eq_false (by rw [← nI_0]; exact nI_ge hp hn)
    refine jG_seg 6 (pc' := 13) (lv' := [(3, .int (nI n)), (2, .int 0), (0, .ref a), (1, .int v)]) (st' := [.int v, .int 0, .ref a]) (h' := h) (fun N => ?_) ?_
    · show jrun L xs (N + 3) (d + 1) 227 (if jcmp .ge 0 (nI n) then 20 else 10) _ _ _ = _
      rw [e]
      rfl
    · refine jG_iast rfl ha (decide_eq_true (by rw [← nI_0]; exact nI_in hp hn)) ?_
      refine jG_seg 2 (pc' := 5) (lv' := [(2, .int (nI 1)), (3, .int (nI n)), (0, .ref a), (1, .int v)]) (st' := []) (fun N => rfl) ?_
      have := jfill_loop L xs d a n v hn (n - 1) 1 (upd f 0 v) (h.set a (.inl (0, n, .inl (upd f 0 v)))) (by omega) (List.getElem?_set_self hl)
      rw [List.set_set] at this
      have hf : (fun j => if 1 ≤ j ∧ j < n then v else upd f 0 v j) = (fun j => if j < n then v else f j) := by
        funext j
        by_cases hj : j = 0
        · subst hj
          rw [if_neg (by omega), if_pos hp, pk_us]
        · rw [pk_un hj]
          by_cases h1 : j < n
          · rw [if_pos h1, if_pos (by omega)]
          · rw [if_neg h1, if_neg (by omega)]
      rw [hf] at this
      exact this
theorem jH_indep {L L' : Nat} {xs xs' : Nat → Int32} {ini : Bool} {k pc : Nat} {lv : jL} {st : List Value} {h : List jC} {i : Instr} : jH L xs false ini k pc lv st h i = jH L' xs' false ini k pc lv st h i := by
  cases i <;> first | rfl | (simp only [jH]; split <;> simp_all)
theorem jrun_indep (L L' : Nat) (xs xs' : Nat → Int32) : ∀ (n d mi pc : Nat) (lv : jL) (st : List Value) (h : List jC), mi ≠ 0 → jrun L xs n d mi pc lv st h = jrun L' xs' n d mi pc lv st h := by
  intro n
  induction n with
  | zero => intro d mi pc lv st h _; rfl
  | succ n ih =>
    intro d mi pc lv st h h0
    rw [jrun, jrun]
    cases hi : jm_ins mi pc with
    | none => rfl
    | some q =>
      obtain ⟨i, len⟩ := q
      dsimp only
      by_cases hl : jlen i = 0 ∨ len = jlen i
      · rw [if_pos hl, if_pos hl]
        cases he : jend mi st i with
        | some r0 => rfl
        | none =>
          dsimp only
          cases hc : jcall (jm_own mi) st h i with
          | some q =>
            obtain ⟨y, as, rest⟩ := q
            cases d with
            | zero => rfl
            | succ d' =>
              dsimp only
              by_cases hy : y ≠ 0 ∧ y < jm_n ∧ (lg_sl as).length ≤ jm_maxL y
              · rw [if_pos hy, if_pos hy, ih d' y 0 _ _ _ hy.1]
                cases hr : jrun L' xs' n d' y 0 (lv_args 0 as) [] h with
                | none => rfl
                | some q1 => exact ih _ _ _ _ _ _ h0
              · rw [if_neg hy, if_neg hy]
          | none =>
            dsimp only
            have hs : jstep L xs d mi pc lv st h i len = jstep L' xs' d mi pc lv st h i len := by
              unfold jstep
              rw [show decide (mi = 0) = false from decide_eq_false h0, jH_indep (L' := L') (xs' := xs')]
            rw [hs]
            cases hst : jstep L' xs' d mi pc lv st h i len with
            | none => rfl
            | some q => exact ih _ _ _ _ _ _ h0
      · rw [if_neg hl, if_neg hl]
