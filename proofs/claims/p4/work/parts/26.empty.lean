theorem jG_get {L : Nat} {xs : Nat → Int32} {d mi pc : Nat} {lv : jL} {h : List jC} {r : Option Value × List jC} {idx a ci f : Nat} {fs : List Value} {v : Value} {rest : List Value} (hi : jm_ins mi pc = some (.getfield idx, 3)) (hf : jm_fld (jm_own mi) idx = some (ci, f)) (ha : h[a]? = some (.inr (ci, fs))) (hv : fs[f]? = some v) (g : jG L xs (d + 1) mi (pc + 3) lv (v :: rest) h r) : jG L xs (d + 1) mi pc lv (.ref a :: rest) h r :=
  jG_step hi (Or.inr rfl) rfl rfl (by
    show (if d + 1 = 0 then none else jH L xs (decide (mi = 0)) (jm_ini mi) (jm_own mi) pc lv (.ref a :: rest) h (.getfield idx)) = _
    rw [if_neg (Nat.succ_ne_zero d)]
    simp only [jH, hf, ha, hv]
    rfl) g
theorem jempty_loop (L : Nat) (xs : Nat → Int32) (d o a : Nat) (fs : List Value) (hfs : fs[11]? = some (.ref a)) (hoa : o ≠ a) : ∀ (m i : Nat) (f : Nat → Int32) (h : List jC), i + m = 1024 → h[o]? = some (.inr (11, fs)) → h[a]? = some (.inl (0, 1024, .inl f)) → jG L xs (d + 1) 146 2 [(1, .int (nI i)), (0, .ref o)] [] h (none, h.set a (.inl (0, 1024, .inl (fun j => if i ≤ j ∧ j < 1024 then -1 else f j)))) := by
  intro m
  induction m with
  | zero =>
    intro i f h hi ho ha
    have hin : i = 1024 := by omega
    subst hin
    refine jG_seg 3 (pc' := 22) (lv' := [(1, .int (nI 1024)), (0, .ref o)]) (st' := []) (h' := h) (fun N => ?_) ?_
    · have e : jcmp .ge (nI 1024) (Int16.ofInt 1024).toInt32 = true := by decide
      show jrun L xs N (d + 1) 146 (if jcmp .ge (nI 1024) (Int16.ofInt 1024).toInt32 then 22 else 9) _ _ _ = _
      rw [e]
      rfl
    · have e : h.set a (.inl (0, 1024, .inl (fun j => if 1024 ≤ j ∧ j < 1024 then -1 else f j))) = h := by
        have hf : (fun j => if 1024 ≤ j ∧ j < 1024 then -1 else f j) = f := funext fun j => if_neg (by omega)
        rw [hf]
        obtain ⟨hlt, he⟩ := List.getElem?_eq_some_iff.mp ha
        rw [← he]
        exact List.set_getElem_self hlt
      rw [e]
      exact jG_ret (i := .return_) (len := 1) rfl (Or.inr rfl) rfl
  | succ m ih =>
    intro i f h hi ho ha
    have hlt : i < 1024 := by omega
    have h16 : (Int16.ofInt 1024).toInt32 = nI 1024 := by decide
    have e : jcmp .ge (nI i) (Int16.ofInt 1024).toInt32 = false := by rw [h16]; exact decide_eq_false (nI_ge hlt (by decide))
    refine jG_seg 4 (pc' := 10) (lv' := [(1, .int (nI i)), (0, .ref o)]) (st' := [.ref o]) (h' := h) (fun N => ?_) ?_
    · show jrun L xs (N + 1) (d + 1) 146 (if jcmp .ge (nI i) (Int16.ofInt 1024).toInt32 then 22 else 9) _ _ _ = _
      rw [e]
      rfl
    · refine jG_get (idx := 42) rfl rfl ho hfs ?_
      refine jG_seg 2 (pc' := 15) (lv' := [(1, .int (nI i)), (0, .ref o)]) (st' := [.int (-1), .int (nI i), .ref a]) (h' := h) (fun N => rfl) ?_
      refine jG_iast rfl ha (decide_eq_true (nI_in hlt (by decide))) ?_
      rw [nI_clamp (Nat.lt_trans hlt (by decide))]
      refine jG_seg 2 (pc' := 2) (lv' := [(1, .int (nI i + 1)), (0, .ref o)]) (st' := []) (fun N => rfl) ?_
      rw [← nI_succ]
      have hl := (List.getElem?_eq_some_iff.mp ha).1
      have := ih (i + 1) (upd f i (-1)) (h.set a (.inl (0, 1024, .inl (upd f i (-1))))) (by omega) (by rw [List.getElem?_set_ne (Ne.symm hoa)]; exact ho) (List.getElem?_set_self hl)
      rw [List.set_set] at this
      have hf : (fun j => if i + 1 ≤ j ∧ j < 1024 then -1 else upd f i (-1) j) = (fun j => if i ≤ j ∧ j < 1024 then -1 else f j) := by
        funext j
        by_cases hj : j = i
        · subst hj
          rw [if_neg (by omega), if_pos ⟨Nat.le_refl _, hlt⟩, pk_us]
        · rw [pk_un hj]
          by_cases h1 : i ≤ j ∧ j < 1024
          · rw [if_pos h1, if_pos (by omega)]
          · rw [if_neg h1, if_neg (by omega)]
      rw [hf] at this
      exact this
theorem jempty_ok (L : Nat) (xs : Nat → Int32) (d o a : Nat) (fs : List Value) (f : Nat → Int32) (h : List jC) (hfs : fs[11]? = some (.ref a)) (hoa : o ≠ a) (ho : h[o]? = some (.inr (11, fs))) (ha : h[a]? = some (.inl (0, 1024, .inl f))) : jMR L xs (d + 1) 146 [.ref o] h (none, h.set a (.inl (0, 1024, .inl (fun j => if j < 1024 then -1 else f j)))) := by
  show jG L xs (d + 1) 146 0 [(0, .ref o)] [] h _
  refine jG_seg 2 (pc' := 2) (lv' := [(1, .int (nI 0)), (0, .ref o)]) (st' := []) (h' := h) (fun N => rfl) ?_
  have := jempty_loop L xs d o a fs hfs hoa 1024 0 f h rfl ho ha
  have hf : (fun j => if 0 ≤ j ∧ j < 1024 then (-1 : Int32) else f j) = (fun j => if j < 1024 then -1 else f j) := by
    funext j
    by_cases h1 : j < 1024
    · rw [if_pos h1, if_pos ⟨Nat.zero_le _, h1⟩]
    · rw [if_neg h1, if_neg (by omega)]
  rw [hf] at this
  exact this
/-- the summaries that the constructors need -/
def jS0 : jSm := fun y as h => if y = 227 then (match as with
    | [.ref a, .int v] => match h[a]? with
      | some (.inl (t, n, .inl f)) => if t = 0 ∧ n < 100000 then some (none, h.set a (.inl (0, n, .inl (fun j => if j < n then v else f j)))) else none
      | _ => none
    | _ => none)
  else if y = 146 then (match as with
    | [.ref o] => match h[o]? with
      | some (.inr (ci, fs)) => (match (fs[11]? : Option Value) with
        | some (.ref a) => (match h[a]? with
          | some (.inl (t, n, .inl f)) => if ci = 11 ∧ t = 0 ∧ n = 1024 ∧ o ≠ a then some (none, h.set a (.inl (0, 1024, .inl (fun j => if j < 1024 then -1 else f j)))) else none
          | _ => none)
        | _ => none)
      | _ => none
    | _ => none)
  else none
theorem jS0_ok (L : Nat) (xs : Nat → Int32) : jSmOK L xs (fun _ => 1) jS0 := by
  intro y as h r hs d hd
  have hd : 1 ≤ d := hd
  obtain ⟨d, rfl⟩ : ∃ d', d = d' + 1 := ⟨d - 1, by omega⟩
  unfold jS0 at hs
  split at hs
  · next hy =>
    subst hy
    split at hs
    · split at hs
      · next ha =>
        split at hs
        · next he =>
          cases hs
          obtain ⟨rfl, hn⟩ := he
          exact jfill_ok L xs d _ _ _ _ h (Nat.lt_trans hn (by decide)) ha
        · cases hs
      · cases hs
    · cases hs
  · split at hs
    · next hy =>
      subst hy
      split at hs
      · split at hs
        · next ho =>
          split at hs
          · next hfs =>
            split at hs
            · next ha =>
              split at hs
              · next he =>
                cases hs
                obtain ⟨rfl, rfl, rfl, hne⟩ := he
                exact jempty_ok L xs d _ _ _ _ h hfs hne ho ha
              · cases hs
            · cases hs
          · cases hs
        · cases hs
      · cases hs
    · cases hs
