/-! fuel; and the interpreter with summaries of methods -/
theorem jrun_succ (L : Nat) (xs : Nat → Int32) : ∀ (n d mi pc : Nat) (lv : jL) (st : List Value) (h : List jC) (r : Option Value × List jC), jrun L xs n d mi pc lv st h = some r → jrun L xs (n + 1) d mi pc lv st h = some r := by
  intro n
  induction n with
  | zero => intro d mi pc lv st h r hs; cases hs
  | succ n ih =>
    intro d mi pc lv st h r hs
    rw [jrun] at hs
    rw [jrun]
    cases hi : jm_ins mi pc with
    | none => rw [hi] at hs; cases hs
    | some q =>
      obtain ⟨i, len⟩ := q
      rw [hi] at hs
      dsimp only at hs ⊢
      by_cases hl : jlen i = 0 ∨ len = jlen i
      · rw [if_pos hl] at hs ⊢
        cases he : jend mi st i with
        | some r0 => rw [he] at hs; exact hs
        | none =>
          rw [he] at hs
          dsimp only at hs ⊢
          cases hc : jcall (jm_own mi) st h i with
          | some q =>
            obtain ⟨y, as, rest⟩ := q
            rw [hc] at hs
            cases d with
            | zero => cases hs
            | succ d' =>
              dsimp only at hs ⊢
              by_cases hy : y ≠ 0 ∧ y < jm_n ∧ (lg_sl as).length ≤ jm_maxL y
              · rw [if_pos hy] at hs ⊢
                cases hr : jrun L xs n d' y 0 (lv_args 0 as) [] h with
                | none => rw [hr] at hs; cases hs
                | some q1 =>
                  obtain ⟨r1, h1⟩ := q1
                  rw [hr] at hs
                  rw [ih _ _ _ _ _ _ _ hr]
                  exact ih _ _ _ _ _ _ _ hs
              · rw [if_neg hy] at hs; cases hs
          | none =>
            rw [hc] at hs
            dsimp only at hs ⊢
            cases hst : jstep L xs d mi pc lv st h i len with
            | none => rw [hst] at hs; cases hs
            | some q =>
              obtain ⟨pc1, lv1, st1, h1⟩ := q
              rw [hst] at hs
              exact ih _ _ _ _ _ _ _ hs
      · rw [if_neg hl] at hs; cases hs
theorem jrun_le {L : Nat} {xs : Nat → Int32} {n n' d mi pc : Nat} {lv : jL} {st : List Value} {h : List jC} {r : Option Value × List jC} (hn : n ≤ n') (hs : jrun L xs n d mi pc lv st h = some r) : jrun L xs n' d mi pc lv st h = some r := by
  induction hn with
  | refl => exact hs
  | step _ ih => exact jrun_succ L xs _ _ _ _ _ _ _ _ ih
/-- a method's run from its entry, whatever the fuel -/
def jMR (L : Nat) (xs : Nat → Int32) (d y : Nat) (as : List Value) (h : List jC) (r : Option Value × List jC) : Prop := ∃ n, jrun L xs n d y 0 (lv_args 0 as) [] h = some r
abbrev jSm : Type := Nat → List Value → List jC → Option (Option Value × List jC)
/-- summaries: what a method answers and leaves, at every depth from dep on -/
def jSmOK (L : Nat) (xs : Nat → Int32) (dep : Nat → Nat) (S : jSm) : Prop := ∀ (y : Nat) (as : List Value) (h : List jC) (r : Option Value × List jC), S y as h = some r → ∀ d, dep y ≤ d → jMR L xs d y as h r
/-- the interpreter, a method with a summary by its summary -/
def qrun (dep : Nat → Nat) (S : jSm) (L : Nat) (xs : Nat → Int32) : Nat → Nat → Nat → Nat → jL → List Value → List jC → Option (Option Value × List jC)
  | 0, _, _, _, _, _, _ => none
  | n + 1, d, mi, pc, lv, st, h => match jm_ins mi pc with
    | none => none
    | some (i, len) => if jlen i = 0 ∨ len = jlen i then
        (match jend mi st i with
        | some r => some (r, h)
        | none => match jcall (jm_own mi) st h i, d with
          | some (y, as, rest), d' + 1 => if y ≠ 0 ∧ y < jm_n ∧ (lg_sl as).length ≤ jm_maxL y then
              (match (if dep y ≤ d' then S y as h else none) with
              | some (r, h1) => qrun dep S L xs n (d' + 1) mi (pc + 3) lv (r.toList ++ rest) h1
              | none => match qrun dep S L xs n d' y 0 (lv_args 0 as) [] h with
                | some (r, h1) => qrun dep S L xs n (d' + 1) mi (pc + 3) lv (r.toList ++ rest) h1
                | none => none) else none
          | some _, 0 => none
          | none, d => match jstep L xs d mi pc lv st h i len with
            | some (pc', lv', st', h') => qrun dep S L xs n d mi pc' lv' st' h'
            | none => none) else none
theorem jrun_call {L : Nat} {xs : Nat → Int32} {n1 n2 d mi pc : Nat} {lv : jL} {st : List Value} {h : List jC} {i : Instr} {len y : Nat} {as rest : List Value} {r1 : Option Value} {h1 : List jC} {r : Option Value × List jC} (hi : jm_ins mi pc = some (i, len)) (hl : jlen i = 0 ∨ len = jlen i) (he : jend mi st i = none) (hc : jcall (jm_own mi) st h i = some (y, as, rest)) (hy : y ≠ 0 ∧ y < jm_n ∧ (lg_sl as).length ≤ jm_maxL y)
    (h1r : jrun L xs n1 d y 0 (lv_args 0 as) [] h = some (r1, h1)) (h2r : jrun L xs n2 (d + 1) mi (pc + 3) lv (r1.toList ++ rest) h1 = some r) : jrun L xs (n1 + n2 + 1) (d + 1) mi pc lv st h = some r := by
  rw [jrun, hi]
  dsimp only
  rw [if_pos hl, he]
  dsimp only
  rw [hc]
  dsimp only
  rw [if_pos hy, jrun_le (Nat.le_add_right n1 n2) h1r]
  exact jrun_le (Nat.le_add_left n2 n1) h2r
theorem qrun_ok (dep : Nat → Nat) (S : jSm) (L : Nat) (xs : Nat → Int32) (hS : jSmOK L xs dep S) : ∀ (n d mi pc : Nat) (lv : jL) (st : List Value) (h : List jC) (r : Option Value × List jC), qrun dep S L xs n d mi pc lv st h = some r → ∃ n', jrun L xs n' d mi pc lv st h = some r := by
  intro n
  induction n with
  | zero => intro d mi pc lv st h r hs; cases hs
  | succ n ih =>
    intro d mi pc lv st h r hs
    rw [qrun] at hs
    cases hi : jm_ins mi pc with
    | none => rw [hi] at hs; cases hs
    | some q =>
      obtain ⟨i, len⟩ := q
      rw [hi] at hs
      dsimp only at hs
      by_cases hl : jlen i = 0 ∨ len = jlen i
      · rw [if_pos hl] at hs
        cases he : jend mi st i with
        | some r0 =>
          rw [he] at hs
          refine ⟨1, ?_⟩
          rw [jrun, hi]
          dsimp only
          rw [if_pos hl, he]
          exact hs
        | none =>
          rw [he] at hs
          dsimp only at hs
          cases hc : jcall (jm_own mi) st h i with
          | some q =>
            obtain ⟨y, as, rest⟩ := q
            rw [hc] at hs
            cases d with
            | zero => cases hs
            | succ d' =>
              dsimp only at hs
              by_cases hy : y ≠ 0 ∧ y < jm_n ∧ (lg_sl as).length ≤ jm_maxL y
              · rw [if_pos hy] at hs
                split at hs
                · next r1 h1 hsm =>
                  have hdp : dep y ≤ d' := by
                    by_cases hd : dep y ≤ d'
                    · exact hd
                    · rw [if_neg hd] at hsm; cases hsm
                  rw [if_pos hdp] at hsm
                  obtain ⟨n1, hn1⟩ := hS y as h _ hsm d' hdp
                  obtain ⟨n2, hn2⟩ := ih _ _ _ _ _ _ _ hs
                  exact ⟨_, jrun_call hi hl he hc hy hn1 hn2⟩
                · split at hs
                  · next r1 h1 hq =>
                    obtain ⟨n1, hn1⟩ := ih _ _ _ _ _ _ _ hq
                    obtain ⟨n2, hn2⟩ := ih _ _ _ _ _ _ _ hs
                    exact ⟨_, jrun_call hi hl he hc hy hn1 hn2⟩
                  · cases hs
              · rw [if_neg hy] at hs; cases hs
          | none =>
            rw [hc] at hs
            dsimp only at hs
            cases hst : jstep L xs d mi pc lv st h i len with
            | none => rw [hst] at hs; cases hs
            | some q =>
              obtain ⟨pc1, lv1, st1, h1⟩ := q
              rw [hst] at hs
              obtain ⟨n2, hn2⟩ := ih _ _ _ _ _ _ _ hs
              refine ⟨n2 + 1, ?_⟩
              rw [jrun, hi]
              dsimp only
              rw [if_pos hl, he]
              dsimp only
              rw [hc]
              dsimp only
              rw [hst]
              exact hn2
      · rw [if_neg hl] at hs; cases hs
