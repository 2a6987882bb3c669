theorem jm_same {h : List jC} : h.length ≤ h.length ∧ jsl h ≤ jsl h := ⟨Nat.le_refl _, Nat.le_refl _⟩
theorem jm_set {h : List jC} {a : Nat} {c0 c9 : jC} (ha : h[a]? = some c0) (hz : jsz c9 = jsz c0) : h.length ≤ (h.set a c9).length ∧ jsl h ≤ jsl (h.set a c9) := by
  rw [List.length_set, jsl_set h a c0 c9 ha hz]
  exact jm_same
theorem jm_app {h g : List jC} : h.length ≤ (h ++ g).length ∧ jsl h ≤ jsl (h ++ g) := by
  rw [List.length_append, jsl_app]
  exact ⟨Nat.le_add_right _ _, Nat.le_add_right _ _⟩
set_option maxHeartbeats 4000000 in
theorem jH_mono {L : Nat} {xs : Nat → Int32} {il ini : Bool} {k pc : Nat} {lv : jL} {st : List Value} {h : List jC} {i : Instr} {r : Nat × jL × List Value × List jC} (hs : jH L xs il ini k pc lv st h i = some r) : r.2.1 = lv ∧ h.length ≤ r.2.2.2.length ∧ jsl h ≤ jsl r.2.2.2 := by
  cases i with
  | getfield idx =>
    simp only [jH] at hs
    split at hs
    · split at hs
      · next ci f ci' fs hf ha =>
        split at hs
        · cases hv : fs[f]? with
          | none => rw [hv] at hs; cases hs
          | some v => rw [hv] at hs; cases hs; exact ⟨rfl, jm_same⟩
        · cases hs
      · cases hs
    · cases hs
  | putfield idx =>
    simp only [jH] at hs
    split at hs
    · split at hs
      · next ci f ci' fs hf ha =>
        split at hs
        · next he =>
          cases hs
          exact ⟨rfl, jm_set ha (by simp [jsz])⟩
        · cases hs
      · cases hs
    · cases hs
  | iaload =>
    simp only [jH] at hs
    split at hs
    · split at hs
      · split at hs
        · cases hs; exact ⟨rfl, jm_same⟩
        · cases hs
      · cases hs
    · split at hs
      · cases hs; exact ⟨rfl, jm_same⟩
      · cases hs
    · cases hs
  | baload =>
    simp only [jH] at hs
    split at hs
    · split at hs
      · split at hs
        · cases hs; exact ⟨rfl, jm_same⟩
        · cases hs
      · cases hs
    · cases hs
  | aaload =>
    simp only [jH] at hs
    split at hs
    · split at hs
      · split at hs
        · cases hs; exact ⟨rfl, jm_same⟩
        · cases hs
      · cases hs
    · cases hs
  | arraylength =>
    simp only [jH] at hs
    split at hs
    · split at hs
      · split at hs
        · cases hs; exact ⟨rfl, jm_same⟩
        · cases hs
      · cases hs
    · split at hs
      · cases hs; exact ⟨rfl, jm_same⟩
      · cases hs
    · cases hs
  | iastore =>
    simp only [jH] at hs
    split at hs
    · split at hs
      · next ha =>
        split at hs
        · cases hs; exact ⟨rfl, jm_set ha rfl⟩
        · cases hs
      · cases hs
    · cases hs
  | bastore =>
    simp only [jH] at hs
    split at hs
    · split at hs
      · next ha =>
        split at hs
        · cases hs; exact ⟨rfl, jm_set ha rfl⟩
        · cases hs
      · cases hs
    · cases hs
  | aastore =>
    simp only [jH] at hs
    split at hs
    · split at hs
      · next ha hv =>
        split at hs
        · cases hs; exact ⟨rfl, jm_set ha rfl⟩
        · cases hs
      · cases hs
    · cases hs
  | new idx =>
    simp only [jH] at hs
    split at hs
    · cases hs; exact ⟨rfl, jm_app⟩
    · cases hs
  | newarray ty =>
    simp only [jH] at hs
    split at hs
    · split at hs
      · split at hs
        · cases hs; exact ⟨rfl, jm_app⟩
        · cases hs; exact ⟨rfl, jm_app⟩
        · cases hs
      · cases hs
    · cases hs
  | anewarray idx =>
    simp only [jH] at hs
    split at hs
    · split at hs
      · cases hs; exact ⟨rfl, jm_app⟩
      · cases hs
    · cases hs
  | multianewarray idx dm =>
    by_cases hdm : dm = 2
    · subst hdm
      simp only [jH] at hs
      split at hs
      · split at hs
        · cases hs
          exact ⟨rfl, Nat.le_trans jm_app.1 jm_app.1, Nat.le_trans jm_app.2 jm_app.2⟩
        · cases hs
      · cases hs
    · have : jH L xs il ini k pc lv st h (.multianewarray idx dm) = none := by
        unfold jH
        split <;> simp_all
      rw [this] at hs
      cases hs
  | invokestatic idx =>
    simp only [jH] at hs
    split at hs
    · split at hs
      · split at hs
        · cases hs; exact ⟨rfl, jm_same⟩
        · cases hs
      · cases hs
    · split at hs
      · split at hs
        · next ho ha0 ha =>
          split at hs
          · cases hs; exact ⟨rfl, jm_set ha rfl⟩
          · cases hs
        · cases hs
      · cases hs
  | invokespecial idx =>
    simp only [jH] at hs
    split at hs
    · split at hs
      · cases hs; exact ⟨rfl, jm_same⟩
      · cases hs
    · cases hs
  | _ => cases hs
set_option maxHeartbeats 4000000 in
/-- THE INTERPRETER IS SOUND: what it answers the machine answers -/
theorem jrun_ok (l : Launch) (hmna : jMna l) (D : va_G) (dA : Nat → ClassId) (b b0 L : Nat) (xs : Nat → Int32) : ∀ (n d mi pc : Nat) (lv : jL) (st : List Value) (h : List jC) (r : Option Value) (h' : List jC), jrun L xs n d mi pc lv st h = some (r, h') →
    (h.length ≤ h'.length ∧ jsl h ≤ jsl h') ∧ jBody l D dA b b0 L xs d mi pc lv st h r h' := by
  intro n
  induction n with
  | zero => intro d mi pc lv st h r h' hs; cases hs
  | succ n ih =>
    intro d mi pc lv st h r h' hs
    unfold jrun at hs
    split at hs
    · cases hs
    · next i len hi =>
      have hd := jm_ins_ok _ _ _ _ hi
      split at hs
      · next hlen =>
        split at hs
        · next r0 he =>
          cases hs
          refine ⟨jm_same, ?_⟩
          intro p e R s m args below meth c H locs cells slots Q ls cx hl hW hS hfr hlo hc hsl kret
          have h1 := jend_st he
          subst h1
          have := kret pc ls H locs i (jq_len (jend_len he) (by decide) hlen hd) he hW hS
          simpa using this
        · next hne =>
          split at hs
          · next y as rest d' hcl =>
            split at hs
            · next hy =>
              split at hs
              · next r1 h1 hr1 =>
                obtain ⟨m1, b1⟩ := ih d' y 0 (lv_args 0 as) [] h r1 h1 hr1
                obtain ⟨m2, b2⟩ := ih (d' + 1) mi (pc + 3) lv (r1.toList ++ rest) h1 r h' hs
                refine ⟨⟨Nat.le_trans m1.1 m2.1, Nat.le_trans m1.2 m2.2⟩, ?_⟩
                intro p e R s m args below meth c H locs cells slots Q ls cx hl hW hS hfr hlo hc hsl kret
                have hM := jmet hy.2.1 hy.1 hy.2.2 b1
                refine jcall_ok cx hl.1 hW hS hlen hd hcl hy.1 hy.2.1 hM hfr hlo (by omega) (by omega) ?_
                intro H1 locs1 hW1 hS1
                refine b2 p e R s m args below meth c H1 locs1 _ _ Q ls cx hl hW1 hS1 hfr hlo (by omega) (by omega) ?_
                intro pc' ls' H' locs' i' q1 q2 q3 q4
                have := kret pc' ls' H' locs' i' q1 q2 q3 q4
                rw [show cells + (h1.length - h.length) + (h'.length - h1.length) = cells + (h'.length - h.length) by omega, show slots + (jsl h1 - jsl h) + (jsl h' - jsl h1) = slots + (jsl h' - jsl h) by omega]
                exact this
              · cases hs
            · cases hs
          · cases hs
          · next hcl =>
            split at hs
            · next pc1 lv1 st1 h1 hst =>
              obtain ⟨m2, b2⟩ := ih _ mi pc1 lv1 st1 h1 r h' hs
              unfold jstep at hst
              split at hst
              · next pc2 lv2 st2 hA =>
                cases hst
                refine ⟨m2, ?_⟩
                intro p e R s m args below meth c H locs cells slots Q ls cx hl hW hS hfr hlo hc hsl kret
                refine ja_ok cx.1 cx.2.1 cx.2.2.2.1 (fun idx v hv => cx.2.2.2.2.1 _ (jm_lng_ok _ _ _ hv)) hlen hd hA hl ?_
                intro ls' hl'
                exact b2 p e R s m args below meth c H locs cells slots Q ls' cx hl' hW hS hfr hlo hc hsl kret
              · next hA =>
                split at hst
                · cases hst
                · next hd0 =>
                  obtain ⟨e1, g1, g2⟩ := jH_mono hst
                  dsimp only at e1 g1 g2
                  subst e1
                  refine ⟨⟨Nat.le_trans g1 m2.1, Nat.le_trans g2 m2.2⟩, ?_⟩
                  intro p e R s m args below meth c H locs cells slots Q ls cx hl hW hS hfr hlo hc hsl kret
                  have m21 := m2.1
                  have m22 := m2.2
                  refine jh_ok hmna cx hW hS hl.1 (by omega) (by omega) hlen hd hst (by dsimp only; omega) (by dsimp only; omega) ?_
                  intro H1 locs1 hW1 hS1
                  dsimp only at hW1 ⊢
                  refine b2 p e R s m args below meth c H1 locs1 _ _ Q ls cx hl hW1 hS1 hfr hlo (by omega) (by omega) ?_
                  intro pc' ls' H' locs' i' q1 q2 q3 q4
                  have := kret pc' ls' H' locs' i' q1 q2 q3 q4
                  rw [show cells + (h1.length - h.length) + (h'.length - h1.length) = cells + (h'.length - h.length) by omega, show slots + (jsl h1 - jsl h) + (jsl h' - jsl h1) = slots + (jsl h' - jsl h) by omega]
                  exact this
            · cases hs
      · cases hs
