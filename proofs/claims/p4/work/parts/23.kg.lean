theorem kcall_ok {T : List jC} {σ : kS} {h : List jC} (hE : kE T σ h) {k : Nat} {st : List Value} {i : Instr} {x : Nat × List Value × List Value} (hc : jcall k st T i = some x) : jcall k st h i = some x := by
  cases i with
  | invokevirtual idx =>
    simp only [jcall] at hc ⊢
    split at hc
    · next kd y n hm =>
      split at hc
      · next hkd =>
        split at hc
        · next a rest hdr =>
          split at hc
          · next ci ts ha =>
            have := hE.obj ha
            rw [if_pos hkd, this]
            exact hc
          · cases hc
        · cases hc
      · cases hc
    · cases hc
  | invokespecial idx => exact hc
  | invokestatic idx => exact hc
  | _ => cases hc
def kplain (i : Instr) : Bool := match i with
  | .invokevirtual _ => false
  | _ => true
theorem kcall_none {T : List jC} {σ : kS} {h : List jC} (hE : kE T σ h) {k : Nat} {st : List Value} {i : Instr} (hi : kplain i = true) (hc : jcall k st T i = none) : jcall k st h i = none := by
  cases i with
  | invokevirtual idx => cases hi
  | _ => exact hc
/-- one instruction that is no call and no end -/
def kone (T : List jC) (L : Nat) (xs : Nat → Int32) (d mi pc : Nat) (lv : jL) (st : List Value) (σ : kS) : kQ := match jm_ins mi pc with
  | none => none
  | some (i, len) => if (jlen i = 0 ∨ len = jlen i) ∧ kplain i = true then
      (match jend mi st i with
      | some _ => none
      | none => match jcall (jm_own mi) st T i with
        | some _ => none
        | none => match jA (jm_own mi) (jm_maxL mi) pc len lv st i with
          | some (pc', lv', st') => some (pc', lv', st', σ)
          | none => if d = 0 then none else kH T L xs (decide (mi = 0)) (jm_own mi) pc lv st σ i) else none
def kmany (T : List jC) (L : Nat) (xs : Nat → Int32) (d mi : Nat) : Nat → Nat → jL → List Value → kS → kQ
  | 0, pc, lv, st, σ => some (pc, lv, st, σ)
  | n + 1, pc, lv, st, σ => match kone T L xs d mi pc lv st σ with
    | some (pc', lv', st', σ') => kmany T L xs d mi n pc' lv' st' σ'
    | none => none
def kG (T : List jC) (L : Nat) (xs : Nat → Int32) (d mi pc : Nat) (lv : jL) (st : List Value) (σ : kS) (r : Option Value) (σ' : kS) : Prop := ∀ h, kE T σ h → ∃ h', jG L xs d mi pc lv st h (r, h') ∧ kE T σ' h'
/-- a method's run from its entry -/
def kM (T : List jC) (L : Nat) (xs : Nat → Int32) (d y : Nat) (as : List Value) (σ : kS) (r : Option Value) (σ' : kS) : Prop := kG T L xs d y 0 (lv_args 0 as) [] σ r σ'
section KG
variable {T : List jC} {L : Nat} {xs : Nat → Int32} {d mi pc : Nat} {lv : jL} {st : List Value} {σ : kS} {r : Option Value} {σ' : kS}
theorem kG_one {pc1 : Nat} {lv1 : jL} {st1 : List Value} {σ1 : kS} (hs : kone T L xs d mi pc lv st σ = some (pc1, lv1, st1, σ1)) (g : kG T L xs d mi pc1 lv1 st1 σ1 r σ') : kG T L xs d mi pc lv st σ r σ' := by
  intro h hE
  unfold kone at hs
  split at hs
  · cases hs
  · next i len hi =>
    split at hs
    · next hl =>
      split at hs
      · cases hs
      · next he =>
        split at hs
        · cases hs
        · next hc =>
          have hcn := kcall_none hE hl.2 hc
          split at hs
          · next pc2 lv2 st2 hA =>
            cases hs
            obtain ⟨h', g1, g2⟩ := g h hE
            refine ⟨h', jG_step hi hl.1 he hcn ?_ g1, g2⟩
            unfold jstep
            rw [hA]
          · next hA =>
            split at hs
            · cases hs
            · next hd =>
              obtain ⟨h1, q1, q2⟩ := kH_ok (ini := jm_ini mi) hE hs
              obtain ⟨h', g1, g2⟩ := g h1 q2
              refine ⟨h', jG_step hi hl.1 he hcn ?_ g1, g2⟩
              unfold jstep
              rw [hA]
              dsimp only
              rw [if_neg hd]
              exact q1
    · cases hs
theorem kG_many : ∀ (n : Nat) {pc : Nat} {lv : jL} {st : List Value} {σ : kS} {pc1 : Nat} {lv1 : jL} {st1 : List Value} {σ1 : kS}, kmany T L xs d mi n pc lv st σ = some (pc1, lv1, st1, σ1) → kG T L xs d mi pc1 lv1 st1 σ1 r σ' → kG T L xs d mi pc lv st σ r σ'
  | 0, _, _, _, _, _, _, _, _, hs, g => by cases hs; exact g
  | n + 1, _, _, _, _, _, _, _, _, hs, g => by
    unfold kmany at hs
    split at hs
    · next pc2 lv2 st2 σ2 h1 => exact kG_one h1 (kG_many n hs g)
    · cases hs
theorem kG_ret {i : Instr} {len : Nat} (hi : jm_ins mi pc = some (i, len)) (hl : jlen i = 0 ∨ len = jlen i) (he : jend mi st i = some r) : kG T L xs d mi pc lv st σ r σ := fun h hE => ⟨h, jG_ret hi hl he, hE⟩
theorem kG_call {i : Instr} {len y : Nat} {as rest : List Value} {r1 : Option Value} {σ1 : kS} (hi : jm_ins mi pc = some (i, len)) (hl : jlen i = 0 ∨ len = jlen i) (he : jend mi st i = none) (hc : jcall (jm_own mi) st T i = some (y, as, rest)) (hy : y ≠ 0 ∧ y < jm_n ∧ (lg_sl as).length ≤ jm_maxL y)
    (hm : kM T L xs d y as σ r1 σ1) (g : kG T L xs (d + 1) mi (pc + 3) lv (r1.toList ++ rest) σ1 r σ') : kG T L xs (d + 1) mi pc lv st σ r σ' := by
  intro h hE
  obtain ⟨h1, q1, q2⟩ := hm h hE
  obtain ⟨h', g1, g2⟩ := g h1 q2
  exact ⟨h', jG_call hi hl he (kcall_ok hE hc) hy q1 g1, g2⟩
theorem kG_if {c : Bool} {p1 p2 : Nat} (ht : c = true → kG T L xs d mi p1 lv st σ r σ') (hf : c = false → kG T L xs d mi p2 lv st σ r σ') : kG T L xs d mi (if c = true then p1 else p2) lv st σ r σ' := by
  cases c with
  | true => exact ht rfl
  | false => exact hf rfl
theorem kG_iald {j : Int32} {a n : Nat} {g0 : Nat → Int32} {rest : List Value} (hi : jm_ins mi pc = some (.iaload, 1)) (ha : T[a]? = some (.inl (0, n, .inl g0))) (hj : jin j n = true) (g : kG T L xs (d + 1) mi (pc + 1) lv (.int (σ a j.toNatClampNeg) :: rest) σ r σ') : kG T L xs (d + 1) mi pc lv (.int j :: .ref a :: rest) σ r σ' :=
  kG_one (by unfold kone; rw [hi]; simp [jlen, kplain, jend, jcall, jA, kH, ha, hj]) g
theorem kG_bald {j : Int32} {a n : Nat} {g0 : Nat → Int32} {rest : List Value} (hi : jm_ins mi pc = some (.baload, 1)) (ha : T[a]? = some (.inl (1, n, .inl g0))) (hj : jin j n = true) (g : kG T L xs (d + 1) mi (pc + 1) lv (.int (σ a j.toNatClampNeg) :: rest) σ r σ') : kG T L xs (d + 1) mi pc lv (.int j :: .ref a :: rest) σ r σ' :=
  kG_one (by unfold kone; rw [hi]; simp [jlen, kplain, jend, jcall, jA, kH, ha, hj]) g
theorem kG_iast {x j : Int32} {a n : Nat} {g0 : Nat → Int32} {rest : List Value} (hi : jm_ins mi pc = some (.iastore, 1)) (ha : T[a]? = some (.inl (0, n, .inl g0))) (hj : jin j n = true) (g : kG T L xs (d + 1) mi (pc + 1) lv rest (va_up σ a (upd (σ a) j.toNatClampNeg x)) r σ') : kG T L xs (d + 1) mi pc lv (.int x :: .int j :: .ref a :: rest) σ r σ' :=
  kG_one (by unfold kone; rw [hi]; simp [jlen, kplain, jend, jcall, jA, kH, ha, hj]) g
theorem kG_bast {x j : Int32} {a n : Nat} {g0 : Nat → Int32} {rest : List Value} (hi : jm_ins mi pc = some (.bastore, 1)) (ha : T[a]? = some (.inl (1, n, .inl g0))) (hj : jin j n = true) (hx : x = 0 ∨ x = 1) (g : kG T L xs (d + 1) mi (pc + 1) lv rest (va_up σ a (upd (σ a) j.toNatClampNeg x)) r σ') : kG T L xs (d + 1) mi pc lv (.int x :: .int j :: .ref a :: rest) σ r σ' :=
  kG_one (by unfold kone; rw [hi]; simp [jlen, kplain, jend, jcall, jA, kH, ha, hj, hx]) g
theorem kG_aald {j : Int32} {a n t : Nat} {g0 : Nat → Option Nat} {rest : List Value} (hi : jm_ins mi pc = some (.aaload, 1)) (ha : T[a]? = some (.inl (t, n, .inr (.inr (.inr (.inr g0)))))) (h2 : 2 ≤ t) (ht : t < jm_nat) (hj : jin j n = true) (g : kG T L xs (d + 1) mi (pc + 1) lv (jrf (g0 j.toNatClampNeg) :: rest) σ r σ') : kG T L xs (d + 1) mi pc lv (.int j :: .ref a :: rest) σ r σ' :=
  kG_one (by unfold kone; rw [hi]; simp [jlen, kplain, jend, jcall, jA, kH, ha, hj, h2, ht]) g
end KG
