/-! triples: from here, over the fixed shape, the method ends with an answer and contents of which Q holds -/
def kX (T : List jC) (L : Nat) (xs : Nat → Int32) (d mi pc : Nat) (lv : jL) (st : List Value) (σ : kS) (Q : Option Value → kS → Prop) : Prop := ∀ h, kE T σ h → ∃ r σ' h', jG L xs d mi pc lv st h (r, h') ∧ kE T σ' h' ∧ Q r σ'
def kXM (T : List jC) (L : Nat) (xs : Nat → Int32) (d y : Nat) (as : List Value) (σ : kS) (Q : Option Value → kS → Prop) : Prop := kX T L xs d y 0 (lv_args 0 as) [] σ Q
def kyok (y : Nat) (as : List Value) : Bool := decide (y ≠ 0) && (decide (y < jm_n) && decide ((lg_sl as).length ≤ jm_maxL y))
theorem kyok_ok {y : Nat} {as : List Value} (h : kyok y as = true) : y ≠ 0 ∧ y < jm_n ∧ (lg_sl as).length ≤ jm_maxL y := by
  unfold kyok at h
  rw [Bool.and_eq_true, Bool.and_eq_true] at h
  exact ⟨of_decide_eq_true h.1, of_decide_eq_true h.2.1, of_decide_eq_true h.2.2⟩
section KX
variable {T : List jC} {L : Nat} {xs : Nat → Int32} {d mi pc : Nat} {lv : jL} {st : List Value} {σ : kS} {Q : Option Value → kS → Prop}
theorem kX_one {pc1 : Nat} {lv1 : jL} {st1 : List Value} {σ1 : kS} (hs : kone T L xs d mi pc lv st σ = some (pc1, lv1, st1, σ1)) (g : kX T L xs d mi pc1 lv1 st1 σ1 Q) : kX T L xs d mi pc lv st σ Q := by
  intro h hE
  unfold kone at hs
  split at hs
  · cases hs
  · next i len hi =>
    split at hs
    · next hl =>
      split at hs
      · cases hs
      · next he =>
        split at hs
        · cases hs
        · next hc =>
          have hcn := kcall_none hE hl.2 hc
          split at hs
          · next pc2 lv2 st2 hA =>
            cases hs
            obtain ⟨r, σ', h', g1, g2⟩ := g h hE
            refine ⟨r, σ', h', jG_step hi hl.1 he hcn ?_ g1, g2⟩
            unfold jstep
            rw [hA]
          · next hA =>
            split at hs
            · cases hs
            · next hd =>
              obtain ⟨h1, q1, q2⟩ := kH_ok (ini := jm_ini mi) hE hs
              obtain ⟨r, σ', h', g1, g2⟩ := g h1 q2
              refine ⟨r, σ', h', jG_step hi hl.1 he hcn ?_ g1, g2⟩
              unfold jstep
              rw [hA]
              dsimp only
              rw [if_neg hd]
              exact q1
    · cases hs
theorem kX_ret {i : Instr} {len : Nat} {r : Option Value} (hi : jm_ins mi pc = some (i, len)) (hl : jlen i = 0 ∨ len = jlen i) (he : jend mi st i = some r) (hq : Q r σ) : kX T L xs d mi pc lv st σ Q := fun h hE => ⟨r, σ, h, jG_ret hi hl he, hE, hq⟩
theorem kX_cal {i : Instr} {len y : Nat} {as rest : List Value} {Q1 : Option Value → kS → Prop} (hm : kXM T L xs d y as σ Q1) (hi : jm_ins mi pc = some (i, len)) (hl : jlen i = 0 ∨ len = jlen i) (he : jend mi st i = none) (hc : jcall (jm_own mi) st T i = some (y, as, rest)) (hy : kyok y as = true)
    (g : ∀ r1 σ1, Q1 r1 σ1 → kX T L xs (d + 1) mi (pc + 3) lv (r1.toList ++ rest) σ1 Q) : kX T L xs (d + 1) mi pc lv st σ Q := by
  intro h hE
  obtain ⟨r1, σ1, h1, q1, q2, q3⟩ := hm h hE
  obtain ⟨r, σ', h', g1, g2⟩ := g r1 σ1 q3 h1 q2
  exact ⟨r, σ', h', jG_call hi hl he (kcall_ok hE hc) (kyok_ok hy) q1 g1, g2⟩
theorem kX_if {c : Bool} {p1 p2 : Nat} (ht : c = true → kX T L xs d mi p1 lv st σ Q) (hf : c = false → kX T L xs d mi p2 lv st σ Q) : kX T L xs d mi (if c = true then p1 else p2) lv st σ Q := by
  cases c with
  | true => exact ht rfl
  | false => exact hf rfl
theorem kX_post {Q1 : Option Value → kS → Prop} (g : kX T L xs d mi pc lv st σ Q1) (hq : ∀ r σ', Q1 r σ' → Q r σ') : kX T L xs d mi pc lv st σ Q := by
  intro h hE
  obtain ⟨r, σ', h', g1, g2, g3⟩ := g h hE
  exact ⟨r, σ', h', g1, g2, hq _ _ g3⟩
theorem kX_iald {j : Int32} {a n : Nat} {g0 : Nat → Int32} {rest : List Value} (hi : jm_ins mi pc = some (.iaload, 1)) (ha : T[a]? = some (.inl (0, n, .inl g0))) (hj : jin j n = true) (g : kX T L xs (d + 1) mi (pc + 1) lv (.int (σ a j.toNatClampNeg) :: rest) σ Q) : kX T L xs (d + 1) mi pc lv (.int j :: .ref a :: rest) σ Q :=
  kX_one (by unfold kone; rw [hi]; simp [jlen, kplain, jend, jcall, jA, kH, ha, hj]) g
theorem kX_bald {j : Int32} {a n : Nat} {g0 : Nat → Int32} {rest : List Value} (hi : jm_ins mi pc = some (.baload, 1)) (ha : T[a]? = some (.inl (1, n, .inl g0))) (hj : jin j n = true) (g : kX T L xs (d + 1) mi (pc + 1) lv (.int (σ a j.toNatClampNeg) :: rest) σ Q) : kX T L xs (d + 1) mi pc lv (.int j :: .ref a :: rest) σ Q :=
  kX_one (by unfold kone; rw [hi]; simp [jlen, kplain, jend, jcall, jA, kH, ha, hj]) g
theorem kX_iast {x j : Int32} {a n : Nat} {g0 : Nat → Int32} {rest : List Value} (hi : jm_ins mi pc = some (.iastore, 1)) (ha : T[a]? = some (.inl (0, n, .inl g0))) (hj : jin j n = true) (g : kX T L xs (d + 1) mi (pc + 1) lv rest (va_up σ a (upd (σ a) j.toNatClampNeg x)) Q) : kX T L xs (d + 1) mi pc lv (.int x :: .int j :: .ref a :: rest) σ Q :=
  kX_one (by unfold kone; rw [hi]; simp [jlen, kplain, jend, jcall, jA, kH, ha, hj]) g
theorem kX_bast {x j : Int32} {a n : Nat} {g0 : Nat → Int32} {rest : List Value} (hi : jm_ins mi pc = some (.bastore, 1)) (ha : T[a]? = some (.inl (1, n, .inl g0))) (hj : jin j n = true) (hx : x = 0 ∨ x = 1) (g : kX T L xs (d + 1) mi (pc + 1) lv rest (va_up σ a (upd (σ a) j.toNatClampNeg x)) Q) : kX T L xs (d + 1) mi pc lv (.int x :: .int j :: .ref a :: rest) σ Q :=
  kX_one (by unfold kone; rw [hi]; simp [jlen, kplain, jend, jcall, jA, kH, ha, hj, hx]) g
theorem kX_aald {j : Int32} {a n t : Nat} {g0 : Nat → Option Nat} {rest : List Value} (hi : jm_ins mi pc = some (.aaload, 1)) (ha : T[a]? = some (.inl (t, n, .inr (.inr (.inr (.inr g0)))))) (h2 : 2 ≤ t) (ht : t < jm_nat) (hj : jin j n = true) (g : kX T L xs (d + 1) mi (pc + 1) lv (jrf (g0 j.toNatClampNeg) :: rest) σ Q) : kX T L xs (d + 1) mi pc lv (.int j :: .ref a :: rest) σ Q :=
  kX_one (by unfold kone; rw [hi]; simp [jlen, kplain, jend, jcall, jA, kH, ha, hj, h2, ht]) g
end KX
theorem kX_fill {T : List jC} (L : Nat) (xs : Nat → Int32) (d : Nat) {a n : Nat} {g0 : Nat → Int32} (v : Int32) (σ : kS) (ha : T[a]? = some (.inl (0, n, .inl g0))) (hn : n < 2 ^ 31) : kXM T L xs (d + 1) 227 [.ref a, .int v] σ (fun r σ' => r = none ∧ σ' = va_up σ a (fun j => if j < n then v else σ a j)) := by
  intro h hE
  obtain ⟨g, h0, hg⟩ := hE.arr ha
  refine ⟨none, _, _, jfill_ok L xs d a n v g h hn h0, hE.set ha ⟨rfl, rfl, fun j hj => ?_⟩, rfl, rfl⟩
  show (if j < n then v else g j) = (if j < n then v else σ a j)
  rw [if_pos hj, if_pos hj]
/-- a switch whose number is outside -/
theorem kX_tabO {T : List jC} {L : Nat} {xs : Nat → Int32} {d mi pc : Nat} {lv : jL} {rest : List Value} {σ : kS} {Q : Option Value → kS → Prop} {dflt lo hi : Int} {offs : Array Int} {len t : Nat} {x : Int32} (hi' : jm_ins mi pc = some (.tableswitch dflt lo hi offs, len)) (ho : x.toInt < lo ∨ hi < x.toInt) (ht : jt pc dflt = some t) (g : kX T L xs d mi t lv rest σ Q) : kX T L xs d mi pc lv (.int x :: rest) σ Q :=
  kX_one (by unfold kone; rw [hi']; simp [jlen, kplain, jend, jcall, jA, jgo, ho, ht]) g
theorem kp_out {w : Int32} (n : Nat) (h : ∀ k, k < n → w ≠ nI k) (hn : n < 2 ^ 31) : w.toInt < 0 ∨ (n : Int) - 1 < w.toInt := by
  rcases pk_ix w hn with h1 | h1 | ⟨j, h1, h2⟩
  · left
    have := Int32.lt_iff_toInt_lt.mp h1
    simpa using this
  · right
    have := Int32.le_iff_toInt_le.mp h1
    rw [nI_toInt hn] at this
    omega
  · exact absurd h2 (h j h1)
