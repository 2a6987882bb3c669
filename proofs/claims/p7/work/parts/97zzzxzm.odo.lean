/-! alike: the ways, one after another -/
/-- the way i: which option each VARIABLE has -/
def dg : List Nat → Nat → List Nat
  | [], _ => []
  | _ :: cs, i => i / wyN cs :: dg cs (i % wyN cs)
theorem dg_len : ∀ (cs : List Nat) (i : Nat), (dg cs i).length = cs.length
  | [], _ => rfl
  | c :: cs, i => by
    unfold dg
    rw [List.length_cons, List.length_cons, dg_len cs]
theorem wyN_pos : ∀ {cs : List Nat}, (∀ c ∈ cs, 0 < c) → 0 < wyN cs
  | [], _ => by decide
  | c :: cs, h => Nat.mul_pos (h c (by simp)) (wyN_pos (fun x hx => h x (List.mem_cons_of_mem _ hx)))
theorem wyN_0 : ∀ {cs : List Nat}, 0 < wyN cs → ∀ c ∈ cs, 0 < c
  | [], _, c, hc => absurd hc List.not_mem_nil
  | a :: cs, h, c, hc => by
    have h1 : 0 < a * wyN cs := h
    have ha : 0 < a := Nat.pos_of_ne_zero (fun e => by rw [e, Nat.zero_mul] at h1; omega)
    have hw : 0 < wyN cs := Nat.pos_of_ne_zero (fun e => by rw [e, Nat.mul_zero] at h1; omega)
    rcases List.mem_cons.mp hc with rfl | q
    · exact ha
    · exact wyN_0 hw c q
theorem dg_lt : ∀ (cs : List Nat) (i : Nat), i < wyN cs → ∀ j (h : j < cs.length), (dg cs i)[j]'(by rw [dg_len]; exact h) < cs[j]'h
  | [], _, _, j, h => absurd h (Nat.not_lt_zero j)
  | c :: cs, i, hi, j, h => by
    have hi : i < c * wyN cs := hi
    have hw : 0 < wyN cs := Nat.pos_of_ne_zero (fun e => by rw [e, Nat.mul_zero] at hi; omega)
    cases j with
    | zero =>
      show i / wyN cs < c
      rw [Nat.div_lt_iff_lt_mul hw]
      exact hi
    | succ j =>
      show (dg cs (i % wyN cs))[j]'_ < cs[j]'_
      exact dg_lt cs _ (Nat.mod_lt _ hw) j (by simpa using h)
theorem dg_0 : ∀ (cs : List Nat) j (h : j < cs.length), (dg cs 0)[j]'(by rw [dg_len]; exact h) = 0
  | [], j, h => absurd h (Nat.not_lt_zero j)
  | c :: cs, j, h => by
    cases j with
    | zero =>
      show 0 / wyN cs = 0
      exact Nat.zero_div _
    | succ j =>
      show (dg cs (0 % wyN cs))[j]'_ = 0
      have := dg_0 cs j (by simpa using h)
      simpa [Nat.zero_mod] using this
theorem dg_max : ∀ (cs : List Nat), 0 < wyN cs → ∀ j (h : j < cs.length), (dg cs (wyN cs - 1))[j]'(by rw [dg_len]; exact h) + 1 = cs[j]'h
  | [], _, j, h => absurd h (Nat.not_lt_zero j)
  | c :: cs, hp, j, h => by
    have hp' : 0 < c * wyN cs := hp
    have hw : 0 < wyN cs := Nat.pos_of_ne_zero (fun e => by rw [e, Nat.mul_zero] at hp'; omega)
    have hc : 0 < c := Nat.pos_of_ne_zero (fun e => by rw [e, Nat.zero_mul] at hp'; omega)
    obtain ⟨c', rfl⟩ : ∃ c', c = c' + 1 := ⟨c - 1, by omega⟩
    have e : (c' + 1) * wyN cs - 1 = wyN cs * c' + (wyN cs - 1) := by
      rw [Nat.succ_mul, Nat.mul_comm c']
      omega
    cases j with
    | zero =>
      show ((c' + 1) * wyN cs - 1) / wyN cs + 1 = c' + 1
      rw [e, Nat.mul_add_div hw, Nat.div_eq_of_lt (by omega)]
    | succ j =>
      show (dg cs (((c' + 1) * wyN cs - 1) % wyN cs))[j]'_ + 1 = cs[j]'_
      have e2 : ((c' + 1) * wyN cs - 1) % wyN cs = wyN cs - 1 := by
        rw [e, Nat.mul_add_mod, Nat.mod_eq_of_lt (by omega)]
      have := dg_max cs hw j (by simpa using h)
      simp only [e2]
      exact this
/-- from one way to the next -/
theorem odo : ∀ (cs : List Nat) (i : Nat), i + 1 < wyN cs → ∃ j, ∃ (h : j < cs.length), (dg cs i)[j]'(by rw [dg_len]; exact h) + 1 < cs[j]'h ∧ (dg cs (i + 1))[j]'(by rw [dg_len]; exact h) = (dg cs i)[j]'(by rw [dg_len]; exact h) + 1 ∧ (∀ j' (h' : j' < cs.length), j' < j → (dg cs (i + 1))[j']'(by rw [dg_len]; exact h') = (dg cs i)[j']'(by rw [dg_len]; exact h')) ∧ ∀ j' (h' : j' < cs.length), j < j' → (dg cs i)[j']'(by rw [dg_len]; exact h') + 1 = cs[j']'h' ∧ (dg cs (i + 1))[j']'(by rw [dg_len]; exact h') = 0
  | [], i, h => by
    have h : i + 1 < 1 := h
    omega
  | c :: cs, i, h => by
    have h : i + 1 < c * wyN cs := h
    have hw : 0 < wyN cs := Nat.pos_of_ne_zero (fun e => by rw [e, Nat.mul_zero] at h; omega)
    have hr := Nat.mod_lt i hw
    have hdm := Nat.div_add_mod i (wyN cs)
    by_cases hc : i % wyN cs + 1 < wyN cs
    · have e1 : (i + 1) / wyN cs = i / wyN cs := by
        have : i + 1 = wyN cs * (i / wyN cs) + (i % wyN cs + 1) := by omega
        rw [this, Nat.mul_add_div hw, Nat.div_eq_of_lt hc]
        omega
      have e2 : (i + 1) % wyN cs = i % wyN cs + 1 := by
        have : i + 1 = wyN cs * (i / wyN cs) + (i % wyN cs + 1) := by omega
        rw [this, Nat.mul_add_mod, Nat.mod_eq_of_lt hc]
      obtain ⟨j, hj, a1, a2, a3, a4⟩ := odo cs (i % wyN cs) hc
      refine ⟨j + 1, by simp only [List.length_cons]; omega, a1, ?_, fun j' h' hj' => ?_, fun j' h' hj' => ?_⟩
      · show (dg cs ((i + 1) % wyN cs))[j]'_ = _
        simp only [e2]
        exact a2
      · cases j' with
        | zero =>
          show (i + 1) / wyN cs = i / wyN cs
          exact e1
        | succ j' =>
          show (dg cs ((i + 1) % wyN cs))[j']'_ = (dg cs (i % wyN cs))[j']'_
          simp only [e2]
          exact a3 j' (by simpa using h') (by omega)
      · cases j' with
        | zero => omega
        | succ j' =>
          obtain ⟨b1, b2⟩ := a4 j' (by simpa using h') (by omega)
          refine ⟨b1, ?_⟩
          show (dg cs ((i + 1) % wyN cs))[j']'_ = 0
          simp only [e2]
          exact b2
    · have hrm : i % wyN cs = wyN cs - 1 := by omega
      have e0 : i + 1 = wyN cs * (i / wyN cs + 1) := by
        rw [Nat.mul_add, Nat.mul_one]
        omega
      have e1 : (i + 1) / wyN cs = i / wyN cs + 1 := by rw [e0, Nat.mul_div_cancel_left _ hw]
      have e2 : (i + 1) % wyN cs = 0 := by rw [e0, Nat.mul_mod_right]
      refine ⟨0, by simp, ?_, ?_, fun j' h' hj' => absurd hj' (Nat.not_lt_zero j'), fun j' h' hj' => ?_⟩
      · show i / wyN cs + 1 < c
        rw [← e1, Nat.div_lt_iff_lt_mul hw]
        exact h
      · exact e1
      · cases j' with
        | zero => omega
        | succ j' =>
          refine ⟨?_, ?_⟩
          · show (dg cs (i % wyN cs))[j']'_ + 1 = cs[j']'_
            simp only [hrm]
            exact dg_max cs hw j' (by simpa using h')
          · show (dg cs ((i + 1) % wyN cs))[j']'_ = 0
            simp only [e2]
            exact dg_0 cs j' (by simpa using h')
