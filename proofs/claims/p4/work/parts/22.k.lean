/-! the interpreter over a fixed shape: which cells there are, and their references, is T; σ k j is the int at place j of cell k -/
abbrev kS : Type := Nat → Nat → Int32
def kval (f : Nat → Int32) (j : Nat) (v : Value) : Value := match v with
  | .int _ => .int (f j)
  | v => v
def kR (t c : jC) (f : Nat → Int32) : Prop := match t, c with
  | .inr (ci, ts), .inr (ci', fs) => ci' = ci ∧ fs = ts.mapIdx (kval f)
  | .inl (t, n, .inl _), .inl (t', n', .inl g) => t' = t ∧ n' = n ∧ ∀ j, j < n → g j = f j
  | .inl (t, n, .inr (.inr (.inr (.inr g)))), .inl (t', n', .inr (.inr (.inr (.inr g')))) => t' = t ∧ n' = n ∧ ∀ j, j < n → g' j = g j
  | _, _ => False
def kE (T : List jC) (σ : kS) (h : List jC) : Prop := h.length = T.length ∧ ∀ (k : Nat) (t : jC), T[k]? = some t → ∃ c, h[k]? = some c ∧ kR t c (σ k)
theorem kE.set {T : List jC} {σ : kS} {h : List jC} (hE : kE T σ h) {a : Nat} {t c : jC} {f : Nat → Int32} (ha : T[a]? = some t) (hR : kR t c f) : kE T (va_up σ a f) (h.set a c) := by
  refine ⟨by rw [List.length_set]; exact hE.1, ?_⟩
  intro k t' hk
  obtain ⟨c0, h0, hr⟩ := hE.2 k t' hk
  by_cases e : k = a
  · subst e
    cases ha.symm.trans hk
    exact ⟨c, List.getElem?_set_self (List.getElem?_eq_some_iff.mp h0).1, by simp [va_up]; exact hR⟩
  · exact ⟨c0, by rw [List.getElem?_set_ne (Ne.symm e)]; exact h0, by simp [va_up, e]; exact hr⟩
theorem kE.obj {T : List jC} {σ : kS} {h : List jC} (hE : kE T σ h) {a ci : Nat} {ts : List Value} (ha : T[a]? = some (.inr (ci, ts))) : h[a]? = some (.inr (ci, ts.mapIdx (kval (σ a)))) := by
  obtain ⟨c, h0, hr⟩ := hE.2 a _ ha
  obtain q | ⟨ci', fs⟩ := c
  · exact hr.elim
  · obtain ⟨rfl, rfl⟩ := hr
    exact h0
theorem kE.arr {T : List jC} {σ : kS} {h : List jC} (hE : kE T σ h) {a t n : Nat} {g0 : Nat → Int32} (ha : T[a]? = some (.inl (t, n, .inl g0))) : ∃ g, h[a]? = some (.inl (t, n, .inl g)) ∧ ∀ j, j < n → g j = σ a j := by
  obtain ⟨c, h0, hr⟩ := hE.2 a _ ha
  obtain ⟨t', n', g | g | g | g | g⟩ | q := c
  · obtain ⟨rfl, rfl, hg⟩ := hr
    exact ⟨g, h0, hg⟩
  all_goals exact hr.elim
theorem kE.refs {T : List jC} {σ : kS} {h : List jC} (hE : kE T σ h) {a t n : Nat} {g0 : Nat → Option Nat} (ha : T[a]? = some (.inl (t, n, .inr (.inr (.inr (.inr g0)))))) : ∃ g, h[a]? = some (.inl (t, n, .inr (.inr (.inr (.inr g))))) ∧ ∀ j, j < n → g j = g0 j := by
  obtain ⟨c, h0, hr⟩ := hE.2 a _ ha
  obtain ⟨t', n', g | g | g | g | g⟩ | q := c
  · exact hr.elim
  · exact hr.elim
  · exact hr.elim
  · exact hr.elim
  · obtain ⟨rfl, rfl, hg⟩ := hr
    exact ⟨g, h0, hg⟩
  · exact hr.elim
theorem kmap_set {ts : List Value} {f : Nat → Int32} {j : Nat} {x y : Int32} (h : ts[j]? = some (.int y)) : (ts.mapIdx (kval f)).set j (.int x) = ts.mapIdx (kval (upd f j x)) := by
  apply List.ext_getElem?
  intro k
  rw [List.getElem?_mapIdx]
  by_cases e : k = j
  · subst e
    rw [List.getElem?_set_self (by rw [List.length_mapIdx]; exact (List.getElem?_eq_some_iff.mp h).1), h]
    simp [kval, upd]
  · rw [List.getElem?_set_ne (Ne.symm e), List.getElem?_mapIdx]
    cases ts[k]? with
    | none => rfl
    | some v => cases v <;> simp [kval, upd, e]
theorem kR_sz {t c : jC} {f : Nat → Int32} (h : kR t c f) : jsz c = jsz t := by
  obtain ⟨t, n, g | g | g | g | g⟩ | ⟨ci, ts⟩ := t <;> obtain ⟨t', n', g' | g' | g' | g' | g'⟩ | ⟨ci', fs⟩ := c <;> first | exact h.elim | skip
  · exact h.2.1
  · exact h.2.1
  · obtain ⟨-, rfl⟩ := h
    exact List.length_mapIdx
theorem kE.sl {T : List jC} {σ : kS} {h : List jC} (hE : kE T σ h) : jsl h = jsl T := by
  have : h.map jsz = T.map jsz := by
    apply List.ext_getElem?
    intro k
    rw [List.getElem?_map, List.getElem?_map]
    cases hk : T[k]? with
    | none =>
      have h1 : T.length ≤ k := List.getElem?_eq_none_iff.mp hk
      rw [List.getElem?_eq_none (by rw [hE.1]; exact h1)]
    | some t =>
      obtain ⟨c, h0, hr⟩ := hE.2 k t hk
      rw [h0]
      show some (jsz c) = some (jsz t)
      rw [kR_sz hr]
  unfold jsl
  rw [this]
abbrev kQ : Type := Option (Nat × jL × List Value × kS)
def kH (T : List jC) (L : Nat) (xs : Nat → Int32) (isLaw : Bool) (k pc : Nat) (lv : jL) (st : List Value) (σ : kS) (i : Instr) : kQ := match i with
  | .getfield idx => match st with
    | .ref a :: st => match jm_fld k idx, T[a]? with
      | some (ci, f), some (.inr (ci', ts)) => if ci = ci' then (match ts[f]? with
          | some v => some (pc + 3, lv, kval (σ a) f v :: st, σ)
          | none => none) else none
      | _, _ => none
    | _ => none
  | .putfield idx => match st with
    | .int x :: .ref a :: st => match jm_fld k idx, T[a]? with
      | some (ci, f), some (.inr (ci', ts)) => (match ts[f]? with
          | some (.int _) => if ci = ci' ∧ jfit (jm_ty ci f) (.int x) = true ∧ jm_fin ci f = false then some (pc + 3, lv, st, va_up σ a (upd (σ a) f x)) else none
          | _ => none)
      | _, _ => none
    | _ => none
  | .iaload => match st with
    | .int j :: .ref a :: st => match T[a]? with
      | some (.inl (t, n, .inl _)) => if t = 0 ∧ jin j n = true then some (pc + 1, lv, .int (σ a j.toNatClampNeg) :: st, σ) else none
      | _ => none
    | .int j :: .retAddr _ :: st => if isLaw = true ∧ jin j L = true then some (pc + 1, lv, .int (xs j.toNatClampNeg) :: st, σ) else none
    | _ => none
  | .baload => match st with
    | .int j :: .ref a :: st => match T[a]? with
      | some (.inl (t, n, .inl _)) => if t = 1 ∧ jin j n = true then some (pc + 1, lv, .int (σ a j.toNatClampNeg) :: st, σ) else none
      | _ => none
    | _ => none
  | .aaload => match st with
    | .int j :: .ref a :: st => match T[a]? with
      | some (.inl (t, n, .inr (.inr (.inr (.inr f))))) => if 2 ≤ t ∧ t < jm_nat ∧ jin j n = true then some (pc + 1, lv, jrf (f j.toNatClampNeg) :: st, σ) else none
      | _ => none
    | _ => none
  | .arraylength => match st with
    | .ref a :: st => match T[a]? with
      | some (.inl (t, n, .inl _)) => if t < jm_nat then some (pc + 1, lv, .int (Int32.ofNat n) :: st, σ) else none
      | _ => none
    | .retAddr _ :: st => if isLaw = true then some (pc + 1, lv, .int (Int32.ofNat L) :: st, σ) else none
    | _ => none
  | .iastore => match st with
    | .int x :: .int j :: .ref a :: st => match T[a]? with
      | some (.inl (t, n, .inl _)) => if t = 0 ∧ jin j n = true then some (pc + 1, lv, st, va_up σ a (upd (σ a) j.toNatClampNeg x)) else none
      | _ => none
    | _ => none
  | .bastore => match st with
    | .int x :: .int j :: .ref a :: st => match T[a]? with
      | some (.inl (t, n, .inl _)) => if t = 1 ∧ jin j n = true ∧ (x = 0 ∨ x = 1) then some (pc + 1, lv, st, va_up σ a (upd (σ a) j.toNatClampNeg x)) else none
      | _ => none
    | _ => none
  | .invokestatic idx => match jm_mm k idx with
    | some v => (match st with
      | .int y :: .int x :: st => if (st.map fun v => v.category).sum ≤ 8 ∧ (v = 2 → y ≠ 0) then some (pc + 3, lv, .int (jmmv v x y) :: st, σ) else none
      | _ => none)
    | none => match st with
    | .int n :: .int dp :: .ref a :: .int sp :: .ref a0 :: st => match jm_ac k idx, T[a0]?, T[a]? with
      | true, some (.inl (t0, n0, .inl _)), some (.inl (t1, n1, .inl _)) => if t0 = 0 ∧ t1 = 0 ∧ ¬ sp < 0 ∧ ¬ dp < 0 ∧ ¬ n < 0 ∧ sp.toNatClampNeg + n.toNatClampNeg ≤ n0 ∧ dp.toNatClampNeg + n.toNatClampNeg ≤ n1 ∧ (st.map fun v => v.category).sum ≤ 8 then
          some (pc + 3, lv, st, va_up σ a (va_cpy (σ a0) (σ a) sp.toNatClampNeg dp.toNatClampNeg n.toNatClampNeg)) else none
      | _, _, _ => none
    | _ => none
  | _ => none
set_option maxHeartbeats 4000000 in
theorem kH_ok {T : List jC} {L : Nat} {xs : Nat → Int32} {il ini : Bool} {k pc : Nat} {lv : jL} {st : List Value} {σ : kS} {i : Instr} {r : Nat × jL × List Value × kS} {h : List jC} (hE : kE T σ h) (hs : kH T L xs il k pc lv st σ i = some r) : ∃ h', jH L xs il ini k pc lv st h i = some (r.1, r.2.1, r.2.2.1, h') ∧ kE T r.2.2.2 h' := by
  cases i with
  | getfield idx =>
    simp only [kH] at hs
    split at hs
    · split at hs
      · next ci f ci' ts hf ha =>
        split at hs
        · next he =>
          split at hs
          · next v hv =>
            cases hs
            refine ⟨h, ?_, hE⟩
            have := hE.obj ha
            simp only [jH, hf, this, if_pos he, List.getElem?_mapIdx, hv]
            rfl
          · cases hs
        · cases hs
      · cases hs
    · cases hs
  | putfield idx =>
    simp only [kH] at hs
    split at hs
    · next x a st =>
      split at hs
      · next ci f ci' ts hf ha =>
        split at hs
        · next y hv =>
          split at hs
          · next he =>
            obtain ⟨rfl, h1, h2⟩ := he
            cases hs
            have hob := hE.obj ha
            refine ⟨h.set a (.inr (ci, (ts.mapIdx (kval (σ a))).set f (.int x))), ?_, hE.set ha ⟨rfl, kmap_set hv⟩⟩
            simp only [jH, hf, hob, h1, h2, List.length_mapIdx]
            rw [if_pos ⟨trivial, (List.getElem?_eq_some_iff.mp hv).1, trivial, Or.inl trivial⟩]
            rfl
          · cases hs
        · cases hs
      · cases hs
    · cases hs
  | iaload =>
    simp only [kH] at hs
    split at hs
    · split at hs
      · next t n g0 ha =>
        split at hs
        · next he =>
          cases hs
          obtain ⟨g, h0, hg⟩ := hE.arr ha
          refine ⟨h, ?_, hE⟩
          simp only [jH, h0, if_pos he]
          rw [hg _ (Nat.not_le.mp fun q => jin_spec he.2 (Or.inr q))]
        · cases hs
      · cases hs
    · split at hs
      · next he =>
        cases hs
        refine ⟨h, ?_, hE⟩
        simp only [jH, if_pos he]
      · cases hs
    · cases hs
  | baload =>
    simp only [kH] at hs
    split at hs
    · split at hs
      · next t n g0 ha =>
        split at hs
        · next he =>
          cases hs
          obtain ⟨g, h0, hg⟩ := hE.arr ha
          refine ⟨h, ?_, hE⟩
          simp only [jH, h0, if_pos he]
          rw [hg _ (Nat.not_le.mp fun q => jin_spec he.2 (Or.inr q))]
        · cases hs
      · cases hs
    · cases hs
  | aaload =>
    simp only [kH] at hs
    split at hs
    · split at hs
      · next t n g0 ha =>
        split at hs
        · next he =>
          cases hs
          obtain ⟨g, h0, hg⟩ := hE.refs ha
          refine ⟨h, ?_, hE⟩
          simp only [jH, h0, if_pos he]
          rw [hg _ (Nat.not_le.mp fun q => jin_spec he.2.2 (Or.inr q))]
        · cases hs
      · cases hs
    · cases hs
  | arraylength =>
    simp only [kH] at hs
    split at hs
    · split at hs
      · next t n g0 ha =>
        split at hs
        · next he =>
          cases hs
          obtain ⟨g, h0, hg⟩ := hE.arr ha
          refine ⟨h, ?_, hE⟩
          simp only [jH, h0, if_pos he]
        · cases hs
      · cases hs
    · split at hs
      · next he =>
        cases hs
        refine ⟨h, ?_, hE⟩
        simp only [jH, if_pos he]
      · cases hs
    · cases hs
  | iastore =>
    simp only [kH] at hs
    split at hs
    · next x j a st =>
      split at hs
      · next t n g0 ha =>
        split at hs
        · next he =>
          cases hs
          obtain ⟨g, h0, hg⟩ := hE.arr ha
          refine ⟨h.set a (.inl (t, n, .inl (upd g j.toNatClampNeg x))), ?_, hE.set ha ⟨rfl, rfl, fun i hi => ?_⟩⟩
          · simp only [jH, h0, if_pos he]
            rfl
          · unfold upd
            split
            · rfl
            · exact hg i hi
        · cases hs
      · cases hs
    · cases hs
  | bastore =>
    simp only [kH] at hs
    split at hs
    · next x j a st =>
      split at hs
      · next t n g0 ha =>
        split at hs
        · next he =>
          cases hs
          obtain ⟨g, h0, hg⟩ := hE.arr ha
          refine ⟨h.set a (.inl (t, n, .inl (upd g j.toNatClampNeg x))), ?_, hE.set ha ⟨rfl, rfl, fun i hi => ?_⟩⟩
          · simp only [jH, h0, if_pos he]
            rfl
          · unfold upd
            split
            · rfl
            · exact hg i hi
        · cases hs
      · cases hs
    · cases hs
  | invokestatic idx =>
    simp only [kH] at hs
    split at hs
    · next v hv =>
      split at hs
      · split at hs
        · next he =>
          cases hs
          refine ⟨h, ?_, hE⟩
          simp only [jH, hv, if_pos he]
        · cases hs
      · cases hs
    · next hnm =>
      split at hs
      · next n dp a sp a0 st =>
        split at hs
        · next t0 n0 g1 t1 n1 g2 ho ha0 ha =>
          split at hs
          · next he =>
            cases hs
            obtain ⟨f, h0, hf⟩ := hE.arr ha0
            obtain ⟨g, h1, hg⟩ := hE.arr ha
            refine ⟨h.set a (.inl (t1, n1, .inl (va_cpy f g sp.toNatClampNeg dp.toNatClampNeg n.toNatClampNeg))), ?_, hE.set ha ⟨rfl, rfl, fun i hi => ?_⟩⟩
            · simp only [jH, hnm, ho, h0, h1, if_pos he]
              rfl
            · unfold va_cpy
              split
              · next hi2 => exact hf _ (by omega)
              · exact hg i hi
          · cases hs
        · cases hs
      · cases hs
  | _ => cases hs
