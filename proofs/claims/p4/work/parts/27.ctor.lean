/-! the two constructors, evaluated -/
def jnew (ci : Nat) : jC := .inr (ci, (List.range (jm_nf ci)).map (fun j => defaultValue (jm_ty ci j)))
def jcA : Option (Option Value × List jC) := qrun (fun _ => 1) jS0 0 (fun _ => 0) 20000 200 108 0 [(0, .ref 0)] [] [jnew 10]
def jcB (h : List jC) : Option (Option Value × List jC) := qrun (fun _ => 1) jS0 0 (fun _ => 0) 20000 200 144 0 [(0, .ref 232)] [] (h ++ [jnew 11])
def kshp (t c : jC) : Bool := match t, c with
  | .inr (ci, ts), .inr (ci', fs) => decide (ci' = ci) && decide (fs = ts)
  | .inl (t, n, .inl _), .inl (t', n', .inl _) => decide (t' = t) && decide (n' = n)
  | .inl (t, n, .inr (.inr (.inr (.inr g)))), .inl (t', n', .inr (.inr (.inr (.inr g')))) => decide (t' = t) && (decide (n' = n) && (List.range n).all (fun j => decide (g' j = g j)))
  | _, _ => false
def kcon (c : jC) (j : Nat) : Int32 := match c with
  | .inr (_, fs) => (match (fs[j]? : Option Value) with
    | some (.int x) => x
    | _ => 0)
  | .inl (_, _, .inl g) => g j
  | _ => 0
def kof (h : List jC) : kS := fun k j => match h[k]? with
  | some c => kcon c j
  | none => 0
theorem kself (fs : List Value) : fs = fs.mapIdx (kval (fun j => match (fs[j]? : Option Value) with | some (.int x) => x | _ => 0)) := by
  apply List.ext_getElem?
  intro k
  rw [List.getElem?_mapIdx]
  cases h : fs[k]? with
  | none => rfl
  | some v => cases v <;> simp [kval, h]
theorem kshp_ok {t c : jC} (h : kshp t c = true) : kR t c (kcon c) := by
  unfold kshp at h
  split at h
  · next ci ts ci' fs =>
    rw [Bool.and_eq_true] at h
    have h1 := of_decide_eq_true h.1
    have h2 := of_decide_eq_true h.2
    subst h1
    subst h2
    exact ⟨rfl, kself fs⟩
  · rw [Bool.and_eq_true] at h
    exact ⟨of_decide_eq_true h.1, of_decide_eq_true h.2, fun _ _ => rfl⟩
  · rw [Bool.and_eq_true, Bool.and_eq_true] at h
    exact ⟨of_decide_eq_true h.1, of_decide_eq_true h.2.1, fun j hj => of_decide_eq_true (List.all_eq_true.mp h.2.2 j (List.mem_range.mpr hj))⟩
  · cases h
def kshps : List jC → List jC → Bool
  | [], [] => true
  | t :: ts, c :: cs => kshp t c && kshps ts cs
  | _, _ => false
theorem kshps_ok : ∀ (T h : List jC), kshps T h = true → kE T (kof h) h := by
  have key : ∀ (T h : List jC), kshps T h = true → ∀ (k : Nat) (t : jC), T[k]? = some t → ∃ c, h[k]? = some c ∧ kshp t c = true := by
    intro T
    induction T with
    | nil => intro h _ k t hk; simp at hk
    | cons t0 T ih =>
      intro h hs k t hk
      cases h with
      | nil => cases hs
      | cons c0 h =>
        unfold kshps at hs
        rw [Bool.and_eq_true] at hs
        cases k with
        | zero =>
          simp at hk
          subst hk
          exact ⟨c0, rfl, hs.1⟩
        | succ k =>
          simp at hk
          obtain ⟨c, h1, h2⟩ := ih h hs.2 k t hk
          exact ⟨c, by simpa using h1, h2⟩
  have len : ∀ (T h : List jC), kshps T h = true → h.length = T.length := by
    intro T
    induction T with
    | nil =>
      intro h hs
      cases h with
      | nil => rfl
      | cons c h => cases hs
    | cons t T ih =>
      intro h hs
      cases h with
      | nil => cases hs
      | cons c h =>
        unfold kshps at hs
        rw [Bool.and_eq_true] at hs
        simp [ih h hs.2]
  intro T h hs
  refine ⟨len T h hs, ?_⟩
  intro k t hk
  obtain ⟨c, h1, h2⟩ := key T h hs k t hk
  refine ⟨c, h1, ?_⟩
  have : kof h k = kcon c := by
    funext j
    unfold kof
    rw [h1]
  rw [this]
  exact kshp_ok h2
/-- of the contents: the heads of chains -/
def khd (h : List jC) (k n : Nat) : Bool := match h[k]? with
  | some c => (List.range n).all (fun j => decide (kcon c j = -1))
  | none => false
