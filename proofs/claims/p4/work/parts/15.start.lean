theorem jst_arr {s : State} {args : Array Value} {ty : FieldType} (h : (Cond.arrayClass ty).before args s = true) : ∃ cA : ClassId, ArrOfT s cA ty ∧ s.vm.findClass ("[" ++ ty.toString) = some cA := by
  obtain ⟨cA, kA, comp, h1, h2, h3⟩ := Cond.arrayClass_spec h
  exact ⟨cA, fun n z => ⟨fun k h => (by cases h), kA, h2, comp, h3⟩, h1⟩
theorem jst_ao {s : State} {C : String} (h : va_AO C s) : ∃ cA : ClassId, ArrOfT s cA (.object C) ∧ va_RA s cA (.object C) := by
  obtain ⟨comp, c, k, h1, h2, h3, h4, h5⟩ := Cond.arrayOver_spec h
  exact ⟨c, fun n z => ⟨fun k h => (by cases h), k, h3, comp, h4⟩, k, comp, h3, h4, h1, h5⟩
theorem jst_aoA {s : State} (h : (Cond.arrayOver (.array .int)).before #[] s = true) : ∃ cA : ClassId, ArrOfT s cA (.array .int) ∧ s.vm.findClass ("[" ++ (FieldType.array .int).toString) = some cA := by
  obtain ⟨comp, c, k, h1, h2, h3, h4, h5⟩ := arrayOverA_spec h
  exact ⟨c, fun n z => ⟨fun k h => (by cases h), k, h3, comp, h4⟩, h5⟩
theorem jst_K {s : State} {args : Array Value} (hts : ∀ w ∈ jm_gw, w.before args s = true) (hov : jov s) : ∃ (D : va_G) (dA : Nat → ClassId), va_K D vwCl (jtys dA) s := by
  have hc : ∀ ci : Nat, ∃ (cC : ClassId) (iS : Nat → Nat), ∀ q : vw_C, vwCl[ci]? = some q → u_Kn s q.1 q.2.1 q.2.2 cC iS := by
    intro ci
    cases hq : vwCl[ci]? with
    | none => exact ⟨0, fun _ => 0, fun q h => by cases h⟩
    | some q =>
      obtain ⟨C, T, N⟩ := q
      obtain ⟨k1, k2, k3, k4, -⟩ := jm_cl_ok ci C T N hq
      obtain ⟨cC, iS, hK⟩ := u_known (n := N) hts k1 (hts _ k4)
      exact ⟨cC, iS, fun q h => by cases h; exact hK⟩
  have ha : ∀ t : Nat, ∃ cA : ClassId, t < jm_nat → ArrOfT s cA (jm_aty t) ∧ va_RA s cA (jm_aty t) := by
    intro t
    by_cases ht : t < jm_nat
    · by_cases h0 : t = 0
      · subst h0
        obtain ⟨cA, g1, g2⟩ := jst_arr (hts _ jm_ar.1)
        exact ⟨cA, fun _ => ⟨g1, g2⟩⟩
      · by_cases h1 : t = 1
        · subst h1
          obtain ⟨cA, g1, g2⟩ := jst_arr (hts _ jm_ar.2)
          exact ⟨cA, fun _ => ⟨g1, g2⟩⟩
        · rcases jm_atyk t (by omega) ht with ⟨C, hC, he⟩ | he
          · obtain ⟨cA, g1, g2⟩ := jst_ao (hov.1 C hC)
            exact ⟨cA, fun _ => by rw [he]; exact ⟨g1, g2⟩⟩
          · obtain ⟨cA, g1, g2⟩ := jst_aoA hov.2.1
            exact ⟨cA, fun _ => by rw [he]; exact ⟨g1, g2⟩⟩
    · exact ⟨0, fun h => absurd h ht⟩
  obtain ⟨dC, hdC⟩ := Classical.axiomOfChoice hc
  obtain ⟨dI, hdI⟩ := Classical.axiomOfChoice hdC
  obtain ⟨dA, hdA⟩ := Classical.axiomOfChoice ha
  refine ⟨(dC, dI), dA, fun ci q hq => hdI ci q hq, fun k q hk => ?_⟩
  unfold jtys at hk
  rw [List.getElem?_map] at hk
  by_cases hk2 : k < jm_nat
  · rw [List.getElem?_range hk2] at hk
    cases hk
    exact hdA k hk2
  · rw [List.getElem?_eq_none (by rw [List.length_range]; omega)] at hk
    cases hk
theorem jst_ov {s : State} {args : Array Value} (hts : ∀ w ∈ lw_tbl, w.before args s = true) : jov s := by
  refine ⟨fun C hC => va_AO.of (hts _ (jm_over_ok C hC)), hts _ jm_overA, fun w hw => ?_⟩
  have h1 := hts _ (jm_nest_in w hw)
  obtain ⟨a, i, x, h, rfl⟩ := jm_nest_ok w hw
  exact va_Nw.of rfl h1
/-- what is left of the claim: the interpreter answers 1 on every script -/
def jAns (N : Nat) : Prop := ∀ (L : Nat) (xs : Nat → Int32), L ≤ N → ∃ (n d : Nat) (h' : List jC), jrun L xs n d 0 0 [(0, .retAddr 0)] [] [] = some (some (.int 1), h') ∧ d ≤ 2048 ∧ h'.length ≤ 600000 ∧ jsl h' ≤ 7302250
theorem jstart {p : Program} {e : Env} {s : State} {m : MethodId} {below : List Frame} {meth : Method} {c : Code} (l : Launch) (hmna : jMna l) {b L : Nat} {xs : Nat → Int32} (hrun : ∃ (n d : Nat) (h' : List jC), jrun L xs n d 0 0 [(0, .retAddr 0)] [] [] = some (some (.int 1), h') ∧ d ≤ 2048 ∧ h'.length ≤ 600000 ∧ jsl h' ≤ 7302250) (C0 : lw_At p s m meth c b L xs) : W p l e room_1 s m #[Value.ref b] below meth c s.heap [] 0 0 (lw_Z below #[Value.ref b] s) (entryFrame m ([Value.ref b] : List Value).toArray 4) := by
  obtain ⟨hx, hb, hr, hml, hown, hts, hX, hbl, hlocks, hgv⟩ := C0
  obtain ⟨n, d, h', hj, hd, hc1, hc2⟩ := hrun
  have hgw : ∀ w ∈ jm_gw, w.before #[Value.ref b] s = true := fun w hw => hts w (List.mem_filter.mp hw).1
  have hov := jst_ov hts
  obtain ⟨D, dA, hK⟩ := jst_K hgw hov
  have cx : jcx D dA b s.heap.size L xs p s m #[Value.ref b] meth c 0 := ⟨hx, hb, hml, hown, hgw, hK, hov, fun h => (by cases h), fun _ => ⟨hX, hbl, hbl⟩, Nat.le_refl _⟩
  have hl := lv_entry ([.ref b]) (n := 4) (Nat.le_of_ble_eq_true rfl)
  rw [lg_entry_eq]
  refine (jrun_ok l hmna D dA b s.heap.size L xs n d 0 0 _ _ _ _ _ hj).2 p e room_1 s m _ below meth c s.heap [] 0 0 _ _ cx hl ⟨fun k q h => by simp [jw] at h, by simp⟩ va_S.rf hd (by show 40 * d ≤ 84000; omega) (by show 0 + (h'.length - 0) ≤ 600000; omega) (by show 0 + (jsl h' - 0) ≤ 7302250; omega) ?_
  intro pc' ls' H' locs' i' hdd he hW hS
  refine va_forget (fun q hq => hS.2.2 q hq) ?_
  refine W.widen (k := 600000) (n := 7302250) (by show 0 + (h'.length - 0) ≤ 600000; omega) (by show 0 + (jsl h' - 0) ≤ 7302250; omega) ?_
  have hi : i' = .ireturn := by
    unfold jend at he
    split at he
    · rfl
    · next h9 _ => simp at h9
    · next h9 _ => simp at h9
    · next h9 _ => simp at h9
    · next h9 _ => simp at h9
    · cases he
  subst hi
  exact lw_ret hx hb hr hlocks hdd
