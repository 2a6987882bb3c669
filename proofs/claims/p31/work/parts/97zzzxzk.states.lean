section
/-! alike: the STATES of the search -/
def sMx (f : Nat → Int32) : Nat → Int32
  | 0 => 17
  | i + 1 => sMx f i * 31 + f i
def sHs (m : Int32) : Int32 := (m ^^^ (m.toUInt32 >>> ((Int8.ofInt 10).toInt32.toUInt32 &&& Int32.toUInt32 31)).toInt32 ^^^ (m.toUInt32 >>> ((Int8.ofInt 20).toInt32.toUInt32 &&& Int32.toUInt32 31)).toInt32) &&& (Int16.ofInt 1023).toInt32
def sSl (f : Nat → Int32) (wd : Nat) : Int32 := sHs (sMx f wd)
theorem sMx_congr {f g : Nat → Int32} : ∀ {w : Nat}, (∀ j, j < w → f j = g j) → sMx f w = sMx g w
  | 0, _ => rfl
  | w + 1, h => by
    unfold sMx
    rw [sMx_congr (fun j hj => h j (by omega)), h w (by omega)]
theorem sSl_ok (f : Nat → Int32) (wd : Nat) : fN (sSl f wd) < 1024 ∧ sSl f wd = nI (fN (sSl f wd)) := by
  obtain ⟨k, k1, k2⟩ := pk_andE (sMx f wd ^^^ ((sMx f wd).toUInt32 >>> ((Int8.ofInt 10).toInt32.toUInt32 &&& Int32.toUInt32 31)).toInt32 ^^^ ((sMx f wd).toUInt32 >>> ((Int8.ofInt 20).toInt32.toUInt32 &&& Int32.toUInt32 31)).toInt32) (m := (Int16.ofInt 1023).toInt32) 10 (by decide)
  have k2 : sSl f wd = nI k := k2
  have k1 : k < 1024 := k1
  rw [k2, fN_nI (by omega)]
  exact ⟨k1, rfl⟩
set_option maxRecDepth 100000 in
set_option maxHeartbeats 4000000 in
theorem mf_stSlot (L : Nat) (xs : Nat → Int32) (d : Nat) (σ : kS) (wd : Nat) (hw : wd ≤ 28) : kXM kT L xs (d + 1) 88 [.ref 202, .int (nI wd)] σ (fun r σ' => r = some (.int (sSl (σ 202) wd)) ∧ σ = σ') := by
  have loop : ∀ q : Nat, q ≤ wd → kX kT L xs (d + 1) 88 5 [(3, .int (nI q)), (2, .int (sMx (σ 202) q)), (0, .ref 202), (1, .int (nI wd))] [] σ (fun r σ' => r = some (.int (sSl (σ 202) wd)) ∧ σ = σ') := by
    refine kX_while (fun q : Nat => [(3, .int (nI q)), (2, .int (sMx (σ 202) q)), (0, .ref 202), (1, .int (nI wd))]) (fun _ => σ) _ (fun q => 28 - q) ?_
    intro i i1 ih
    have k31 : i = wd → kX kT L xs (d + 1) 88 31 [(3, .int (nI i)), (2, .int (sMx (σ 202) i)), (0, .ref 202), (1, .int (nI wd))] [] σ (fun r σ' => r = some (.int (sSl (σ 202) wd)) ∧ σ = σ') := by
      intro e
      subst e
      repeat refine kX_one rfl ?_
      refine kX_ret (i := .ireturn) (len := 1) rfl (Or.inr rfl) rfl (⟨rfl, rfl⟩)
    repeat refine kX_one rfl ?_
    refine kX_if (fun q => ?_) (fun q => ?_)
    · have q := qge q i wd
      exact k31 (by omega)
    · have q := qgeF q i wd
      repeat refine kX_one rfl ?_
      refine kX_if (fun q2 => ?_) (fun q2 => ?_)
      · have q2 := qge q2 i 28
        omega
      · iterate 5 (refine kX_one rfl ?_)
        refine kX_ialdN rfl rfl (by decide) (i) (by first | rfl | decide) (by omega) ?_
        iterate 4 (refine kX_one rfl ?_)
        have := ih (i + 1) q (by omega)
        rw [← nI_1] at this
        exact kX_lv _ rfl rfl rfl this
  unfold kXM
  iterate 4 (refine kX_one rfl ?_)
  exact kX_lv _ rfl rfl rfl (loop 0 (Nat.zero_le _))
set_option maxRecDepth 100000 in
set_option maxHeartbeats 4000000 in
theorem mf_isSame (L : Nat) (xs : Nat → Int32) (d : Nat) (σ : kS) (wd : Nat) (hw : wd ≤ 28) (base : Nat) (hb : base + 28 ≤ 16800) : kXM kT L xs (d + 1) 90 [.ref 196, .ref 202, .int (nI wd), .int (nI base)] σ (fun r σ' => r = some (.int (isB (∀ j, j < wd → σ 202 j = σ 197 (base + j)))) ∧ σ = σ') := by
  have loop : ∀ q : Nat, (q ≤ wd ∧ ∀ j, j < q → σ 202 j = σ 197 (base + j)) → kX kT L xs (d + 1) 90 3 [(4, .int (nI q)), (0, .ref 196), (1, .ref 202), (2, .int (nI wd)), (3, .int (nI base))] [] σ (fun r σ' => r = some (.int (isB (∀ j, j < wd → σ 202 j = σ 197 (base + j)))) ∧ σ = σ') := by
    refine kX_while (fun q => [(4, .int (nI q)), (0, .ref 196), (1, .ref 202), (2, .int (nI wd)), (3, .int (nI base))]) (fun _ => σ) _ (fun q => 28 - q) ?_
    intro i ⟨i1, i2⟩ ih
    repeat refine kX_one rfl ?_
    refine kX_if (fun q => ?_) (fun q => ?_)
    · have q := qge q i wd
      have hz : isB (∀ j, j < wd → σ 202 j = σ 197 (base + j)) = 1 := isB_T (fun j hj => i2 j (by omega))
      repeat refine kX_one rfl ?_
      refine kX_ret (i := .ireturn) (len := 1) rfl (Or.inr rfl) rfl (⟨by rw [hz]; rfl, rfl⟩)
    · have q := qgeF q i wd
      repeat refine kX_one rfl ?_
      refine kX_if (fun q2 => ?_) (fun q2 => ?_)
      · have q2 := qge q2 i 28
        omega
      · iterate 2 (refine kX_one rfl ?_)
        refine kX_ialdN rfl rfl (by decide) (i) (by first | rfl | decide) (by omega) ?_
        iterate 5 (refine kX_one rfl ?_)
        refine kX_top (y := nI (base + i)) (nI_add base i) ?_
        refine kX_ialdN rfl rfl (by decide) (base + i) (by first | rfl | decide) (by omega) ?_
        repeat refine kX_one rfl ?_
        refine kX_if (fun q3 => ?_) (fun q3 => ?_)
        · have q3 := qeq q3
          iterate 2 (refine kX_one rfl ?_)
          have := ih (i + 1) ⟨q, fun j hj => by
            by_cases e : j = i
            · subst e
              exact q3
            · exact i2 j (by omega)⟩ (by omega)
          rw [← nI_1] at this
          exact kX_lv _ rfl rfl rfl this
        · have q3 := qeqF q3
          have hz : isB (∀ j, j < wd → σ 202 j = σ 197 (base + j)) = 0 := isB_F (fun z => q3 (z i q))
          repeat refine kX_one rfl ?_
          refine kX_ret (i := .ireturn) (len := 1) rfl (Or.inr rfl) rfl (⟨by rw [hz]; rfl, rfl⟩)
  unfold kXM
  iterate 2 (refine kX_one rfl ?_)
  exact kX_lv _ rfl rfl rfl (loop 0 ⟨Nat.zero_le _, fun j hj => absurd hj (Nat.not_lt_zero j)⟩)
/-- N STATES, found by their slots -/
def sWi (σ : kS) (wd N : Nat) : Prop := N ≤ 600 ∧ σ 196 5 = nI N ∧ hcP 1024 600 (fun i => i < N) (fun i => fN (sSl (fun j => σ 197 (28 * i + j)) wd)) (σ 201) (σ 200)
def sIn (σ : kS) (wd N : Nat) : Prop := ∃ i, i < N ∧ ∀ j, j < wd → σ 202 j = σ 197 (28 * i + j)
set_option maxRecDepth 100000 in
set_option maxHeartbeats 4000000 in
theorem mf_stHas (L : Nat) (xs : Nat → Int32) (d : Nat) (σ : kS) (wd N : Nat) (hw : wd ≤ 28) (h : sWi σ wd N) : kXM kT L xs (d + 2) 89 [.ref 196, .ref 202, .int (nI wd)] σ (fun r σ' => r = some (.int (isB (sIn σ wd N))) ∧ σ = σ') := by
  obtain ⟨hN, hc, hch⟩ := h
  obtain ⟨s1, s2⟩ := sSl_ok (σ 202) wd
  have hsl : ∀ i, i < N → (∀ j, j < wd → σ 202 j = σ 197 (28 * i + j)) → fN (sSl (fun j => σ 197 (28 * i + j)) wd) = fN (sSl (σ 202) wd) := fun i _ h => by
    unfold sSl
    rw [sMx_congr h]
  have loop : ∀ q : Nat × Nat × Int32, (q.1 + q.2.1 ≤ 600 ∧ isTop (fun i => i < N ∧ fN (sSl (fun j => σ 197 (28 * i + j)) wd) = fN (sSl (σ 202) wd)) q.2.1 q.2.2 ∧ ∀ i, i < N → q.2.1 ≤ i → ¬ ∀ j, j < wd → σ 202 j = σ 197 (28 * i + j)) → kX kT L xs (d + 2) 89 14 [(4, .int (nI q.1)), (3, .int q.2.2), (0, .ref 196), (1, .ref 202), (2, .int (nI wd))] [] σ (fun r σ' => r = some (.int (isB (sIn σ wd N))) ∧ σ = σ') := by
    refine kX_while (fun q : Nat × Nat × Int32 => [(4, .int (nI q.1)), (3, .int q.2.2), (0, .ref 196), (1, .ref 202), (2, .int (nI wd))]) (fun _ => σ) _ (fun q => 600 - q.1) ?_
    rintro ⟨i, bd, x⟩ ⟨i1, i2, i3⟩ ih
    dsimp only at i1 i2 i3 ih ⊢
    have hno : (∀ i, i < N → ¬ ∀ j, j < wd → σ 202 j = σ 197 (28 * i + j)) → isB (sIn σ wd N) = 0 := fun hz => isB_F (fun ⟨i, h1, h2⟩ => hz i h1 h2)
    repeat refine kX_one rfl ?_
    refine kX_if (fun q => ?_) (fun q => ?_)
    · have q := qge q i 600
      have hz := hno (fun i hi => i3 i hi (by omega))
      repeat refine kX_one rfl ?_
      refine kX_ret (i := .ireturn) (len := 1) rfl (Or.inr rfl) rfl (⟨by rw [hz]; rfl, rfl⟩)
    · have q := qgeF q i 600
      rcases i2 with ⟨rfl, i2⟩ | ⟨s, htb, rfl, hPt, i2⟩
      · have hz := hno (fun i hi h => by
          by_cases e : bd ≤ i
          · exact i3 i hi e h
          · exact i2 i (by omega) ⟨hi, hsl i hi h⟩)
        repeat refine kX_one rfl ?_
        refine kX_ret (i := .ireturn) (len := 1) rfl (Or.inr rfl) rfl (⟨by rw [hz]; rfl, rfl⟩)
      · repeat refine kX_one rfl ?_
        refine kX_ifF (decide_eq_false (nI_pos (by omega))) ?_
        iterate 3 (refine kX_one rfl ?_)
        refine kX_top (hc) ?_
        repeat refine kX_one rfl ?_
        refine kX_if (fun q3 => ?_) (fun q3 => ?_)
        · have q3 := qge q3 s N
          have := hPt.1
          omega
        · have q3 := qgeF q3 s N
          iterate 6 (refine kX_one rfl ?_)
          refine kX_top (y := nI (28 * s)) (by rw [Nat.mul_comm]; exact pk_mul s 28) ?_
          refine kX_cal (mf_isSame L xs d σ wd hw (28 * s) (by omega)) rfl (Or.inr rfl) rfl rfl rfl (fun r1 σ1 q1 => ?_)
          obtain ⟨rfl, rfl⟩ := q1
          by_cases he : ∀ j, j < wd → σ 202 j = σ 197 (28 * s + j)
          · rw [isB_T he]
            have hz : isB (sIn σ wd N) = 1 := isB_T ⟨s, q3, he⟩
            repeat refine kX_one rfl ?_
            refine kX_ret (i := .ireturn) (len := 1) rfl (Or.inr rfl) rfl (⟨by rw [hz]; rfl, rfl⟩)
          · rw [isB_F he]
            iterate 4 (refine kX_one rfl ?_)
            refine kX_ialdN rfl rfl (by decide) (s) (by first | rfl | decide) (by omega) ?_
            iterate 3 (refine kX_one rfl ?_)
            have hnx := hch.2 s q3
            dsimp only at hnx
            rw [hPt.2] at hnx
            have := ih (i + 1, s, σ 200 s) ⟨by simp only; omega, hnx, fun u hu hus => by
              simp only at hus
              by_cases e : u = s
              · subst e
                exact he
              · by_cases e2 : bd ≤ u
                · exact i3 u hu e2
                · exact fun h => i2 u (by omega) (by omega) ⟨hu, hsl u hu h⟩⟩ (by simp only; omega)
            dsimp only at this
            rw [← nI_1] at this
            exact kX_lv _ rfl rfl rfl this
  unfold kXM
  iterate 4 (refine kX_one rfl ?_)
  refine kX_cal (mf_stSlot L xs d σ wd hw) rfl (Or.inr rfl) rfl rfl rfl (fun r1 σ1 q1 => ?_)
  obtain ⟨rfl, rfl⟩ := q1
  refine kX_top (s2) ?_
  refine kX_ialdN rfl rfl (by decide) (fN (sSl (σ 202) wd)) (by first | rfl | decide) (s1) ?_
  iterate 3 (refine kX_one rfl ?_)
  exact kX_lv _ rfl rfl rfl (loop (0, 600, _) ⟨Nat.le_refl _, hch.1 _ s1, fun i hi hz => by simp only at hz; omega⟩)
set_option maxRecDepth 100000 in
set_option maxHeartbeats 4000000 in
theorem mf_stAdd (L : Nat) (xs : Nat → Int32) (d : Nat) (σ : kS) (f s : Int32) (wd N : Nat) (hw : wd ≤ 28) (hN : N < 600) (h : sWi σ wd N) : kXM kT L xs (d + 2) 91 [.ref 196, .ref 202, .int (nI wd), .int f, .int s] σ (fun r σ' => r = none ∧ stA σ σ' N f s ∧ sWi σ' wd (N + 1)) := by
  obtain ⟨-, hc, hch⟩ := h
  obtain ⟨s1, s2⟩ := sSl_ok (σ 202) wd
  unfold kXM
  iterate 2 (refine kX_one rfl ?_)
  refine kX_top (hc) ?_
  repeat refine kX_one rfl ?_
  refine kX_if (fun q => ?_) (fun q => ?_)
  · have q := qge q N 600
    omega
  · iterate 2 (refine kX_one rfl ?_)
    refine kX_cal (mf_stSlot L xs d σ wd hw) rfl (Or.inr rfl) rfl rfl rfl (fun r1 σ1 q1 => ?_)
    obtain ⟨rfl, rfl⟩ := q1
    refine kX_top (s2) ?_
    iterate 7 (refine kX_one rfl ?_)
    refine kX_top (hc) ?_
    iterate 2 (refine kX_one rfl ?_)
    refine kX_top (y := nI (28 * N)) (by rw [Nat.mul_comm]; exact pk_mul N 28) ?_
    iterate 1 (refine kX_one rfl ?_)
    refine kX_acpyN (n0 := 28) (n1 := 16800) (f0 := fun _ => 0) (g0 := fun _ => 0) rfl rfl rfl rfl rfl rfl 0 (28 * N) 28 rfl rfl rfl (by decide) (by omega) (by decide) (by decide) (Nat.zero_le 8) ?_
    iterate 4 (refine kX_one rfl ?_)
    refine kX_top (hc) ?_
    iterate 1 (refine kX_one rfl ?_)
    refine kX_iastN rfl rfl (by decide) (N) (by first | rfl | decide) (hN) ?_
    iterate 4 (refine kX_one rfl ?_)
    refine kX_top (hc) ?_
    iterate 1 (refine kX_one rfl ?_)
    refine kX_iastN rfl rfl (by decide) (N) (by first | rfl | decide) (hN) ?_
    iterate 4 (refine kX_one rfl ?_)
    refine kX_top (hc) ?_
    iterate 3 (refine kX_one rfl ?_)
    refine kX_ialdN rfl rfl (by decide) (fN (sSl (σ 202) wd)) (by first | rfl | decide) (s1) ?_
    refine kX_iastN rfl rfl (by decide) (N) (by first | rfl | decide) (hN) ?_
    iterate 5 (refine kX_one rfl ?_)
    refine kX_top (hc) ?_
    refine kX_iastN rfl rfl (by decide) (fN (sSl (σ 202) wd)) (by first | rfl | decide) (s1) ?_
    iterate 3 (refine kX_one rfl ?_)
    refine kX_top (hc) ?_
    iterate 2 (refine kX_one rfl ?_)
    refine kX_top (y := nI (N + 1)) (nI_1 N) ?_
    iterate 1 (refine kX_one rfl ?_)
    refine kX_ret (i := .return_) (len := 1) rfl (Or.inr rfl) rfl ⟨rfl, ⟨fun c hc => ?_, rfl, rfl, rfl, rfl⟩, by omega, rfl, ?_⟩
    · rw [up_ne (by omega), up_ne (by omega), up_ne (by omega), up_ne (by omega), up_ne (by omega), up_ne (by omega)]
    · show hcP 1024 600 (fun i => i < N + 1) (fun i => fN (sSl (fun j => va_cpy (σ 202) (σ 197) 0 (28 * N) 28 (28 * i + j)) wd)) (upd (σ 201) (fN (sSl (σ 202) wd)) (nI N)) (upd (σ 200) N (σ 201 (fN (sSl (σ 202) wd))))
      have eo : ∀ i, i < N → fN (sSl (fun j => va_cpy (σ 202) (σ 197) 0 (28 * N) 28 (28 * i + j)) wd) = fN (sSl (fun j => σ 197 (28 * i + j)) wd) := fun i hi => by
        unfold sSl
        rw [sMx_congr (g := fun j => σ 197 (28 * i + j)) (fun j hj => by
          show va_cpy (σ 202) (σ 197) 0 (28 * N) 28 (28 * i + j) = _
          rw [va_cpy, if_neg (by omega)])]
      have en : fN (sSl (fun j => va_cpy (σ 202) (σ 197) 0 (28 * N) 28 (28 * N + j)) wd) = fN (sSl (σ 202) wd) := by
        unfold sSl
        rw [sMx_congr (g := σ 202) (fun j hj => by
          show va_cpy (σ 202) (σ 197) 0 (28 * N) 28 (28 * N + j) = _
          rw [va_cpy, if_pos ⟨by omega, by omega⟩]
          congr 1
          omega)]
      have g1 : hcP 1024 600 (fun i => i < N) (fun i => fN (sSl (fun j => va_cpy (σ 202) (σ 197) 0 (28 * N) 28 (28 * i + j)) wd)) (σ 201) (σ 200) := hcP_congr (fun _ => Iff.rfl) (fun i hi => (eo i hi).symm) hch
      have g2 := hcP_push (t := N) g1 (fun t' ht' => ht') (by omega) (by rw [en]; exact s1)
      rw [en] at g2
      exact hcP_congr (fun t => by omega) (fun _ _ => rfl) g2
end
section
/-! alike: what may be received -/
/-- t may stand for a VARIABLE of the SORT so -/
def gS (σ : kS) (so t : Nat) : Prop := tgd (σ 233) (σ 234) (σ 235) t = true ∧ (so = 3 ∨ σ 233 t = nI so)
noncomputable def opL (σ : kS) (so : Nat) : Nat → List Nat
  | 0 => []
  | i + 1 => cit (gS σ so i) (opL σ so i ++ [i]) (opL σ so i)
theorem opL_1 (σ : kS) (so i : Nat) : opL σ so (i + 1) = cit (gS σ so i) (opL σ so i ++ [i]) (opL σ so i) := rfl
theorem opL_len (σ : kS) (so : Nat) : ∀ i, (opL σ so i).length ≤ i
  | 0 => Nat.le_refl _
  | i + 1 => by
    have := opL_len σ so i
    rw [opL_1]
    by_cases h : gS σ so i
    · rw [cit_T h, List.length_append, List.length_singleton]
      omega
    · rw [cit_F h]
      omega
theorem opL_mem (σ : kS) (so : Nat) : ∀ i t, t ∈ opL σ so i ↔ t < i ∧ gS σ so t
  | 0, t => ⟨fun h => absurd h List.not_mem_nil, fun h => absurd h.1 (Nat.not_lt_zero t)⟩
  | i + 1, t => by
    rw [opL_1]
    by_cases h : gS σ so i
    · rw [cit_T h, List.mem_append, opL_mem σ so i t, List.mem_singleton]
      refine ⟨fun z => ?_, fun z => ?_⟩
      · rcases z with z | rfl
        · exact ⟨by omega, z.2⟩
        · exact ⟨by omega, h⟩
      · by_cases e : t = i
        · exact Or.inr e
        · exact Or.inl ⟨by omega, z.2⟩
    · rw [cit_F h, opL_mem σ so i t]
      refine ⟨fun z => ⟨by omega, z.2⟩, fun z => ⟨?_, z.2⟩⟩
      have : t ≠ i := fun e => h (e ▸ z.2)
      omega
/-- the class's lists of options -/
def cOL (τ : kS) (f : Nat → List Nat) : Prop := ∀ so, so < 4 → τ 228 so = nI (f so).length ∧ lst (τ (224 + so)) (f so)
set_option maxRecDepth 100000 in
set_option maxHeartbeats 4000000 in
theorem mf_addOption (L : Nat) (xs : Nat → Int32) (d : Nat) (σ : kS) (so t : Nat) (f : Nat → List Nat) (h : cOL σ f) (hso : so < 4) (hl : (f so).length < 200) : kXM kT L xs (d + 1) 30 [.ref 222, .int (nI so), .int (nI t)] σ (fun r σ' => r = none ∧ (∀ c, c < 224 ∨ 229 ≤ c → σ' c = σ c) ∧ cOL σ' (fun s => if s = so then f so ++ [t] else f s)) := by
  obtain ⟨c2, c3⟩ := h so hso
  unfold kXM
  iterate 3 (refine kX_one rfl ?_)
  refine kX_ialdV rfl rfl (by decide) (so) (by first | rfl | decide) (hso) (c2) ?_
  repeat refine kX_one rfl ?_
  refine kX_if (fun q => ?_) (fun q => ?_)
  · have q := qge q (f so).length 200
    omega
  · iterate 3 (refine kX_one rfl ?_)
    refine kX_aaldN rfl (rfl) (by decide) (by decide) (by decide) (so) (by first | rfl | decide) (hso) (op_at hso) ?_
    iterate 3 (refine kX_one rfl ?_)
    refine kX_ialdV rfl rfl (by decide) (so) (by first | rfl | decide) (hso) (c2) ?_
    iterate 1 (refine kX_one rfl ?_)
    refine kX_iastN rfl (kT_op hso) (by decide) ((f so).length) (by first | rfl | decide) (hl) ?_
    iterate 4 (refine kX_one rfl ?_)
    refine kX_ialdV rfl rfl (by decide) so (by rfl) hso (show (va_up σ (224 + so) (upd (σ (224 + so)) (f so).length (nI t))) 228 so = nI (f so).length from by rw [up_ne (by omega)]; exact c2) ?_
    iterate 2 (refine kX_one rfl ?_)
    refine kX_top (y := nI ((f so).length + 1)) (nI_1 (f so).length) ?_
    refine kX_iastN rfl rfl (by decide) (so) (by first | rfl | decide) (hso) ?_
    refine kX_ret (i := .return_) (len := 1) rfl (Or.inr rfl) rfl ⟨rfl, fun e he => by rw [up_ne (by omega), up_ne (by omega)], fun s' hs' => ?_⟩
    by_cases e : s' = so
    · subst e
      dsimp only
      rw [if_pos rfl]
      refine ⟨by rw [up_eq, pk_us, List.length_append, List.length_singleton], ?_⟩
      rw [up_ne (by omega), up_eq]
      exact lst_push c3 t
    · obtain ⟨a2, a3⟩ := h s' hs'
      dsimp only
      rw [if_neg e]
      refine ⟨by rw [up_eq, pk_un e, up_ne (by omega)]; exact a2, ?_⟩
      rw [up_ne (by omega), up_ne (by omega)]
      exact a3
set_option maxRecDepth 100000 in
set_option maxHeartbeats 4000000 in
theorem mf_listOptions (L : Nat) (xs : Nat → Int32) (d : Nat) (σ : kS) (n b : Nat) (hT : cT σ n) (hM : mTb σ n b) (hA : ∀ t, t < n → aT1 σ t) : kXM kT L xs (d + 2) 29 [.ref 222] σ (fun r σ' => r = none ∧ (∀ c, c < 224 ∨ 229 ≤ c → σ' c = σ c) ∧ cOL σ' (fun so => opL σ so n)) := by
  have hn := hT.1
  have loop : ∀ q : Nat × kS, (q.1 ≤ n ∧ (∀ c, c < 224 ∨ 229 ≤ c → q.2 c = σ c) ∧ cOL q.2 (fun so => opL σ so q.1)) → kX kT L xs (d + 2) 29 10 [(1, .int (nI q.1)), (0, .ref 222)] [] q.2 (fun r σ' => r = none ∧ (∀ c, c < 224 ∨ 229 ≤ c → σ' c = σ c) ∧ cOL σ' (fun so => opL σ so n)) := by
    refine kX_while (fun q : Nat × kS => [(1, .int (nI q.1)), (0, .ref 222)]) (fun q => q.2) _ (fun q => n - q.1) ?_
    rintro ⟨i, τ⟩ ⟨i1, i2, i3⟩ ih
    dsimp only at i1 i2 i3 ih ⊢
    iterate 4 (refine kX_one rfl ?_)
    refine kX_top (y := nI n) (by rw [i2 1 (by decide)]; exact hT.2.1) ?_
    repeat refine kX_one rfl ?_
    refine kX_if (fun q => ?_) (fun q => ?_)
    · have q := qge q i n
      obtain rfl : i = n := by omega
      refine kX_ret (i := .return_) (len := 1) rfl (Or.inr rfl) rfl (⟨rfl, i2, i3⟩)
    · have q := qgeF q i n
      have k66 : ∀ τ' f, (∀ c, c < 224 ∨ 229 ≤ c → τ' c = σ c) → cOL τ' f → (∀ so, so < 4 → f so = opL σ so (i + 1)) → kX kT L xs (d + 2) 29 66 [(1, .int (nI i)), (0, .ref 222)] [] τ' (fun r σ' => r = none ∧ (∀ c, c < 224 ∨ 229 ≤ c → σ' c = σ c) ∧ cOL σ' (fun so => opL σ so n)) := by
        intro τ' f t1 t2 t3
        iterate 2 (refine kX_one rfl ?_)
        have := ih (i + 1, τ') ⟨q, t1, fun so hso => by simp only; rw [← t3 so hso]; exact t2 so hso⟩ (by simp only; omega)
        dsimp only at this
        rw [← nI_1] at this
        exact kX_lv _ rfl rfl rfl this
      have hgi : τ 8 i = bI (tgd (σ 233) (σ 234) (σ 235) i) := by
        rw [i2 8 (by decide), (hA i q).2.2.2.2.1]
        exact hM.2.2.2.2.2.2.1 i (Or.inl q)
      iterate 4 (refine kX_one rfl ?_)
      refine kX_baldV rfl rfl (by decide) (i) (by first | rfl | decide) (by omega) (hgi) ?_
      repeat refine kX_one rfl ?_
      refine kX_if (fun q2 => ?_) (fun q2 => ?_)
      · have q2 : tgd (σ 233) (σ 234) (σ 235) i = false := (bI_eq _).mp (qeq q2)
        exact k66 τ _ i2 i3 (fun so _ => by rw [opL_1, cit_F (fun z => by rw [z.1] at q2; exact absurd q2 (by decide))])
      · have q2 : tgd (σ 233) (σ 234) (σ 235) i = true := (bI_ne _).mp (qeqF q2)
        iterate 3 (refine kX_one rfl ?_)
        refine kX_cal (mf_addOption L xs d τ 3 i _ i3 (by decide) (by have := opL_len σ 3 i; omega)) rfl (Or.inr rfl) rfl rfl rfl (fun r1 τ1 q1 => ?_)
        obtain ⟨rfl, a1, a2⟩ := q1
        have a3 : ∀ c, c < 224 ∨ 229 ≤ c → τ1 c = σ c := fun c hc => (a1 c hc).trans (i2 c hc)
        obtain ⟨k, k1, k2⟩ := (hT.2.2.2 i q).1
        have k3 : τ1 2 i = nI k := by rw [a3 2 (by decide)]; exact k2
        have kr : σ 233 i = nI k := (hA i q).1.symm.trans k2
        iterate 4 (refine kX_one rfl ?_)
        refine kX_ialdV rfl rfl (by decide) (i) (by first | rfl | decide) (by omega) (k3) ?_
        repeat refine kX_one rfl ?_
        refine kX_if (fun q3 => ?_) (fun q3 => ?_)
        · have q3 := qge q3 k 3
          refine k66 τ1 _ a3 a2 (fun so hso => ?_)
          by_cases e : so = 3
          · subst e
            rw [if_pos rfl, opL_1, cit_T ⟨q2, Or.inl rfl⟩]
          · rw [if_neg e, opL_1, cit_F]
            rintro ⟨-, z | z⟩
            · exact e z
            · have := nI_inj (kr.symm.trans z)
              omega
        · have q3 := qgeF q3 k 3
          iterate 5 (refine kX_one rfl ?_)
          refine kX_ialdV rfl rfl (by decide) (i) (by first | rfl | decide) (by omega) (k3) ?_
          iterate 1 (refine kX_one rfl ?_)
          refine kX_cal (mf_addOption L xs d τ1 k i _ a2 (by omega) (by rw [if_neg (by omega)]; have := opL_len σ k i; omega)) rfl (Or.inr rfl) rfl rfl rfl (fun r1 τ2 q1 => ?_)
          obtain ⟨rfl, b1, b2⟩ := q1
          refine k66 τ2 _ (fun c hc => (b1 c hc).trans (a3 c hc)) b2 (fun so hso => ?_)
          by_cases e : so = k
          · subst e
            rw [if_pos rfl, if_neg (by omega), opL_1, cit_T ⟨q2, Or.inr kr⟩]
          · rw [if_neg e]
            by_cases e3 : so = 3
            · subst e3
              rw [if_pos rfl, opL_1, cit_T ⟨q2, Or.inl rfl⟩]
            · rw [if_neg e3, opL_1, cit_F]
              rintro ⟨-, z | z⟩
              · exact e3 z
              · exact e (nI_inj (z.symm.trans kr))
  unfold kXM
  iterate 3 (refine kX_one rfl ?_)
  refine kX_cal (kX_fill (T := kT) L xs d 0 σ (a := 228) (n := 4) (g0 := fun _ => 0) rfl (by decide)) rfl (Or.inr rfl) rfl rfl rfl (fun r1 σ1 q1 => ?_)
  obtain ⟨rfl, rfl⟩ := q1
  iterate 2 (refine kX_one rfl ?_)
  refine kX_lv _ rfl rfl rfl (loop (0, va_up σ 228 (fun j => if j < 4 then 0 else σ 228 j)) ⟨Nat.zero_le _, fun c hc => up_ne (by omega), fun so hso => ⟨?_, fun i hi => absurd hi (Nat.not_lt_zero i)⟩⟩)
  show (if so < 4 then (0 : Int32) else σ 228 so) = 0
  rw [if_pos hso]
/-- the number of ways -/
def wyN : List Nat → Nat
  | [] => 1
  | c :: l => c * wyN l
theorem wyN_app (l : List Nat) (c : Nat) : wyN (l ++ [c]) = wyN l * c := by
  induction l with
  | nil => show c * 1 = 1 * c; omega
  | cons a l ih =>
    show a * wyN (l ++ [c]) = a * wyN l * c
    rw [ih, Nat.mul_assoc]
def lI (k : Nat) : Int64 := Int64.ofInt k
theorem nI_lI {c : Nat} (h : c < 2147483648) : (nI c).toInt64 = lI c := by
  apply Int64.toInt_inj.mp
  rw [Int32.toInt_toInt64, nI_toInt h]
  unfold lI
  rw [Int64.toInt_ofInt_of_le (by omega) (by omega)]
theorem lI_mul (a b : Nat) : lI a * lI b = lI (a * b) := by
  unfold lI
  rw [← Int64.ofInt_mul]
  congr 1
/-- what binds the SORTS so -/
def cWs (τ : kS) (a : Nat) (f : Nat → List Nat) (sos : List Nat) : Prop := τ a 4 = nI sos.length ∧ sos.length ≤ 6 ∧ ∀ j (h : j < sos.length), (sos[j]'h) < 4 ∧ τ (a + 2) j = nI (sos[j]'h)
set_option maxRecDepth 100000 in
set_option maxHeartbeats 4000000 in
theorem mf_waysOf (L : Nat) (xs : Nat → Int32) (d : Nat) (σ : kS) (r k : Nat) (f : Nat → List Nat) (sos : List Nat) (h : cOL σ f) (hf : ∀ so, so < 4 → (f so).length ≤ 200) (hr4 : r < 4) (hk6 : k < 6) (hE : cWs σ (28 + 35 * r + 5 * k) f sos) : kXM kT L xs (d + 1) 31 [.ref 222, .ref (28 + 35 * r + 5 * k)] σ (fun q σ' => q = some (.long (lI (wyN (sos.map (fun so => (f so).length))))) ∧ σ = σ') := by
  obtain ⟨m2, m6, bd⟩ := hE
  have loop : ∀ q : Nat, q ≤ sos.length → kX kT L xs (d + 1) 31 5 [(4, .int (nI q)), (2, .long (lI (wyN ((sos.take q).map (fun so => (f so).length))))), (0, .ref 222), (1, .ref (28 + 35 * r + 5 * k))] [] σ (fun q σ' => q = some (.long (lI (wyN (sos.map (fun so => (f so).length))))) ∧ σ = σ') := by
    refine kX_while (fun q : Nat => [(4, .int (nI q)), (2, .long (lI (wyN ((sos.take q).map (fun so => (f so).length))))), (0, .ref 222), (1, .ref (28 + 35 * r + 5 * k))]) (fun _ => σ) _ (fun q => sos.length - q) ?_
    intro j j1 ih
    iterate 2 (refine kX_one rfl ?_)
    refine kX_getN rfl rfl (kT_ev hr4 hk6) rfl ?_
    refine kX_top (m2) ?_
    repeat refine kX_one rfl ?_
    refine kX_if (fun q => ?_) (fun q => ?_)
    · have q := qge q j sos.length
      obtain rfl : j = sos.length := by omega
      rw [List.take_length]
      iterate 1 (refine kX_one rfl ?_)
      refine kX_ret (i := .lreturn) (len := 1) rfl (Or.inr rfl) rfl ⟨rfl, rfl⟩
    · have q := qgeF q j sos.length
      obtain ⟨hso, so2⟩ := bd j q
      have hfl := hf _ hso
      iterate 4 (refine kX_one rfl ?_)
      refine kX_getN rfl rfl (kT_ev hr4 hk6) rfl ?_
      iterate 1 (refine kX_one rfl ?_)
      refine kX_ialdV rfl (kT_e1 hr4 hk6 (Or.inr rfl)) (by decide) (j) (by first | rfl | decide) (by omega) (so2) ?_
      refine kX_ialdV rfl rfl (by decide) (sos[j]) (by first | rfl | decide) (hso) ((h _ hso).1) ?_
      iterate 5 (refine kX_one rfl ?_)
      have := ih (j + 1) q (by omega)
      rw [List.take_succ_eq_append_getElem q, List.map_append, List.map_singleton, wyN_app, ← lI_mul, ← nI_lI (c := (f sos[j]).length) (by omega), ← nI_1] at this
      exact kX_lv _ rfl rfl rfl this
  unfold kXM
  iterate 4 (refine kX_one rfl ?_)
  exact kX_lv _ rfl rfl rfl (loop 0 (Nat.zero_le _))
end
section
/-! alike: the ways, one after another -/
/-- the way i: which option each VARIABLE has -/
def dg : List Nat → Nat → List Nat
  | [], _ => []
  | _ :: cs, i => i / wyN cs :: dg cs (i % wyN cs)
theorem dg_len : ∀ (cs : List Nat) (i : Nat), (dg cs i).length = cs.length
  | [], _ => rfl
  | c :: cs, i => by
    unfold dg
    rw [List.length_cons, List.length_cons, dg_len cs]
theorem wyN_0 : ∀ {cs : List Nat}, 0 < wyN cs → ∀ c ∈ cs, 0 < c
  | [], _, c, hc => absurd hc List.not_mem_nil
  | a :: cs, h, c, hc => by
    have h1 : 0 < a * wyN cs := h
    have ha : 0 < a := Nat.pos_of_ne_zero (fun e => by rw [e, Nat.zero_mul] at h1; omega)
    have hw : 0 < wyN cs := Nat.pos_of_ne_zero (fun e => by rw [e, Nat.mul_zero] at h1; omega)
    rcases List.mem_cons.mp hc with rfl | q
    · exact ha
    · exact wyN_0 hw c q
theorem dg_lt : ∀ (cs : List Nat) (i : Nat), i < wyN cs → ∀ j (h : j < cs.length), (dg cs i)[j]'(by rw [dg_len]; exact h) < cs[j]'h
  | [], _, _, j, h => absurd h (Nat.not_lt_zero j)
  | c :: cs, i, hi, j, h => by
    have hi : i < c * wyN cs := hi
    have hw : 0 < wyN cs := Nat.pos_of_ne_zero (fun e => by rw [e, Nat.mul_zero] at hi; omega)
    cases j with
    | zero =>
      show i / wyN cs < c
      rw [Nat.div_lt_iff_lt_mul hw]
      exact hi
    | succ j =>
      show (dg cs (i % wyN cs))[j]'_ < cs[j]'_
      exact dg_lt cs _ (Nat.mod_lt _ hw) j (by simpa using h)
theorem dg_0 : ∀ (cs : List Nat) j (h : j < cs.length), (dg cs 0)[j]'(by rw [dg_len]; exact h) = 0
  | [], j, h => absurd h (Nat.not_lt_zero j)
  | c :: cs, j, h => by
    cases j with
    | zero =>
      show 0 / wyN cs = 0
      exact Nat.zero_div _
    | succ j =>
      show (dg cs (0 % wyN cs))[j]'_ = 0
      have := dg_0 cs j (by simpa using h)
      simpa [Nat.zero_mod] using this
theorem dg_max : ∀ (cs : List Nat), 0 < wyN cs → ∀ j (h : j < cs.length), (dg cs (wyN cs - 1))[j]'(by rw [dg_len]; exact h) + 1 = cs[j]'h
  | [], _, j, h => absurd h (Nat.not_lt_zero j)
  | c :: cs, hp, j, h => by
    have hp' : 0 < c * wyN cs := hp
    have hw : 0 < wyN cs := Nat.pos_of_ne_zero (fun e => by rw [e, Nat.mul_zero] at hp'; omega)
    have hc : 0 < c := Nat.pos_of_ne_zero (fun e => by rw [e, Nat.zero_mul] at hp'; omega)
    obtain ⟨c', rfl⟩ : ∃ c', c = c' + 1 := ⟨c - 1, by omega⟩
    have e : (c' + 1) * wyN cs - 1 = wyN cs * c' + (wyN cs - 1) := by
      rw [Nat.succ_mul, Nat.mul_comm c']
      omega
    cases j with
    | zero =>
      show ((c' + 1) * wyN cs - 1) / wyN cs + 1 = c' + 1
      rw [e, Nat.mul_add_div hw, Nat.div_eq_of_lt (by omega)]
    | succ j =>
      show (dg cs (((c' + 1) * wyN cs - 1) % wyN cs))[j]'_ + 1 = cs[j]'_
      have e2 : ((c' + 1) * wyN cs - 1) % wyN cs = wyN cs - 1 := by
        rw [e, Nat.mul_add_mod, Nat.mod_eq_of_lt (by omega)]
      have := dg_max cs hw j (by simpa using h)
      simp only [e2]
      exact this
/-- from one way to the next -/
theorem odo : ∀ (cs : List Nat) (i : Nat), i + 1 < wyN cs → ∃ j, ∃ (h : j < cs.length), (dg cs i)[j]'(by rw [dg_len]; exact h) + 1 < cs[j]'h ∧ (dg cs (i + 1))[j]'(by rw [dg_len]; exact h) = (dg cs i)[j]'(by rw [dg_len]; exact h) + 1 ∧ (∀ j' (h' : j' < cs.length), j' < j → (dg cs (i + 1))[j']'(by rw [dg_len]; exact h') = (dg cs i)[j']'(by rw [dg_len]; exact h')) ∧ ∀ j' (h' : j' < cs.length), j < j' → (dg cs i)[j']'(by rw [dg_len]; exact h') + 1 = cs[j']'h' ∧ (dg cs (i + 1))[j']'(by rw [dg_len]; exact h') = 0
  | [], i, h => by
    have h : i + 1 < 1 := h
    omega
  | c :: cs, i, h => by
    have h : i + 1 < c * wyN cs := h
    have hw : 0 < wyN cs := Nat.pos_of_ne_zero (fun e => by rw [e, Nat.mul_zero] at h; omega)
    have hr := Nat.mod_lt i hw
    have hdm := Nat.div_add_mod i (wyN cs)
    by_cases hc : i % wyN cs + 1 < wyN cs
    · have e1 : (i + 1) / wyN cs = i / wyN cs := by
        have : i + 1 = wyN cs * (i / wyN cs) + (i % wyN cs + 1) := by omega
        rw [this, Nat.mul_add_div hw, Nat.div_eq_of_lt hc]
        omega
      have e2 : (i + 1) % wyN cs = i % wyN cs + 1 := by
        have : i + 1 = wyN cs * (i / wyN cs) + (i % wyN cs + 1) := by omega
        rw [this, Nat.mul_add_mod, Nat.mod_eq_of_lt hc]
      obtain ⟨j, hj, a1, a2, a3, a4⟩ := odo cs (i % wyN cs) hc
      refine ⟨j + 1, by simp only [List.length_cons]; omega, a1, ?_, fun j' h' hj' => ?_, fun j' h' hj' => ?_⟩
      · show (dg cs ((i + 1) % wyN cs))[j]'_ = _
        simp only [e2]
        exact a2
      · cases j' with
        | zero =>
          show (i + 1) / wyN cs = i / wyN cs
          exact e1
        | succ j' =>
          show (dg cs ((i + 1) % wyN cs))[j']'_ = (dg cs (i % wyN cs))[j']'_
          simp only [e2]
          exact a3 j' (by simpa using h') (by omega)
      · cases j' with
        | zero => omega
        | succ j' =>
          obtain ⟨b1, b2⟩ := a4 j' (by simpa using h') (by omega)
          refine ⟨b1, ?_⟩
          show (dg cs ((i + 1) % wyN cs))[j']'_ = 0
          simp only [e2]
          exact b2
    · have hrm : i % wyN cs = wyN cs - 1 := by omega
      have e0 : i + 1 = wyN cs * (i / wyN cs + 1) := by
        rw [Nat.mul_add, Nat.mul_one]
        omega
      have e1 : (i + 1) / wyN cs = i / wyN cs + 1 := by rw [e0, Nat.mul_div_cancel_left _ hw]
      have e2 : (i + 1) % wyN cs = 0 := by rw [e0, Nat.mul_mod_right]
      refine ⟨0, by simp, ?_, ?_, fun j' h' hj' => absurd hj' (Nat.not_lt_zero j'), fun j' h' hj' => ?_⟩
      · show i / wyN cs + 1 < c
        rw [← e1, Nat.div_lt_iff_lt_mul hw]
        exact h
      · exact e1
      · cases j' with
        | zero => omega
        | succ j' =>
          refine ⟨?_, ?_⟩
          · show (dg cs (i % wyN cs))[j']'_ + 1 = cs[j']'_
            simp only [hrm]
            exact dg_max cs hw j' (by simpa using h')
          · show (dg cs ((i + 1) % wyN cs))[j']'_ = 0
            simp only [e2]
            exact dg_0 cs j' (by simpa using h')
end
section
/-! alike: choose, first, next -/
/-- what an EVENT binds: places and SORTS -/
def evQ (τ : kS) (a : Nat) (ps sos : List Nat) : Prop := τ a 4 = nI sos.length ∧ ps.length = sos.length ∧ sos.length ≤ 6 ∧ (∀ j (h : j < ps.length), (ps[j]'h) < 6 ∧ τ (a + 1) j = nI (ps[j]'h)) ∧ (∀ j (h : j < sos.length), (sos[j]'h) < 4 ∧ τ (a + 2) j = nI (sos[j]'h)) ∧ ps.Pairwise (fun x y => x ≠ y)
/-- the way v is chosen over the draft D, for the first m VARIABLES -/
def wyQ (σ τ : kS) (s : Nat) (ps sos : List Nat) (f : Nat → List Nat) (v : Nat → Nat) (D : Nat → Int32) (m : Nat) : Prop := fF σ τ ∧ τ 222 3 = nI (7 * s + 1) ∧ (∀ j, j < m → τ 229 j = nI (v j)) ∧ (∀ j (h : j < ps.length) (h' : j < sos.length), j < m → τ 202 (7 * s + 1 + ps[j]'h) = nI ((f (sos[j]'h')).getD (v j) 0)) ∧ ∀ i, (∀ j (h : j < ps.length), j < m → i ≠ 7 * s + 1 + ps[j]'h) → τ 202 i = D i
set_option maxRecDepth 100000 in
set_option maxHeartbeats 4000000 in
theorem mf_choose (L : Nat) (xs : Nat → Int32) (d : Nat) (σ : kS) (r k j so o p s : Nat) (f : Nat → List Nat) (h : cOL σ f) (hf : ∀ so, so < 4 → (f so).length ≤ 200) (hr4 : r < 4) (hk6 : k < 6) (hj : j < 6) (hso : so < 4) (hso2 : σ (28 + 35 * r + 5 * k + 2) j = nI so) (hp : p < 6) (hp2 : σ (28 + 35 * r + 5 * k + 1) j = nI p) (ho : o < (f so).length) (hs : s < 4) (hv : σ 222 3 = nI (7 * s + 1)) : kXM kT L xs (d + 1) 34 [.ref 222, .ref (28 + 35 * r + 5 * k), .int (nI j), .int (nI o)] σ (fun q σ' => q = none ∧ σ' = va_up (va_up σ 229 (upd (σ 229) j (nI o))) 202 (upd (σ 202) (7 * s + 1 + p) (nI ((f so).getD o 0)))) := by
  have b1 := ev_b r k 1 hr4 hk6 (by decide)
  have b2 := ev_b r k 2 hr4 hk6 (by decide)
  have hl := hf so hso
  have z2 : σ (224 + so) o = nI ((f so).getD o 0) := by
    rw [(h so hso).2 o ho, List.getD_eq_getElem?_getD, List.getElem?_eq_getElem ho]
    rfl
  unfold kXM
  iterate 4 (refine kX_one rfl ?_)
  refine kX_iastN rfl rfl (by decide) (j) (by first | rfl | decide) (hj) ?_
  have e202 : va_up σ 229 (upd (σ 229) j (nI o)) 202 = σ 202 := rfl
  have ee : ∀ e, e ≠ 229 → va_up σ 229 (upd (σ 229) j (nI o)) e = σ e := fun e he => up_ne he
  generalize hρ : va_up σ 229 (upd (σ 229) j (nI o)) = ρ at *
  iterate 4 (refine kX_one rfl ?_)
  refine kX_top (y := nI (7 * s + 1)) (by rw [ee 222 (by decide)]; exact hv) ?_
  iterate 1 (refine kX_one rfl ?_)
  refine kX_getN rfl rfl (kT_ev hr4 hk6) rfl ?_
  iterate 1 (refine kX_one rfl ?_)
  refine kX_ialdV rfl (kT_e1 hr4 hk6 (Or.inl rfl)) (by decide) (j) (by first | rfl | decide) (hj) ((congrFun (ee _ (by omega)) j).trans hp2) ?_
  iterate 1 (refine kX_one rfl ?_)
  refine kX_top (y := nI (7 * s + 1 + p)) (nI_add (7 * s + 1) p) ?_
  iterate 3 (refine kX_one rfl ?_)
  refine kX_getN rfl rfl (kT_ev hr4 hk6) rfl ?_
  iterate 1 (refine kX_one rfl ?_)
  refine kX_ialdV rfl (kT_e1 hr4 hk6 (Or.inr rfl)) (by decide) (j) (by first | rfl | decide) (hj) ((congrFun (ee _ (by omega)) j).trans hso2) ?_
  refine kX_aaldN rfl (rfl) (by decide) (by decide) (by decide) (so) (by first | rfl | decide) (hso) (op_at hso) ?_
  iterate 1 (refine kX_one rfl ?_)
  refine kX_ialdV rfl (kT_op hso) (by decide) (o) (by first | rfl | decide) (by omega) ((congrFun (ee _ (by omega)) o).trans z2) ?_
  refine kX_iastN rfl rfl (by decide) (7 * s + 1 + p) (by first | rfl | decide) (by omega) ?_
  refine kX_ret (i := .return_) (len := 1) rfl (Or.inr rfl) rfl ⟨rfl, ?_⟩
  rw [e202]
theorem cOL_fF {σ τ : kS} {f : Nat → List Nat} (h : cOL σ f) (e : fF σ τ) : cOL τ f := fun so hso => by
  rw [e 228 (by decide) (by decide) (by decide), e (224 + so) (by omega) (by omega) (by omega)]
  exact h so hso
theorem wy_set {σ τ : kS} {s j o m m' : Nat} {ps sos : List Nat} {f : Nat → List Nat} {v : Nat → Nat} {D : Nat → Int32} (h : wyQ σ τ s ps sos f v D m) (hps : ps.Pairwise (fun x y => x ≠ y)) (hlen : ps.length = sos.length) (hj : j < sos.length) (hm : (j < m ∧ m' = m) ∨ (j = m ∧ m' = m + 1)) : wyQ σ (va_up (va_up τ 229 (upd (τ 229) j (nI o))) 202 (upd (τ 202) (7 * s + 1 + ps[j]'(by omega)) (nI ((f (sos[j]'hj)).getD o 0)))) s ps sos f (fun i => if i = j then o else v i) D m' := by
  obtain ⟨h1, h2, h3, h4, h5⟩ := h
  have hne : ∀ i (hi : i < ps.length), i ≠ j → ps[i]'hi ≠ ps[j]'(by omega) := fun i hi e => by
    rw [List.pairwise_iff_getElem] at hps
    by_cases q : i < j
    · exact hps i j hi (by omega) q
    · exact fun z => hps j i (by omega) hi (by omega) z.symm
  refine ⟨fun e e1 e2 e3 => by rw [up_ne e3, up_ne e2]; exact h1 e e1 e2 e3, h2, fun i hi => ?_, fun i hi hi' him => ?_, fun i hi => ?_⟩
  · show upd (τ 229) j (nI o) i = nI (if i = j then o else v i)
    by_cases e : i = j
    · subst e
      rw [pk_us, if_pos rfl]
    · rw [pk_un e, if_neg e]
      exact h3 i (by omega)
  · rw [up_eq]
    dsimp only
    by_cases e : i = j
    · subst e
      rw [pk_us, if_pos rfl]
    · have := hne i hi e
      rw [pk_un (by omega), if_neg e]
      exact h4 i hi hi' (by omega)
  · rw [up_eq, pk_un (hi j (by omega) (by omega))]
    exact h5 i (fun i' hi' him => hi i' hi' (by omega))
set_option maxRecDepth 100000 in
set_option maxHeartbeats 4000000 in
theorem mf_first (L : Nat) (xs : Nat → Int32) (d : Nat) (σ : kS) (r k s : Nat) (f : Nat → List Nat) (ps sos : List Nat) (h : cOL σ f) (hf : ∀ so, so < 4 → (f so).length ≤ 200) (hr4 : r < 4) (hk6 : k < 6) (hE : evQ σ (28 + 35 * r + 5 * k) ps sos) (hne : ∀ so ∈ sos, 0 < (f so).length) (hs : s < 4) : kXM kT L xs (d + 2) 32 [.ref 222, .ref (28 + 35 * r + 5 * k), .int (nI s)] σ (fun q σ' => q = some (.int (nI 0)) ∧ wyQ σ σ' s ps sos f (fun _ => 0) (σ 202) sos.length) := by
  have b0 := ev_b r k 0 hr4 hk6 (by decide)
  have b1 := ev_b r k 1 hr4 hk6 (by decide)
  have b2 := ev_b r k 2 hr4 hk6 (by decide)
  obtain ⟨m2, hlen, m6, bp, bs, hnd⟩ := hE
  have loop : ∀ q : Nat × kS, (q.1 ≤ sos.length ∧ wyQ σ q.2 s ps sos f (fun _ => 0) (σ 202) q.1) → kX kT L xs (d + 2) 32 12 [(3, .int (nI q.1)), (0, .ref 222), (1, .ref (28 + 35 * r + 5 * k)), (2, .int (nI s))] [] q.2 (fun q σ' => q = some (.int (nI 0)) ∧ wyQ σ σ' s ps sos f (fun _ => 0) (σ 202) sos.length) := by
    refine kX_while (fun q : Nat × kS => [(3, .int (nI q.1)), (0, .ref 222), (1, .ref (28 + 35 * r + 5 * k)), (2, .int (nI s))]) (fun q => q.2) _ (fun q => sos.length - q.1) ?_
    rintro ⟨j, τ⟩ ⟨j1, j2⟩ ih
    dsimp only at j1 j2 ih ⊢
    have jF := j2.1
    iterate 2 (refine kX_one rfl ?_)
    refine kX_getN rfl rfl (kT_ev hr4 hk6) rfl ?_
    refine kX_top (y := nI sos.length) (by rw [jF _ (by omega) (by omega) (by omega)]; exact m2) ?_
    repeat refine kX_one rfl ?_
    refine kX_if (fun q => ?_) (fun q => ?_)
    · have q := qge q j sos.length
      obtain rfl : j = sos.length := by omega
      repeat refine kX_one rfl ?_
      refine kX_ret (i := .ireturn) (len := 1) rfl (Or.inr rfl) rfl (⟨rfl, j2⟩)
    · have q := qgeF q j sos.length
      obtain ⟨p1, p2⟩ := bp j (by omega)
      obtain ⟨w1, w4⟩ := bs j q
      have x1 : τ (28 + 35 * r + 5 * k + 2) j = nI sos[j] := by rw [jF _ (by omega) (by omega) (by omega)]; exact w4
      have x2 : τ (28 + 35 * r + 5 * k + 1) j = nI (ps[j]'(by omega)) := by rw [jF _ (by omega) (by omega) (by omega)]; exact p2
      iterate 4 (refine kX_one rfl ?_)
      refine kX_cal (mf_choose L xs d τ r k j sos[j] 0 (ps[j]'(by omega)) s f (cOL_fF h jF) hf hr4 hk6 (by omega) w1 x1 p1 x2 (hne _ (List.getElem_mem q)) hs j2.2.1) rfl (Or.inr rfl) rfl rfl rfl (fun r1 ω q1 => ?_)
      obtain ⟨rfl, rfl⟩ := q1
      iterate 2 (refine kX_one rfl ?_)
      have hnew := wy_set (o := 0) (m' := j + 1) j2 hnd hlen q (Or.inr ⟨rfl, rfl⟩)
      have hfun : (fun i => if i = j then 0 else (fun _ => 0) i) = (fun _ : Nat => 0) := by
        funext i
        split <;> rfl
      rw [hfun] at hnew
      have := ih (j + 1, _) ⟨q, hnew⟩ (by simp only; omega)
      dsimp only at this
      rw [← nI_1] at this
      exact kX_lv _ rfl rfl rfl this
  unfold kXM
  iterate 6 (refine kX_one rfl ?_)
  refine kX_top (y := nI (7 * s + 1)) (ix7z s) ?_
  iterate 3 (refine kX_one rfl ?_)
  exact kX_lv _ rfl rfl rfl (loop (0, va_up σ 222 (upd (σ 222) 3 (nI (7 * s + 1)))) ⟨Nat.zero_le _, fun e e1 _ _ => up_ne e1, rfl, fun j hj => absurd hj (Nat.not_lt_zero j), fun j _ _ hj => absurd hj (Nat.not_lt_zero j), fun i _ => rfl⟩)
set_option maxRecDepth 100000 in
set_option maxHeartbeats 4000000 in
theorem mf_next (L : Nat) (xs : Nat → Int32) (d : Nat) (σ ρ : kS) (r k s : Nat) (f : Nat → List Nat) (ps sos : List Nat) (v v' : Nat → Nat) (D : Nat → Int32) (h : cOL ρ f) (hf : ∀ so, so < 4 → (f so).length ≤ 200) (hr4 : r < 4) (hk6 : k < 6) (hE : evQ ρ (28 + 35 * r + 5 * k) ps sos) (hs : s < 4) (hW : wyQ ρ σ s ps sos f v D sos.length) (hv : ∀ j (hj : j < sos.length), v j < (f (sos[j]'hj)).length) (jj : Nat) (hjj : jj < sos.length) (o1 : v jj + 1 < (f (sos[jj]'hjj)).length) (o2 : v' jj = v jj + 1) (o3 : ∀ j, j < jj → v' j = v j) (o4 : ∀ j (hj : j < sos.length), jj < j → v j + 1 = (f (sos[j]'hj)).length ∧ v' j = 0) (fp : Nat) (hfp : ρ (28 + 35 * r + 5 * k + 4) (jj + 1) = nI fp) (hfp2 : fp ≤ 24) : kXM kT L xs (d + 2) 33 [.ref 222, .ref (28 + 35 * r + 5 * k)] σ (fun q σ' => q = some (.int (nI fp)) ∧ wyQ ρ σ' s ps sos f v' D sos.length) := by
  have b0 := ev_b r k 0 hr4 hk6 (by decide)
  have b1 := ev_b r k 1 hr4 hk6 (by decide)
  have b2 := ev_b r k 2 hr4 hk6 (by decide)
  have b4 := ev_b r k 4 hr4 hk6 (by decide)
  obtain ⟨m2, hlen, m6, bp, bs, hnd⟩ := hE
  have loop : ∀ q : Nat × kS, (jj < q.1 ∧ q.1 ≤ sos.length ∧ wyQ ρ q.2 s ps sos f (fun i => if q.1 ≤ i then 0 else v i) D sos.length) → kX kT L xs (d + 2) 33 7 [(2, .int (pv q.1)), (0, .ref 222), (1, .ref (28 + 35 * r + 5 * k))] [] q.2 (fun q σ' => q = some (.int (nI fp)) ∧ wyQ ρ σ' s ps sos f v' D sos.length) := by
    refine kX_while (fun q : Nat × kS => [(2, .int (pv q.1)), (0, .ref 222), (1, .ref (28 + 35 * r + 5 * k))]) (fun q => q.2) _ (fun q => q.1) ?_
    rintro ⟨q, τ⟩ ⟨j0, j1, j2⟩ ih
    dsimp only at j0 j1 j2 ih ⊢
    have jF := j2.1
    cases q with
    | zero => omega
    | succ j =>
      show kX kT L xs (d + 2) 33 7 [(2, .int (nI j)), (0, .ref 222), (1, .ref (28 + 35 * r + 5 * k))] [] τ _
      have hj : j < sos.length := by omega
      have hj6 : j < 6 := by omega
      obtain ⟨p1, p2⟩ := bp j (by omega)
      obtain ⟨w1, w4'⟩ := bs j hj
      have hvj := hv j hj
      have hfl := hf _ w1
      have w4 : τ (28 + 35 * r + 5 * k + 2) j = nI sos[j] := by rw [jF _ (by omega) (by omega) (by omega)]; exact w4'
      have x2 : τ (28 + 35 * r + 5 * k + 1) j = nI (ps[j]'(by omega)) := by rw [jF _ (by omega) (by omega) (by omega)]; exact p2
      have w6 : τ 229 j = nI (v j) := by
        have := j2.2.2.1 j hj
        dsimp only at this
        rw [this, if_neg (by omega)]
      have w5 := ((cOL_fF h jF) _ w1).1
      repeat refine kX_one rfl ?_
      refine kX_ifF (decide_eq_false (nI_pos (by omega))) ?_
      iterate 3 (refine kX_one rfl ?_)
      refine kX_ialdV rfl rfl (by decide) (j) (by first | rfl | decide) (hj6) (w6) ?_
      iterate 2 (refine kX_one rfl ?_)
      refine kX_top (y := nI (v j + 1)) (nI_1 (v j)) ?_
      iterate 3 (refine kX_one rfl ?_)
      refine kX_getN rfl rfl (kT_ev hr4 hk6) rfl ?_
      iterate 1 (refine kX_one rfl ?_)
      refine kX_ialdV rfl (kT_e1 hr4 hk6 (Or.inr rfl)) (by decide) (j) (by first | rfl | decide) (hj6) (w4) ?_
      refine kX_ialdV rfl rfl (by decide) (sos[j]) (by first | rfl | decide) (w1) (w5) ?_
      repeat refine kX_one rfl ?_
      refine kX_if (fun q => ?_) (fun q => ?_)
      · have q := qge q (v j + 1) (f sos[j]).length
        have hjne : jj < j := by
          have : jj ≠ j := fun e => by
            subst e
            omega
          omega
        iterate 4 (refine kX_one rfl ?_)
        refine kX_cal (mf_choose L xs d τ r k j sos[j] 0 (ps[j]'(by omega)) s f (cOL_fF h jF) hf hr4 hk6 hj6 w1 w4 p1 x2 (by omega) hs j2.2.1) rfl (Or.inr rfl) rfl rfl rfl (fun r1 ω q1 => ?_)
        obtain ⟨rfl, rfl⟩ := q1
        have hnew := wy_set (o := 0) (m' := sos.length) j2 hnd hlen hj (Or.inl ⟨hj, rfl⟩)
        have hfun : (fun i => if i = j then 0 else (fun i => if j + 1 ≤ i then 0 else v i) i) = (fun i => if j ≤ i then 0 else v i) := by
          funext i
          by_cases e : i = j
          · rw [if_pos e, if_pos (by omega)]
          · rw [if_neg e]
            dsimp only
            by_cases e2 : j + 1 ≤ i
            · rw [if_pos e2, if_pos (by omega)]
            · rw [if_neg e2, if_neg (by omega)]
        rw [hfun] at hnew
        iterate 2 (refine kX_one rfl ?_)
        have := ih (j, _) ⟨hjne, by omega, hnew⟩ (by simp only; omega)
        dsimp only at this
        rw [pv_dec] at this
        exact kX_lv _ rfl rfl rfl this
      · have q := qgeF q (v j + 1) (f sos[j]).length
        have hje : j = jj := by
          refine Classical.byContradiction (fun e => ?_)
          have := (o4 j hj (by omega)).1
          omega
        subst hje
        iterate 6 (refine kX_one rfl ?_)
        refine kX_ialdV rfl rfl (by decide) (j) (by first | rfl | decide) (hj6) (w6) ?_
        iterate 2 (refine kX_one rfl ?_)
        refine kX_top (y := nI (v j + 1)) (nI_1 (v j)) ?_
        refine kX_cal (mf_choose L xs d τ r k j sos[j] (v j + 1) (ps[j]'(by omega)) s f (cOL_fF h jF) hf hr4 hk6 hj6 w1 w4 p1 x2 q hs j2.2.1) rfl (Or.inr rfl) rfl rfl rfl (fun r1 ω q1 => ?_)
        obtain ⟨rfl, hω⟩ := q1
        have hnew := wy_set (o := v j + 1) (m' := sos.length) j2 hnd hlen hj (Or.inl ⟨hj, rfl⟩)
        rw [← hω] at hnew
        have hfin : wyQ ρ ω s ps sos f v' D sos.length := by
          obtain ⟨a1, a2, a3, a4, a5⟩ := hnew
          have hvv : ∀ i, i < sos.length → (if i = j then v j + 1 else if j + 1 ≤ i then 0 else v i) = v' i := fun i hi => by
            by_cases e : i = j
            · subst e
              rw [if_pos rfl, o2]
            · rw [if_neg e]
              by_cases e2 : j + 1 ≤ i
              · rw [if_pos e2]
                exact (o4 i hi (by omega)).2.symm
              · rw [if_neg e2]
                exact (o3 i (by omega)).symm
          refine ⟨a1, a2, fun i hi => ?_, fun i hi hi' him => ?_, a5⟩
          · rw [a3 i hi]
            exact congrArg nI (hvv i hi)
          · rw [a4 i hi hi' him]
            exact congrArg (fun z => nI ((f (sos[i]'hi')).getD z 0)) (hvv i him)
        have hfp3 : ω (28 + 35 * r + 5 * k + 4) (j + 1) = nI fp := by rw [hfin.1 _ (by omega) (by omega) (by omega)]; exact hfp
        iterate 1 (refine kX_one rfl ?_)
        refine kX_getN rfl rfl (kT_ev hr4 hk6) rfl ?_
        iterate 3 (refine kX_one rfl ?_)
        refine kX_top (y := nI (j + 1)) (nI_1 j) ?_
        refine kX_ialdV rfl ((kT_e3 hr4 hk6).2) (by decide) (j + 1) (by first | rfl | decide) (by omega) (hfp3) ?_
        refine kX_ret (i := .ireturn) (len := 1) rfl (Or.inr rfl) rfl (⟨rfl, hfin⟩)
  unfold kXM
  iterate 1 (refine kX_one rfl ?_)
  refine kX_getN rfl rfl (kT_ev hr4 hk6) rfl ?_
  refine kX_top (y := nI sos.length) (by rw [hW.1 _ (by omega) (by omega) (by omega)]; exact m2) ?_
  iterate 2 (refine kX_one rfl ?_)
  refine kX_top (y := pv sos.length) (pv_sub sos.length) ?_
  iterate 1 (refine kX_one rfl ?_)
  refine kX_lv _ rfl rfl rfl (loop (sos.length, σ) ⟨hjj, Nat.le_refl _, ?_⟩)
  obtain ⟨a1, a2, a3, a4, a5⟩ := hW
  refine ⟨a1, a2, fun i hi => ?_, fun i hi hi' him => ?_, a5⟩
  · show σ 229 i = nI (if sos.length ≤ i then 0 else v i)
    rw [if_neg (by omega)]
    exact a3 i hi
  · show σ 202 (7 * s + 1 + ps[i]) = nI ((f sos[i]).getD (if sos.length ≤ i then 0 else v i) 0)
    rw [if_neg (by omega)]
    exact a4 i hi hi' him
end
section
/-! alike: a way is weighed -/
/-- what a VARIABLE stands for in the draft -/
def wV (τ : kS) (s v : Nat) : Jvm.Term := kTv τ (fN (τ 202 (7 * s + 1 + fN (τ 12 v))))
/-- a part of the EVENT's TERM, as the draft has it -/
def iT (τ : kS) (s t : Nat) : Jvm.Term := tW τ (wV τ s) t
/-- what is stored of it -/
def vaQ (τ : kS) (n u s t : Nat) (x : Int32) : Prop := (∃ g, kV n 776 u g ∧ kGd τ g ∧ kTv τ g = iT τ s t ∧ x = nI g) ∨ (x = -1 ∧ (∀ g, kV n 776 u g → kTv τ g ≠ iT τ s t) ∧ ¬ kGd τ t ∧ τ 2 t ≠ nI 3)
def ptQ (τ : kS) (n u : Nat) (l : rwT) (s t : Nat) : Prop := vaQ τ n u s t (τ 230 t) ∧ τ 231 t = isB (vmk (kIn τ l) (mA τ) (τ 238) (iT τ s t))
section WG
variable {τ : kS} {n u m s : Nat} {l : rwT}
theorem kSt_2 {t k x y : Nat} (h : iE τ 204 776 n u m l) (hk : τ 2 t = nI k) (hx : τ 3 t = nI x) (hy : τ 4 t = nI y) (h3 : 3 < k) (hk9 : k ≤ 9) (h4 : x < t) (h5 : y < t) (h6 : kV n 776 u x) (h7 : kV n 776 u y) : iT τ s t = vnd k (iT τ s x) (some (iT τ s y)) ∧ kVs τ t = kVs τ x ++ kVs τ y := ⟨tA_2 (iE_V h) hk hx hy h3 hk9 h4 h5 h6 h7, tA_2 (iE_V h) hk hx hy h3 hk9 h4 h5 h6 h7⟩
theorem kSt_1 {t k x : Nat} (h : iE τ 204 776 n u m l) (hk : τ 2 t = nI k) (hx : τ 3 t = nI x) (hy : τ 4 t = -1) (h3 : 3 < k) (hk9 : k ≤ 9) (h4 : x < t) (h6 : kV n 776 u x) : iT τ s t = vnd k (iT τ s x) none ∧ kVs τ t = kVs τ x ++ [] := ⟨tA_1 (iE_V h) hk hx hy h3 hk9 h4 h6, tA_1 (iE_V h) hk hx hy h3 hk9 h4 h6⟩
/-- what may be an agent is one in the draft -/
theorem iT_ag {t : Nat} (h : iE τ 204 776 n u m l) (hs : kSt τ n 202 (7 * s + 1) (wV τ s) t) (ha : kAG τ n t) : ∃ z, z < n ∧ τ 2 z = nI 0 ∧ iT τ s t = .arg z ∧ kTv τ z = .arg z ∧ kGd τ z := by
  have key : ∀ z, z < n → τ 2 z = nI 0 → kTv τ z = .arg z ∧ kGd τ z := fun z hz hk => ⟨tvl_0 hk (by decide), by unfold kGd; rw [tgd_0 hk (by decide)]; decide⟩
  rcases ha.2 with hk | ⟨hk, hso⟩
  · refine ⟨t, ha.1, hk, ?_, key t ha.1 hk⟩
    unfold iT tW
    rw [tA_0 hk (by decide), if_neg]
    rw [hk]
    exact nI_ne (by decide)
  · have hvt : t ∈ kVs τ t := by
      unfold kVs tvs
      rw [tA_0 hk (by decide), if_pos hk]
      exact List.mem_singleton.mpr rfl
    obtain ⟨p, z, z1, z2, z3, z4, z5, z6, z7⟩ := hs t hvt
    have hk0 := z7 hso
    refine ⟨z, z2, hk0, ?_, key z z2 hk0⟩
    unfold iT tW
    rw [tA_0 hk (by decide), if_pos hk, ← z6]
    exact (key z z2 hk0).1
/-- the agent's number -/
theorem pt_ag {t : Nat} (h : iE τ 204 776 n u m l) (hs : kSt τ n 202 (7 * s + 1) (wV τ s) t) (ha : kAG τ n t) (hp : ptQ τ n u l s t) : ∃ z, z < n ∧ τ 2 z = nI 0 ∧ iT τ s t = .arg z ∧ τ 230 t = nI z := by
  obtain ⟨z, z1, z2, z3, z4, z5⟩ := iT_ag h hs ha
  refine ⟨z, z1, z2, z3, ?_⟩
  rcases hp.1 with ⟨g, g1, g2, g3, g4⟩ | ⟨-, g2, -⟩
  · have : g = z := kTv_inj h g1 (Or.inl z1) (g3.trans (z3.trans z4.symm))
    rw [g4, this]
  · exact absurd (z4.trans z3.symm) (g2 z (Or.inl z1))
set_option maxRecDepth 100000 in
set_option maxHeartbeats 4000000 in
theorem mf_qValueOf (L : Nat) (xs : Nat → Int32) (d : Nat) (t : Nat) (h : iE τ 204 776 n u m l) (hC : cCn τ n) (hG : gR τ n) (ht : t < n) (hs : s < 4) (hv : τ 222 3 = nI (7 * s + 1)) (hst : kSt τ n 202 (7 * s + 1) (wV τ s) t) (hch : ¬ kGd τ t → τ 2 t ≠ nI 3 → ∀ p, p < n → (τ 3 t = nI p ∨ τ 4 t = nI p) → vaQ τ n u s p (τ 230 p)) : kXM kT L xs (d + 3) 36 [.ref 222, .int (nI t)] τ (fun r σ' => (∃ x, r = some (.int x) ∧ vaQ τ n u s t x) ∧ τ = σ') := by
  have hn := h.2.1
  have hV := iE_V h
  have hu := h.2.2.2.2.1.1
  unfold kXM
  iterate 4 (refine kX_one rfl ?_)
  refine kX_baldV rfl rfl (by decide) (t) (by first | rfl | decide) (by omega) (hG t ht) ?_
  repeat refine kX_one rfl ?_
  refine kX_if (fun q => ?_) (fun q => ?_)
  · have hg0 : ¬ kGd τ t := fun z => isB_ne.mpr z (qeq q)
    have k105 : ∀ (k : Nat) (X Y v : Int32), τ 2 t = nI k → (∀ r : Option Value, cFn τ (fun t => kV n 776 u t ∧ 3 < fN (τ 2 t)) (nI k) X Y r → ∃ x, r = some (.int x) ∧ vaQ τ n u s t x) → kX kT L xs (d + 3) 36 105 [(4, .int Y), (3, .int v), (2, .int X), (0, .ref 222), (1, .int (nI t))] [] τ (fun r σ' => (∃ x, r = some (.int x) ∧ vaQ τ n u s t x) ∧ τ = σ') := by
      intro k X Y v hk hfin
      iterate 11 (refine kX_one rfl ?_)
      refine kX_ialdV rfl rfl (by decide) (t) (by first | rfl | decide) (by omega) (hk) ?_
      iterate 2 (refine kX_one rfl ?_)
      refine kX_cal (mf_kFind L xs d τ 204 776 n u m l (nI k) X Y h hC) rfl (Or.inr rfl) rfl rfl rfl (fun r1 σ1 q1 => ?_)
      obtain ⟨hq, rfl⟩ := q1
      obtain ⟨x, rfl, hx⟩ := hfin r1 hq
      repeat refine kX_one rfl ?_
      refine kX_ret (i := .ireturn) (len := 1) rfl (Or.inr rfl) rfl (⟨⟨x, rfl, hx⟩, rfl⟩)
    iterate 4 (refine kX_one rfl ?_)
    rcases (hV t (Or.inl ht)).2 with ⟨k, h3, hk, -, -⟩ | ⟨k, x, y, h3, hk, hx, hy, h4, h5, h6, h7⟩ | ⟨k, x, h3, hk, hx, hy, h4, h6⟩
    · obtain rfl : k = 3 := Classical.byContradiction fun z => hg0 (by unfold kGd; rw [tgd_0 hk h3]; exact decide_eq_true z)
      have hvt : t ∈ kVs τ t := by
        unfold kVs tvs
        rw [tA_0 hk h3, if_pos hk]
        exact List.mem_singleton.mpr rfl
      obtain ⟨p, z, z1, z2, z3, z4, z5, z6, z7⟩ := hst t hvt
      refine kX_ialdV rfl rfl (by decide) (t) (by first | rfl | decide) (by omega) (hk) ?_
      iterate 2 (refine kX_one rfl ?_)
      iterate 4 (refine kX_one rfl ?_)
      refine kX_top (hv) ?_
      iterate 4 (refine kX_one rfl ?_)
      refine kX_ialdV rfl rfl (by decide) (t) (by first | rfl | decide) (by omega) (z3) ?_
      iterate 1 (refine kX_one rfl ?_)
      refine kX_top (y := nI (7 * s + 1 + p)) (nI_add (7 * s + 1) p) ?_
      refine kX_ialdV rfl rfl (by decide) (7 * s + 1 + p) (by first | rfl | decide) (by omega) (z4) ?_
      have hf : vaQ τ n u s t (nI z) := by
        refine Or.inl ⟨z, Or.inl z2, z5, ?_, rfl⟩
        rw [z6]
        unfold iT tW
        rw [tA_0 hk h3, if_pos hk]
      refine kX_ret (i := .ireturn) (len := 1) rfl (Or.inr rfl) rfl (⟨⟨_, rfl, hf⟩, rfl⟩)
    · have hk3 : τ 2 t ≠ nI 3 := by rw [hk]; exact nI_ne (by omega)
      have hxn : x < n := by omega
      have hyn : y < n := by omega
      obtain ⟨hiT, -⟩ := kSt_2 (s := s) h hk hx hy (by omega) (by omega) h4 h5 h6 h7
      have hX := hch hg0 hk3 x hxn (Or.inl hx)
      have hY := hch hg0 hk3 y hyn (Or.inr hy)
      have hnone : (∀ g, kV n 776 u g → kTv τ g ≠ iT τ s x) ∨ (∀ g, kV n 776 u g → kTv τ g ≠ iT τ s y) → vaQ τ n u s t (-1) := fun hz => by
        refine Or.inr ⟨rfl, fun g hg e => ?_, hg0, hk3⟩
        rw [hiT] at e
        rcases (hV g hg).2 with ⟨k', z3, zk, -, -⟩ | ⟨k', a, c, z3, zk, za, zc, w4, w5, w6, w7⟩ | ⟨k', a, z3, zk, za, zc, w4, w6⟩
        · have e2 : kTv τ g = .arg g := tvl_0 zk z3
          rw [e2] at e
          rcases h3 with rfl | rfl | ⟨rfl | rfl, -⟩ <;> exact absurd e (by simp [vnd])
        · have e2 : kTv τ g = vnd k' (kTv τ a) (some (kTv τ c)) := tvl_2 hV zk za zc (by omega) (by omega) w4 w5 w6 w7
          rw [e2] at e
          obtain ⟨-, e3, e4⟩ := vnd_inj2 (by omega) (by omega) e
          rcases hz with hz | hz
          · exact hz a w6 e3
          · exact hz c w7 e4
        · have e2 : kTv τ g = vnd k' (kTv τ a) none := tvl_1 hV zk za zc (by omega) (by omega) w4 w6
          rw [e2] at e
          exact absurd e.symm (vnd_21 (by omega) (by omega))
      refine kX_ialdV rfl rfl (by decide) (t) (by first | rfl | decide) (by omega) (hk) ?_
      repeat refine kX_one rfl ?_
      refine kX_ifT (decide_eq_true (show nI k ≠ nI 3 from nI_ne (by omega))) ?_
      iterate 6 (refine kX_one rfl ?_)
      refine kX_ialdV rfl rfl (by decide) (t) (by first | rfl | decide) (by omega) (hx) ?_
      rcases hX with ⟨gx, gx1, gx2, gx3, gx4⟩ | ⟨gx4, gx2, -⟩
      · have gxl := iE_lt h gx1
        refine kX_ialdV rfl rfl (by decide) (x) (by first | rfl | decide) (by omega) (gx4) ?_
        iterate 5 (refine kX_one rfl ?_)
        refine kX_ialdV rfl rfl (by decide) (t) (by first | rfl | decide) (by omega) (hy) ?_
        iterate 1 (refine kX_one rfl ?_)
        repeat refine kX_one rfl ?_
        refine kX_ifT (decide_eq_true (show nI y ≠ -1 from nI_m1 (by omega))) ?_
        iterate 3 (refine kX_one rfl ?_)
        rcases hY with ⟨gy, gy1, gy2, gy3, gy4⟩ | ⟨gy4, gy2, -⟩
        · have gyl := iE_lt h gy1
          refine kX_ialdV rfl rfl (by decide) (y) (by first | rfl | decide) (by omega) (gy4) ?_
          iterate 1 (refine kX_one rfl ?_)
          repeat refine kX_one rfl ?_
          refine kX_ifF (decide_eq_false (show nI gx ≠ -1 from nI_m1 (by omega))) ?_
          repeat refine kX_one rfl ?_
          refine kX_ifT (decide_eq_true (show nI gy ≠ -1 from nI_m1 (by omega))) ?_
          refine kX_lv _ rfl rfl rfl (k105 k (nI gx) (nI gy) (nI y) hk (fun r hr => ?_))
          rcases hr with ⟨rfl, hno⟩ | ⟨g, g1, rfl, g3⟩
          · refine ⟨_, rfl, Or.inr ⟨rfl, fun g hg e => ?_, hg0, hk3⟩⟩
            rw [hiT, ← gx3, ← gy3] at e
            rcases (hV g hg).2 with ⟨k', z3, zk, -, -⟩ | ⟨k', a, c, z3, zk, za, zc, w4, w5, w6, w7⟩ | ⟨k', a, z3, zk, za, zc, w4, w6⟩
            · have e2 : kTv τ g = .arg g := tvl_0 zk z3
              rw [e2] at e
              rcases h3 with rfl | rfl | ⟨rfl | rfl, -⟩ <;> exact absurd e (by simp [vnd])
            · have e2 : kTv τ g = vnd k' (kTv τ a) (some (kTv τ c)) := tvl_2 hV zk za zc (by omega) (by omega) w4 w5 w6 w7
              rw [e2] at e
              obtain ⟨e5, e3, e4⟩ := vnd_inj2 (by omega) (by omega) e
              subst e5
              obtain rfl := kTv_inj h w6 gx1 e3
              obtain rfl := kTv_inj h w7 gy1 e4
              exact hno g ⟨hg, by rw [zk, fN_nI (by omega)]; omega⟩ ⟨zk, za, zc⟩
            · have e2 : kTv τ g = vnd k' (kTv τ a) none := tvl_1 hV zk za zc (by omega) (by omega) w4 w6
              rw [e2] at e
              exact absurd e.symm (vnd_21 (by omega) (by omega))
          · have hgv := g1.1
            rcases (hV g hgv).2 with ⟨k', z3, zk, zf, -⟩ | ⟨k', a, c, z3, zk, za, zc, w4, w5, w6, w7⟩ | ⟨k', a, z3, zk, za, zc, w4, w6⟩
            · exact absurd (zf.symm.trans g3.2.1) (fun w => nI_m1 (by omega) w.symm)
            · have al := iE_lt h w6
              have cl := iE_lt h w7
              obtain rfl : k' = k := nI_inj (zk.symm.trans g3.1)
              obtain rfl : a = gx := nI_inj (za.symm.trans g3.2.1)
              obtain rfl : c = gy := nI_inj (zc.symm.trans g3.2.2)
              have e2 : kTv τ g = vnd k' (kTv τ a) (some (kTv τ c)) := tvl_2 hV zk za zc (by omega) (by omega) w4 w5 w6 w7
              refine ⟨_, rfl, Or.inl ⟨g, hgv, ?_, by rw [e2, gx3, gy3, hiT], rfl⟩⟩
              unfold kGd
              rw [tgd_2 hV zk za zc (by omega) (by omega) w4 w5 w6 w7, Bool.and_eq_true]
              exact ⟨gx2, gy2⟩
            · exact absurd (zc.symm.trans g3.2.2) (fun w => nI_m1 (by omega) w.symm)
        · refine kX_ialdV rfl rfl (by decide) (y) (by first | rfl | decide) (by omega) (gy4) ?_
          have hf := hnone (Or.inr gy2)
          iterate 1 (refine kX_one rfl ?_)
          repeat refine kX_one rfl ?_
          refine kX_ifF (decide_eq_false (show nI gx ≠ -1 from nI_m1 (by omega))) ?_
          repeat refine kX_one rfl ?_
          refine kX_ifT (decide_eq_true (show nI y ≠ -1 from nI_m1 (by omega))) ?_
          repeat refine kX_one rfl ?_
          refine kX_ret (i := .ireturn) (len := 1) rfl (Or.inr rfl) rfl (⟨⟨_, rfl, hf⟩, rfl⟩)
      · have hf := hnone (Or.inl gx2)
        refine kX_ialdV rfl rfl (by decide) (x) (by first | rfl | decide) (by omega) (gx4) ?_
        iterate 5 (refine kX_one rfl ?_)
        refine kX_ialdV rfl rfl (by decide) (t) (by first | rfl | decide) (by omega) (hy) ?_
        iterate 1 (refine kX_one rfl ?_)
        repeat refine kX_one rfl ?_
        refine kX_ifT (decide_eq_true (show nI y ≠ -1 from nI_m1 (by omega))) ?_
        iterate 3 (refine kX_one rfl ?_)
        refine kX_ialdN rfl rfl (by decide) (y) (by first | rfl | decide) (by omega) ?_
        repeat refine kX_one rfl ?_
        refine kX_ret (i := .ireturn) (len := 1) rfl (Or.inr rfl) rfl (⟨⟨_, rfl, hf⟩, rfl⟩)
    · have hk3 : τ 2 t ≠ nI 3 := by rw [hk]; exact nI_ne (by omega)
      have hxn : x < n := by omega
      obtain ⟨hiT, -⟩ := kSt_1 (s := s) h hk hx hy (by omega) (by omega) h4 h6
      have hX := hch hg0 hk3 x hxn (Or.inl hx)
      refine kX_ialdV rfl rfl (by decide) (t) (by first | rfl | decide) (by omega) (hk) ?_
      repeat refine kX_one rfl ?_
      refine kX_ifT (decide_eq_true (show nI k ≠ nI 3 from nI_ne (by omega))) ?_
      iterate 6 (refine kX_one rfl ?_)
      refine kX_ialdV rfl rfl (by decide) (t) (by first | rfl | decide) (by omega) (hx) ?_
      have harg : ∀ g : Nat, vnd k (iT τ s x) none ≠ .arg g := fun g e => by
        rcases h3 with rfl | ⟨rfl, -⟩ <;> exact absurd e (by simp [vnd])
      rcases hX with ⟨gx, gx1, gx2, gx3, gx4⟩ | ⟨gx4, gx2, -⟩
      · have gxl := iE_lt h gx1
        refine kX_ialdV rfl rfl (by decide) (x) (by first | rfl | decide) (by omega) (gx4) ?_
        iterate 5 (refine kX_one rfl ?_)
        refine kX_ialdV rfl rfl (by decide) (t) (by first | rfl | decide) (by omega) (hy) ?_
        iterate 6 (refine kX_one rfl ?_)
        iterate 1 (refine kX_one rfl ?_)
        repeat refine kX_one rfl ?_
        refine kX_ifF (decide_eq_false (show nI gx ≠ -1 from nI_m1 (by omega))) ?_
        iterate 6 (refine kX_one rfl ?_)
        refine kX_lv _ rfl rfl rfl (k105 k (nI gx) (-1) (-1) hk (fun r hr => ?_))
        rcases hr with ⟨rfl, hno⟩ | ⟨g, g1, rfl, g3⟩
        · refine ⟨_, rfl, Or.inr ⟨rfl, fun g hg e => ?_, hg0, hk3⟩⟩
          rw [hiT] at e
          rcases (hV g hg).2 with ⟨k', z3, zk, -, -⟩ | ⟨k', a, c, z3, zk, za, zc, w4, w5, w6, w7⟩ | ⟨k', a, z3, zk, za, zc, w4, w6⟩
          · have e2 : kTv τ g = .arg g := tvl_0 zk z3
            rw [e2] at e
            exact absurd e.symm (harg g)
          · have e2 : kTv τ g = vnd k' (kTv τ a) (some (kTv τ c)) := tvl_2 hV zk za zc (by omega) (by omega) w4 w5 w6 w7
            rw [e2] at e
            exact absurd e (vnd_21 (by omega) (by omega))
          · have e2 : kTv τ g = vnd k' (kTv τ a) none := tvl_1 hV zk za zc (by omega) (by omega) w4 w6
            rw [e2, ← gx3] at e
            obtain ⟨e5, e3⟩ := vnd_inj1 (by omega) (by omega) e
            subst e5
            obtain rfl := kTv_inj h w6 gx1 e3
            exact hno g ⟨hg, by rw [zk, fN_nI (by omega)]; omega⟩ ⟨zk, za, zc⟩
        · have hgv := g1.1
          rcases (hV g hgv).2 with ⟨k', z3, zk, zf, -⟩ | ⟨k', a, c, z3, zk, za, zc, w4, w5, w6, w7⟩ | ⟨k', a, z3, zk, za, zc, w4, w6⟩
          · exact absurd (zf.symm.trans g3.2.1) (fun w => nI_m1 (by omega) w.symm)
          · have cl := iE_lt h w7
            exact absurd (zc.symm.trans g3.2.2) (nI_m1 (by omega))
          · have al := iE_lt h w6
            obtain rfl : k' = k := nI_inj (zk.symm.trans g3.1)
            obtain rfl : a = gx := nI_inj (za.symm.trans g3.2.1)
            have e2 : kTv τ g = vnd k' (kTv τ a) none := tvl_1 hV zk za zc (by omega) (by omega) w4 w6
            refine ⟨_, rfl, Or.inl ⟨g, hgv, ?_, by rw [e2, gx3, hiT], rfl⟩⟩
            unfold kGd
            rw [tgd_1 hV zk za zc (by omega) (by omega) w4 w6]
            exact gx2
      · have hf : vaQ τ n u s t (-1) := by
          refine Or.inr ⟨rfl, fun g hg e => ?_, hg0, hk3⟩
          rw [hiT] at e
          rcases (hV g hg).2 with ⟨k', z3, zk, -, -⟩ | ⟨k', a, c, z3, zk, za, zc, w4, w5, w6, w7⟩ | ⟨k', a, z3, zk, za, zc, w4, w6⟩
          · have e2 : kTv τ g = .arg g := tvl_0 zk z3
            rw [e2] at e
            exact absurd e.symm (harg g)
          · have e2 : kTv τ g = vnd k' (kTv τ a) (some (kTv τ c)) := tvl_2 hV zk za zc (by omega) (by omega) w4 w5 w6 w7
            rw [e2] at e
            exact absurd e (vnd_21 (by omega) (by omega))
          · have e2 : kTv τ g = vnd k' (kTv τ a) none := tvl_1 hV zk za zc (by omega) (by omega) w4 w6
            rw [e2] at e
            obtain ⟨-, e3⟩ := vnd_inj1 (by omega) (by omega) e
            exact gx2 a w6 e3
        refine kX_ialdV rfl rfl (by decide) (x) (by first | rfl | decide) (by omega) (gx4) ?_
        iterate 5 (refine kX_one rfl ?_)
        refine kX_ialdV rfl rfl (by decide) (t) (by first | rfl | decide) (by omega) (hy) ?_
        repeat refine kX_one rfl ?_
        refine kX_ret (i := .ireturn) (len := 1) rfl (Or.inr rfl) rfl (⟨⟨_, rfl, hf⟩, rfl⟩)
  · have hg1 : kGd τ t := isB_ne.mp (qeqF q)
    have hf : vaQ τ n u s t (nI t) := Or.inl ⟨t, Or.inl ht, hg1, (tW_gd h t (Or.inl ht) hg1).symm, rfl⟩
    repeat refine kX_one rfl ?_
    refine kX_ret (i := .ireturn) (len := 1) rfl (Or.inr rfl) rfl (⟨⟨_, rfl, hf⟩, rfl⟩)
end WG
end
section
/-! alike: canCompose, weigh -/
theorem isB_an {P Q : Prop} (hP : P) : isB (P ∧ Q) = isB Q := isB_iff ⟨fun z => z.2, fun z => ⟨hP, z⟩⟩
section WG
variable {τ : kS} {n u m s : Nat} {l : rwT}
set_option maxRecDepth 100000 in
set_option maxHeartbeats 4000000 in
theorem mf_canCompose (L : Nat) (xs : Nat → Int32) (d : Nat) (t : Nat) (h : iE τ 204 776 n u m l) (ht : t < n) (hg0 : ¬ kGd τ t) (hk3 : τ 2 t ≠ nI 3) (hno : ∀ g, kV n 776 u g → kTv τ g ≠ iT τ s t) (hst : kSt τ n 202 (7 * s + 1) (wV τ s) t) (hch : ∀ p, p < n → (τ 3 t = nI p ∨ τ 4 t = nI p) → ptQ τ n u l s p) : kXM kT L xs (d + 2) 37 [.ref 222, .int (nI t)] τ (fun r σ' => r = some (.int (isB (vmk (kIn τ l) (mA τ) (τ 238) (iT τ s t)))) ∧ τ = σ') := by
  have hn := h.2.1
  have hV := iE_V h
  have hK : isK 204 776 := h.1
  have hni : ¬ kIn τ l (iT τ s t) := fun ⟨g, g1, g2⟩ => hno g (iE_l h g1).1 g2
  unfold kXM
  rcases (hV t (Or.inl ht)).2 with ⟨k, h3, hk, -, -⟩ | ⟨k, x, y, h3, hk, hx, hy, h4, h5, h6, h7⟩ | ⟨k, x, h3, hk, hx, hy, h4, h6⟩
  · refine absurd ?_ hg0
    unfold kGd
    rw [tgd_0 hk h3]
    exact decide_eq_true (fun e => hk3 (hk.trans (by rw [e])))
  · have hxn : x < n := by omega
    have hyn : y < n := by omega
    obtain ⟨hiT, hvs⟩ := kSt_2 (s := s) h hk hx hy (by omega) (by omega) h4 h5 h6 h7
    obtain ⟨hxv, hxc⟩ := hch x hxn (Or.inl hx)
    have hY := hch y hyn (Or.inr hy)
    have hyc := hY.2
    rw [hiT] at hni ⊢
    iterate 4 (refine kX_one rfl ?_)
    refine kX_ialdV rfl rfl (by decide) (t) (by first | rfl | decide) (by omega) (hx) ?_
    iterate 5 (refine kX_one rfl ?_)
    refine kX_ialdV rfl rfl (by decide) (t) (by first | rfl | decide) (by omega) (hy) ?_
    iterate 5 (refine kX_one rfl ?_)
    have two : ∀ k, (k = 4 ∨ k = 5) → ¬ kIn τ l (vnd k (iT τ s x) (some (iT τ s y))) → isB (vmk (kIn τ l) (mA τ) (τ 238) (vnd k (iT τ s x) (some (iT τ s y)))) = isB (vmk (kIn τ l) (mA τ) (τ 238) (iT τ s x) ∧ vmk (kIn τ l) (mA τ) (τ 238) (iT τ s y)) := fun k hk hz => by
      refine isB_iff ?_
      rcases hk with rfl | rfl
      · exact ⟨fun z => z.elim (fun w => absurd w hz) id, Or.inr⟩
      · exact ⟨fun z => z.elim (fun w => absurd w hz) id, Or.inr⟩
    have step45 : (k = 4 ∨ k = 5) → True := fun _ => trivial
    rcases h3 with rfl | rfl | ⟨rfl | rfl, ha⟩
    · rw [two 4 (Or.inl rfl) hni]
      refine kX_ialdV rfl rfl (by decide) (t) (by first | rfl | decide) (by omega) (hk) ?_
      iterate 4 (refine kX_one rfl ?_)
      refine kX_baldV rfl rfl (by decide) (x) (by first | rfl | decide) (by omega) (hxc) ?_
      repeat refine kX_one rfl ?_
      refine kX_if (fun q => ?_) (fun q => ?_)
      · have q : ¬ vmk (kIn τ l) (mA τ) (τ 238) (iT τ s x) := fun z => isB_ne.mpr z (qeq q)
        rw [isB_F (fun z => q z.1)]
        repeat refine kX_one rfl ?_
        refine kX_ret (i := .ireturn) (len := 1) rfl (Or.inr rfl) rfl (⟨rfl, rfl⟩)
      · have q : vmk (kIn τ l) (mA τ) (τ 238) (iT τ s x) := isB_ne.mp (qeqF q)
        rw [isB_an q]
        iterate 3 (refine kX_one rfl ?_)
        refine kX_baldV rfl rfl (by decide) (y) (by first | rfl | decide) (by omega) (hyc) ?_
        repeat refine kX_one rfl ?_
        refine kX_if (fun q2 => ?_) (fun q2 => ?_)
        · rw [isB_F (fun z => isB_ne.mpr z (qeq q2))]
          repeat refine kX_one rfl ?_
          refine kX_ret (i := .ireturn) (len := 1) rfl (Or.inr rfl) rfl (⟨rfl, rfl⟩)
        · rw [isB_T (isB_ne.mp (qeqF q2))]
          repeat refine kX_one rfl ?_
          refine kX_ret (i := .ireturn) (len := 1) rfl (Or.inr rfl) rfl (⟨rfl, rfl⟩)
    · rw [two 5 (Or.inr rfl) hni]
      refine kX_ialdV rfl rfl (by decide) (t) (by first | rfl | decide) (by omega) (hk) ?_
      iterate 4 (refine kX_one rfl ?_)
      refine kX_baldV rfl rfl (by decide) (x) (by first | rfl | decide) (by omega) (hxc) ?_
      repeat refine kX_one rfl ?_
      refine kX_if (fun q => ?_) (fun q => ?_)
      · have q : ¬ vmk (kIn τ l) (mA τ) (τ 238) (iT τ s x) := fun z => isB_ne.mpr z (qeq q)
        rw [isB_F (fun z => q z.1)]
        repeat refine kX_one rfl ?_
        refine kX_ret (i := .ireturn) (len := 1) rfl (Or.inr rfl) rfl (⟨rfl, rfl⟩)
      · have q : vmk (kIn τ l) (mA τ) (τ 238) (iT τ s x) := isB_ne.mp (qeqF q)
        rw [isB_an q]
        iterate 3 (refine kX_one rfl ?_)
        refine kX_baldV rfl rfl (by decide) (y) (by first | rfl | decide) (by omega) (hyc) ?_
        repeat refine kX_one rfl ?_
        refine kX_if (fun q2 => ?_) (fun q2 => ?_)
        · rw [isB_F (fun z => isB_ne.mpr z (qeq q2))]
          repeat refine kX_one rfl ?_
          refine kX_ret (i := .ireturn) (len := 1) rfl (Or.inr rfl) rfl (⟨rfl, rfl⟩)
        · rw [isB_T (isB_ne.mp (qeqF q2))]
          repeat refine kX_one rfl ?_
          refine kX_ret (i := .ireturn) (len := 1) rfl (Or.inr rfl) rfl (⟨rfl, rfl⟩)
    · have e : isB (vmk (kIn τ l) (mA τ) (τ 238) (vnd 6 (iT τ s x) (some (iT τ s y)))) = isB (vmk (kIn τ l) (mA τ) (τ 238) (iT τ s x)) := isB_iff ⟨fun z => z.elim (fun w => absurd w hni) id, Or.inr⟩
      rw [e]
      refine kX_ialdV rfl rfl (by decide) (t) (by first | rfl | decide) (by omega) (hk) ?_
      iterate 4 (refine kX_one rfl ?_)
      refine kX_baldV rfl rfl (by decide) (x) (by first | rfl | decide) (by omega) (hxc) ?_
      refine kX_ret (i := .ireturn) (len := 1) rfl (Or.inr rfl) (jend_b rfl (isB_01 _)) ⟨rfl, rfl⟩
    · obtain ⟨z, z1, z2, z3, z4⟩ := pt_ag h (fun v hv => hst v (by rw [hvs]; exact List.mem_append_right _ hv)) ha hY
      have e : isB (vmk (kIn τ l) (mA τ) (τ 238) (vnd 8 (iT τ s x) (some (iT τ s y)))) = isB (vmk (kIn τ l) (mA τ) (τ 238) (iT τ s x) ∧ kHp τ l z) := by
        refine isB_iff ?_
        rw [z3] at hni ⊢
        rw [kHp_t h (Or.inl z1) z2]
        exact ⟨fun w => w.elim (fun w => absurd w hni) id, Or.inr⟩
      rw [e]
      refine kX_ialdV rfl rfl (by decide) (t) (by first | rfl | decide) (by omega) (hk) ?_
      iterate 4 (refine kX_one rfl ?_)
      refine kX_baldV rfl rfl (by decide) (x) (by first | rfl | decide) (by omega) (hxc) ?_
      repeat refine kX_one rfl ?_
      refine kX_if (fun q => ?_) (fun q => ?_)
      · have q : ¬ vmk (kIn τ l) (mA τ) (τ 238) (iT τ s x) := fun z => isB_ne.mpr z (qeq q)
        rw [isB_F (fun z => q z.1)]
        repeat refine kX_one rfl ?_
        refine kX_ret (i := .ireturn) (len := 1) rfl (Or.inr rfl) rfl (⟨rfl, rfl⟩)
      · have q : vmk (kIn τ l) (mA τ) (τ 238) (iT τ s x) := isB_ne.mp (qeqF q)
        rw [isB_an q]
        iterate 5 (refine kX_one rfl ?_)
        refine kX_ialdV rfl rfl (by decide) (y) (by first | rfl | decide) (by omega) (z4) ?_
        refine kX_cal (mf_hasPriv L xs d τ 204 776 n u m z l h z1 z2) rfl (Or.inr rfl) rfl rfl rfl (fun r1 σ1 q1 => ?_)
        obtain ⟨rfl, rfl⟩ := q1
        by_cases hh : kHp τ l z
        · rw [isB_T hh]
          repeat refine kX_one rfl ?_
          refine kX_ret (i := .ireturn) (len := 1) rfl (Or.inr rfl) rfl (⟨rfl, rfl⟩)
        · rw [isB_F hh]
          repeat refine kX_one rfl ?_
          refine kX_ret (i := .ireturn) (len := 1) rfl (Or.inr rfl) rfl (⟨rfl, rfl⟩)
  · have hxn : x < n := by omega
    obtain ⟨hiT, hvs⟩ := kSt_1 (s := s) h hk hx hy (by omega) (by omega) h4 h6
    have hX := hch x hxn (Or.inl hx)
    have hxc := hX.2
    rw [hiT] at hni ⊢
    iterate 4 (refine kX_one rfl ?_)
    refine kX_ialdV rfl rfl (by decide) (t) (by first | rfl | decide) (by omega) (hx) ?_
    iterate 5 (refine kX_one rfl ?_)
    refine kX_ialdV rfl rfl (by decide) (t) (by first | rfl | decide) (by omega) (hy) ?_
    iterate 5 (refine kX_one rfl ?_)
    rcases h3 with rfl | ⟨rfl, ha⟩
    · have e : isB (vmk (kIn τ l) (mA τ) (τ 238) (vnd 9 (iT τ s x) none)) = isB (vmk (kIn τ l) (mA τ) (τ 238) (iT τ s x)) := isB_iff ⟨fun z => z.elim (fun w => absurd w hni) id, Or.inr⟩
      rw [e]
      refine kX_ialdV rfl rfl (by decide) (t) (by first | rfl | decide) (by omega) (hk) ?_
      iterate 4 (refine kX_one rfl ?_)
      refine kX_baldV rfl rfl (by decide) (x) (by first | rfl | decide) (by omega) (hxc) ?_
      refine kX_ret (i := .ireturn) (len := 1) rfl (Or.inr rfl) (jend_b rfl (isB_01 _)) ⟨rfl, rfl⟩
    · obtain ⟨z, z1, z2, z3, z4⟩ := pt_ag h (fun v hv => hst v (by rw [hvs]; exact List.mem_append_left _ hv)) ha hX
      have e : isB (vmk (kIn τ l) (mA τ) (τ 238) (vnd 7 (iT τ s x) none)) = isB (kHp τ l z) := by
        refine isB_iff ?_
        rw [z3] at hni ⊢
        rw [kHp_t h (Or.inl z1) z2]
        exact ⟨fun w => w.elim (fun w => absurd w hni) Or.inl, fun w => w.elim Or.inr (fun w => absurd w hni)⟩
      rw [e]
      refine kX_ialdV rfl rfl (by decide) (t) (by first | rfl | decide) (by omega) (hk) ?_
      iterate 6 (refine kX_one rfl ?_)
      refine kX_ialdV rfl rfl (by decide) (x) (by first | rfl | decide) (by omega) (z4) ?_
      refine kX_cal (mf_hasPriv L xs d τ 204 776 n u m z l h z1 z2) rfl (Or.inr rfl) rfl rfl rfl (fun r1 σ1 q1 => ?_)
      obtain ⟨rfl, rfl⟩ := q1
      refine kX_ret (i := .ireturn) (len := 1) rfl (Or.inr rfl) (jend_b rfl (isB_01 _)) ⟨rfl, rfl⟩
end WG
end
section
/-! alike: weigh -/
/-- only marks and what was weighed have changed -/
def wqF (σ τ : kS) : Prop := ∀ c, c ≠ 210 → c ≠ 230 → c ≠ 231 → τ c = σ c
theorem wqF_refl (σ : kS) : wqF σ σ := fun _ _ _ _ => rfl
theorem wqF_trans {σ τ ρ : kS} (h1 : wqF σ τ) (h2 : wqF τ ρ) : wqF σ ρ := fun c a b e => (h2 c a b e).trans (h1 c a b e)
theorem wq_iT {σ τ : kS} (h : wqF σ τ) : iT τ = iT σ := by
  funext s t
  unfold iT tW wV kTv
  rw [h 2 (by decide) (by decide) (by decide), h 3 (by decide) (by decide) (by decide), h 4 (by decide) (by decide) (by decide), h 12 (by decide) (by decide) (by decide), h 202 (by decide) (by decide) (by decide)]
theorem wq_pt {σ τ : kS} {n u s t : Nat} {l : rwT} (h : wqF σ τ) (e1 : τ 230 t = σ 230 t) (e2 : τ 231 t = σ 231 t) (hp : ptQ σ n u l s t) : ptQ τ n u l s t := by
  unfold ptQ vaQ at hp ⊢
  rw [wq_iT h, e1, e2]
  unfold kIn kTv kGd mA at hp ⊢
  rw [h 2 (by decide) (by decide) (by decide), h 3 (by decide) (by decide) (by decide), h 4 (by decide) (by decide) (by decide), h 233 (by decide) (by decide) (by decide), h 238 (by decide) (by decide) (by decide)]
  exact hp
theorem wq_st {σ τ : kS} {n s t : Nat} (h : wqF σ τ) (hp : kSt σ n 202 (7 * s + 1) (wV σ s) t) : kSt τ n 202 (7 * s + 1) (wV τ s) t := by
  unfold kSt wV kVs kTv kGd at hp ⊢
  rw [h 2 (by decide) (by decide) (by decide), h 3 (by decide) (by decide) (by decide), h 4 (by decide) (by decide) (by decide), h 12 (by decide) (by decide) (by decide), h 11 (by decide) (by decide) (by decide), h 202 (by decide) (by decide) (by decide)]
  exact hp
theorem wq_Cn {σ τ : kS} {n : Nat} (h : wqF σ τ) (hC : cCn σ n) : cCn τ n := by
  unfold cCn cpt at hC ⊢
  rw [h 2 (by decide) (by decide) (by decide), h 3 (by decide) (by decide) (by decide), h 4 (by decide) (by decide) (by decide), h 7 (by decide) (by decide) (by decide), h 6 (by decide) (by decide) (by decide)]
  exact hC
theorem wq_gR {σ τ : kS} {n : Nat} (h : wqF σ τ) (hC : gR σ n) : gR τ n := by
  unfold gR kGd at hC ⊢
  rw [h 2 (by decide) (by decide) (by decide), h 3 (by decide) (by decide) (by decide), h 4 (by decide) (by decide) (by decide), h 8 (by decide) (by decide) (by decide)]
  exact hC
/-- the plan of an EVENT, as the class has it -/
def plP (σ : kS) (n a t : Nat) (pl : List Nat) : Prop := pl.length ≤ 24 ∧ σ a 7 = nI pl.length ∧ lst (σ (a + 3)) pl ∧ σ a 1 = nI t ∧ t ∈ pl ∧ (∀ x ∈ pl, x < n) ∧ ∀ i (h : i < pl.length), ¬ kGd σ (pl[i]'h) → σ 2 (pl[i]'h) ≠ nI 3 → ∀ p, p < n → (σ 3 (pl[i]'h) = nI p ∨ σ 4 (pl[i]'h) = nI p) → ∃ j, ∃ (hj : j < pl.length), j < i ∧ p = pl[j]'hj
set_option maxRecDepth 100000 in
set_option maxHeartbeats 4000000 in
theorem mf_weigh (L : Nat) (xs : Nat → Int32) (d : Nat) (σ : kS) (n u m r k s f t : Nat) (l : rwT) (pl : List Nat) (h : iE σ 204 776 n u m l) (hC : cCn σ n) (hG : gR σ n) (hr4 : r < 4) (hk6 : k < 6) (hpl : plP σ n (28 + 35 * r + 5 * k) t pl) (hst : ∀ x ∈ pl, kSt σ n 202 (7 * s + 1) (wV σ s) x) (hs : s < 4) (hv : σ 222 3 = nI (7 * s + 1)) (hf : f ≤ 24) (hpt : ∀ i (h : i < pl.length), i < f → ptQ σ n u l s (pl[i]'h)) : kXM kT L xs (d + 53) 35 [.ref 222, .ref (28 + 35 * r + 5 * k), .int (nI f)] σ (fun q σ' => q = some (.int (isB (vmk (kIn σ l) (mA σ) (σ 238) (iT σ s t)))) ∧ wqF σ σ' ∧ iE σ' 204 776 n u m l ∧ (∀ x ∈ pl, ptQ σ' n u l s x) ∧ ∀ z, z ∉ pl → σ' 231 z = σ 231 z) := by
  have hK : isK 204 776 := Or.inr (Or.inl ⟨rfl, rfl⟩)
  have hn := h.2.1
  have b0 : 28 + 35 * r + 5 * k < 163 := ev_b r k 0 hr4 hk6 (by decide)
  have b3 := ev_b r k 3 hr4 hk6 (by decide)
  obtain ⟨q24, q2, pt, t2, htp, hlt, hch⟩ := hpl
  have loop : ∀ q : Nat × kS, (q.1 ≤ 24 ∧ wqF σ q.2 ∧ iE q.2 204 776 n u m l ∧ (∀ i (h : i < pl.length), i < q.1 → ptQ q.2 n u l s (pl[i]'h)) ∧ ∀ z, z ∉ pl → q.2 231 z = σ 231 z) → kX kT L xs (d + 53) 35 2 [(3, .int (nI q.1)), (0, .ref 222), (1, .ref (28 + 35 * r + 5 * k)), (2, .int (nI f))] [] q.2 (fun q σ' => q = some (.int (isB (vmk (kIn σ l) (mA σ) (σ 238) (iT σ s t)))) ∧ wqF σ σ' ∧ iE σ' 204 776 n u m l ∧ (∀ x ∈ pl, ptQ σ' n u l s x) ∧ ∀ z, z ∉ pl → σ' 231 z = σ 231 z) := by
    refine kX_while (fun q : Nat × kS => [(3, .int (nI q.1)), (0, .ref 222), (1, .ref (28 + 35 * r + 5 * k)), (2, .int (nI f))]) (fun q => q.2) _ (fun q => 24 - q.1) ?_
    rintro ⟨i, τ⟩ ⟨i1, i2, i3, i4, i5⟩ ih
    dsimp only at i1 i2 i3 i4 i5 ih ⊢
    have ee : ∀ c, c < 163 → τ c = σ c := fun c hc => i2 c (by omega) (by omega) (by omega)
    iterate 2 (refine kX_one rfl ?_)
    refine kX_getN rfl rfl (kT_ev hr4 hk6) rfl ?_
    refine kX_top (y := nI pl.length) (by rw [ee _ b0]; exact q2) ?_
    repeat refine kX_one rfl ?_
    refine kX_if (fun q => ?_) (fun q => ?_)
    · have q := qge q i pl.length
      have hall : ∀ x ∈ pl, ptQ τ n u l s x := fun x hx => by
        obtain ⟨j, hj, rfl⟩ := List.getElem_of_mem hx
        exact i4 j hj (by omega)
      have htn := hlt t htp
      have hres := (hall t htp).2
      have e1 : vmk (kIn τ l) (mA τ) (τ 238) (iT τ s t) = vmk (kIn σ l) (mA σ) (σ 238) (iT σ s t) := by
        rw [wq_iT i2]
        unfold kIn kTv mA
        rw [i2 2 (by decide) (by decide) (by decide), i2 3 (by decide) (by decide) (by decide), i2 4 (by decide) (by decide) (by decide), i2 233 (by decide) (by decide) (by decide), i2 238 (by decide) (by decide) (by decide)]
      rw [e1] at hres
      iterate 3 (refine kX_one rfl ?_)
      refine kX_getN rfl rfl (kT_ev hr4 hk6) rfl ?_
      refine kX_top (y := nI t) (by rw [ee _ b0]; exact t2) ?_
      refine kX_baldV rfl rfl (by decide) t (by rfl) (by omega) hres ?_
      refine kX_ret (i := .ireturn) (len := 1) rfl (Or.inr rfl) (jend_b rfl (isB_01 _)) ⟨rfl, i2, i3, hall, i5⟩
    · have q := qgeF q i pl.length
      have hx : pl[i]'q < n := hlt _ (List.getElem_mem q)
      have hstx := wq_st i2 (hst _ (List.getElem_mem q))
      have hchx : ¬ kGd τ (pl[i]'q) → τ 2 (pl[i]'q) ≠ nI 3 → ∀ p, p < n → (τ 3 (pl[i]'q) = nI p ∨ τ 4 (pl[i]'q) = nI p) → ptQ τ n u l s p := fun a1 a2 p hp hfp => by
        have a1' : ¬ kGd σ (pl[i]'q) := by
          unfold kGd at a1 ⊢
          rw [i2 2 (by decide) (by decide) (by decide), i2 3 (by decide) (by decide) (by decide), i2 4 (by decide) (by decide) (by decide)] at a1
          exact a1
        rw [i2 2 (by decide) (by decide) (by decide)] at a2
        rw [i2 3 (by decide) (by decide) (by decide), i2 4 (by decide) (by decide) (by decide)] at hfp
        obtain ⟨j, hj, j1, rfl⟩ := hch i q a1' a2 p hp hfp
        exact i4 j hj j1
      have hvt : τ 222 3 = nI (7 * s + 1) := by rw [i2 222 (by decide) (by decide) (by decide)]; exact hv
      have hpi : τ (28 + 35 * r + 5 * k + 3) i = nI (pl[i]'q) := (congrFun (ee _ b3) i).trans (pt i q)
      have k73 : ∀ τ', wqF τ τ' → iE τ' 204 776 n u m l → (∀ x, x ≠ pl[i]'q → τ' 230 x = τ 230 x ∧ τ' 231 x = τ 231 x) → ptQ τ' n u l s (pl[i]'q) → kX kT L xs (d + 53) 35 73 [(3, .int (nI i)), (0, .ref 222), (1, .ref (28 + 35 * r + 5 * k)), (2, .int (nI f))] [] τ' (fun q σ' => q = some (.int (isB (vmk (kIn σ l) (mA σ) (σ 238) (iT σ s t)))) ∧ wqF σ σ' ∧ iE σ' 204 776 n u m l ∧ (∀ x ∈ pl, ptQ σ' n u l s x) ∧ ∀ z, z ∉ pl → σ' 231 z = σ 231 z) := by
        intro τ' w1 w2 w3 w4
        iterate 2 (refine kX_one rfl ?_)
        have := ih (i + 1, τ') ⟨by simp only; omega, wqF_trans i2 w1, w2, fun j hj hji => by
          by_cases e : pl[j]'hj = pl[i]'q
          · rw [e]
            exact w4
          · have hji' : j < i := by
              have : j ≠ i := fun z => e (by subst z; rfl)
              simp only at hji
              omega
            obtain ⟨x1, x2⟩ := w3 _ e
            exact wq_pt w1 x1 x2 (i4 j hj hji'), fun z hz => ((w3 z (fun e => hz (e ▸ List.getElem_mem q))).2).trans (i5 z hz)⟩ (by simp only; omega)
        dsimp only at this
        rw [← nI_1] at this
        exact kX_lv _ rfl rfl rfl this
      generalize pl[i]'q = tp at hx hstx hchx hpi k73
      iterate 1 (refine kX_one rfl ?_)
      refine kX_getN rfl rfl (kT_ev hr4 hk6) rfl ?_
      iterate 1 (refine kX_one rfl ?_)
      refine kX_ialdV rfl ((kT_e3 hr4 hk6).1) (by decide) (i) (by first | rfl | decide) (by omega) (hpi) ?_
      iterate 6 (refine kX_one rfl ?_)
      refine kX_cal (mf_qValueOf L xs (d + 49) tp i3 (wq_Cn i2 hC) (wq_gR i2 hG) hx hs hvt hstx (fun a1 a2 p hp hfp => (hchx a1 a2 p hp hfp).1)) rfl (Or.inr rfl) rfl rfl rfl (fun r1 σ1 q1 => ?_)
      obtain ⟨⟨x, rfl, hxq⟩, rfl⟩ := q1
      refine kX_iastN rfl rfl (by decide) (tp) (by first | rfl | decide) (by omega) ?_
      have hE1 : iE (va_up τ 230 (upd (τ 230) tp x)) 204 776 n u m l := i3
      have hF1 : wqF τ (va_up τ 230 (upd (τ 230) tp x)) := fun c _ b _ => up_ne b
      have h230 : va_up τ 230 (upd (τ 230) tp x) 230 = upd (τ 230) tp x := up_eq
      have h231 : va_up τ 230 (upd (τ 230) tp x) 231 = τ 231 := rfl
      have hx1 : va_up τ 230 (upd (τ 230) tp x) 230 tp = x := by rw [up_eq, pk_us]
      generalize va_up τ 230 (upd (τ 230) tp x) = ω at *
      iterate 6 (refine kX_one rfl ?_)
      refine kX_ialdV rfl rfl (by decide) tp (by rfl) (by omega) hx1 ?_
      have eV : ∀ {ρ : kS}, wqF τ ρ → vmk (kIn ρ l) (mA ρ) (ρ 238) (iT ρ s tp) = vmk (kIn τ l) (mA τ) (τ 238) (iT τ s tp) := fun {ρ} hh => by
        rw [wq_iT hh]
        unfold kIn kTv mA
        rw [hh 2 (by decide) (by decide) (by decide), hh 3 (by decide) (by decide) (by decide), hh 4 (by decide) (by decide) (by decide), hh 233 (by decide) (by decide) (by decide), hh 238 (by decide) (by decide) (by decide)]
      have fin : ∀ ρ, wqF τ ρ → ρ 230 = upd (τ 230) tp x → ρ 231 = τ 231 → iE ρ 204 776 n u m l → ∀ lv, nk lv = true → ([(3, .int (nI i)), (0, .ref 222), (1, .ref (28 + 35 * r + 5 * k)), (2, .int (nI f))] : jL).map (fun q => jl lv q.1) = ([(3, Value.int (nI i)), (0, .ref 222), (1, .ref (28 + 35 * r + 5 * k)), (2, .int (nI f))] : jL).map (fun q => some q.2) → kX kT L xs (d + 53) 35 72 lv [.int (isB (vmk (kIn τ l) (mA τ) (τ 238) (iT τ s tp))), .int (nI tp), .ref 231] ρ (fun q σ' => q = some (.int (isB (vmk (kIn σ l) (mA σ) (σ 238) (iT σ s t)))) ∧ wqF σ σ' ∧ iE σ' 204 776 n u m l ∧ (∀ x ∈ pl, ptQ σ' n u l s x) ∧ ∀ z, z ∉ pl → σ' 231 z = σ 231 z) := by
        intro ρ f1 f2 f3 f4 lv hk hlv
        refine kX_lv _ hk rfl hlv ?_
        refine kX_bastN rfl rfl (by decide) (tp) (by first | rfl | decide) (by omega) (isB_01 _) ?_
        refine k73 _ (fun c a b e => (up_ne e).trans (f1 c a b e)) f4 (fun z hz => ⟨?_, ?_⟩) ⟨?_, ?_⟩
        · show ρ 230 z = _
          rw [f2, pk_un hz]
        · rw [up_eq, pk_un hz, f3]
        · have hh : wqF τ (va_up ρ 231 (upd (ρ 231) tp (isB (vmk (kIn τ l) (mA τ) (τ 238) (iT τ s tp))))) := fun c a b e => (up_ne e).trans (f1 c a b e)
          have e5 : va_up ρ 231 (upd (ρ 231) tp (isB (vmk (kIn τ l) (mA τ) (τ 238) (iT τ s tp)))) 230 tp = x := by
            show ρ 230 tp = x
            rw [f2, pk_us]
          rw [e5]
          unfold vaQ at hxq ⊢
          rw [wq_iT hh]
          unfold kTv kGd at hxq ⊢
          rw [hh 2 (by decide) (by decide) (by decide), hh 3 (by decide) (by decide) (by decide), hh 4 (by decide) (by decide) (by decide)]
          exact hxq
        · rw [up_eq, pk_us, eV (fun c a b e => (up_ne e).trans (f1 c a b e))]
      rcases hxq with ⟨g, g1, g2, g3, rfl⟩ | ⟨rfl, g2, g3, g4⟩
      · have hgl := iE_lt i3 g1
        have hgd : kDp τ g ≤ 47 := by
          rcases g1 with z | z
          · have := i3.2.2.2.2.2.2.2.2.1 g z
            omega
          · exact (i3.2.2.2.2.1.2.2.2.2.1 g z.1 z.2).2.2
        have ekd : kDp ω g = kDp τ g := by
          unfold kDp
          rw [hF1 2 (by decide) (by decide) (by decide), hF1 3 (by decide) (by decide) (by decide), hF1 4 (by decide) (by decide) (by decide)]
        have ekg : kGd ω g := by
          unfold kGd
          rw [hF1 2 (by decide) (by decide) (by decide), hF1 3 (by decide) (by decide) (by decide), hF1 4 (by decide) (by decide) (by decide)]
          exact g2
        have emk : kMk ω l g = vmk (kIn τ l) (mA τ) (τ 238) (iT τ s tp) := by
          rw [← g3]
          unfold kMk kIn kTv mA
          rw [hF1 2 (by decide) (by decide) (by decide), hF1 3 (by decide) (by decide) (by decide), hF1 4 (by decide) (by decide) (by decide), hF1 233 (by decide) (by decide) (by decide), hF1 238 (by decide) (by decide) (by decide)]
        repeat refine kX_one rfl ?_
        refine kX_ifF (decide_eq_false (nI_m1 (by omega))) ?_
        iterate 5 (refine kX_one rfl ?_)
        refine kX_ialdV rfl rfl (by decide) tp (by rfl) (by omega) hx1 ?_
        iterate 1 (refine kX_one rfl ?_)
        refine kX_cal (mf_canMake L xs 204 776 n u m l 49 (d + 1) 0 ω g rfl (by omega) hE1 g1 ekg) rfl (Or.inr rfl) rfl rfl rfl (fun r1 ρ q1 => ?_)
        obtain ⟨rfl, M, rfl, hE2⟩ := q1
        rw [emk]
        iterate 1 (refine kX_one rfl ?_)
        exact fin _ (wqF_trans hF1 (fun c a _ _ => up_ne a)) h230 h231 hE2 _ rfl rfl
      · have hchω : ∀ p, p < n → (ω 3 tp = nI p ∨ ω 4 tp = nI p) → ptQ ω n u l s p := fun p hp hfp => by
          rw [hF1 3 (by decide) (by decide) (by decide), hF1 4 (by decide) (by decide) (by decide)] at hfp
          have hptp := hchx g3 g4 p hp hfp
          have hne : p ≠ tp := fun e => by
            rcases (iE_V i3 tp (Or.inl hx)).2 with ⟨k', z3, zk, zf, zs⟩ | ⟨k', a', b', z3, zk, zx, zy, z4, z5, z6, z7⟩ | ⟨k', a', z3, zk, zx, zy, z4, z6⟩
            · rcases hfp with w | w
              · exact absurd (w.symm.trans zf) (nI_m1 (by omega))
              · exact absurd (w.symm.trans zs) (nI_m1 (by omega))
            · have al := iE_lt i3 z6
              have bl := iE_lt i3 z7
              rcases hfp with w | w
              · have := nI_inj (w.symm.trans zx)
                omega
              · have := nI_inj (w.symm.trans zy)
                omega
            · have al := iE_lt i3 z6
              rcases hfp with w | w
              · have := nI_inj (w.symm.trans zx)
                omega
              · exact absurd (w.symm.trans zy) (nI_m1 (by omega))
          exact wq_pt hF1 (by rw [h230, pk_un hne]) (by rw [h231]) hptp
        have hnoω : ∀ g, kV n 776 u g → kTv ω g ≠ iT ω s tp := fun g hg => by
          rw [wq_iT hF1]
          unfold kTv
          rw [hF1 2 (by decide) (by decide) (by decide), hF1 3 (by decide) (by decide) (by decide), hF1 4 (by decide) (by decide) (by decide)]
          exact g2 g hg
        have hgω : ¬ kGd ω tp := by
          unfold kGd
          rw [hF1 2 (by decide) (by decide) (by decide), hF1 3 (by decide) (by decide) (by decide), hF1 4 (by decide) (by decide) (by decide)]
          exact g3
        have hkω : ω 2 tp ≠ nI 3 := by
          rw [hF1 2 (by decide) (by decide) (by decide)]
          exact g4
        iterate 4 (refine kX_one rfl ?_)
        refine kX_cal (mf_canCompose L xs (d + 50) tp hE1 hx hgω hkω hnoω (wq_st hF1 hstx) hchω) rfl (Or.inr rfl) rfl rfl rfl (fun r1 σ1 q1 => ?_)
        obtain ⟨rfl, rfl⟩ := q1
        rw [eV hF1]
        exact fin _ hF1 h230 h231 hE1 _ rfl rfl
  unfold kXM
  iterate 2 (refine kX_one rfl ?_)
  exact kX_lv _ rfl rfl rfl (loop (f, σ) ⟨hf, wqF_refl σ, h, hpt, fun _ _ => rfl⟩)
end
