/-! alike: the STATES of the search -/
def sMx (f : Nat → Int32) : Nat → Int32
  | 0 => 17
  | i + 1 => sMx f i * 31 + f i
def sHs (m : Int32) : Int32 := (m ^^^ (m.toUInt32 >>> ((Int8.ofInt 10).toInt32.toUInt32 &&& Int32.toUInt32 31)).toInt32 ^^^ (m.toUInt32 >>> ((Int8.ofInt 20).toInt32.toUInt32 &&& Int32.toUInt32 31)).toInt32) &&& (Int16.ofInt 1023).toInt32
def sSl (f : Nat → Int32) (wd : Nat) : Int32 := sHs (sMx f wd)
theorem sMx_congr {f g : Nat → Int32} : ∀ {w : Nat}, (∀ j, j < w → f j = g j) → sMx f w = sMx g w
  | 0, _ => rfl
  | w + 1, h => by
    unfold sMx
    rw [sMx_congr (fun j hj => h j (by omega)), h w (by omega)]
theorem sSl_ok (f : Nat → Int32) (wd : Nat) : fN (sSl f wd) < 1024 ∧ sSl f wd = nI (fN (sSl f wd)) := by
  obtain ⟨k, k1, k2⟩ := pk_andE (sMx f wd ^^^ ((sMx f wd).toUInt32 >>> ((Int8.ofInt 10).toInt32.toUInt32 &&& Int32.toUInt32 31)).toInt32 ^^^ ((sMx f wd).toUInt32 >>> ((Int8.ofInt 20).toInt32.toUInt32 &&& Int32.toUInt32 31)).toInt32) (m := (Int16.ofInt 1023).toInt32) 10 (by decide)
  have k2 : sSl f wd = nI k := k2
  have k1 : k < 1024 := k1
  rw [k2, fN_nI (by omega)]
  exact ⟨k1, rfl⟩
set_option maxRecDepth 100000 in
set_option maxHeartbeats 4000000 in
theorem mf_stSlot (L : Nat) (xs : Nat → Int32) (d : Nat) (σ : kS) (wd : Nat) (hw : wd ≤ 28) : kXM kT L xs (d + 1) 88 [.ref 202, .int (nI wd)] σ (fun r σ' => r = some (.int (sSl (σ 202) wd)) ∧ σ = σ') := by
  have loop : ∀ q : Nat, q ≤ wd → kX kT L xs (d + 1) 88 5 [(3, .int (nI q)), (2, .int (sMx (σ 202) q)), (0, .ref 202), (1, .int (nI wd))] [] σ (fun r σ' => r = some (.int (sSl (σ 202) wd)) ∧ σ = σ') := by
    refine kX_while (fun q : Nat => [(3, .int (nI q)), (2, .int (sMx (σ 202) q)), (0, .ref 202), (1, .int (nI wd))]) (fun _ => σ) _ (fun q => 28 - q) ?_
    intro i i1 ih
    have k31 : i = wd → kX kT L xs (d + 1) 88 31 [(3, .int (nI i)), (2, .int (sMx (σ 202) i)), (0, .ref 202), (1, .int (nI wd))] [] σ (fun r σ' => r = some (.int (sSl (σ 202) wd)) ∧ σ = σ') := by
      intro e
      subst e
      repeat refine kX_one rfl ?_
      refine kX_ret (i := .ireturn) (len := 1) rfl (Or.inr rfl) rfl (⟨rfl, rfl⟩)
    repeat refine kX_one rfl ?_
    refine kX_if (fun q => ?_) (fun q => ?_)
    · have q := qge q i wd
      exact k31 (by omega)
    · have q := qgeF q i wd
      repeat refine kX_one rfl ?_
      refine kX_if (fun q2 => ?_) (fun q2 => ?_)
      · have q2 := qge q2 i 28
        omega
      · iterate 5 (refine kX_one rfl ?_)
        refine kX_ialdN rfl rfl (by decide) (i) (by first | rfl | decide) (by omega) ?_
        iterate 4 (refine kX_one rfl ?_)
        have := ih (i + 1) q (by omega)
        rw [← nI_1] at this
        exact kX_lv _ rfl rfl rfl this
  unfold kXM
  iterate 4 (refine kX_one rfl ?_)
  exact kX_lv _ rfl rfl rfl (loop 0 (Nat.zero_le _))
set_option maxRecDepth 100000 in
set_option maxHeartbeats 4000000 in
theorem mf_isSame (L : Nat) (xs : Nat → Int32) (d : Nat) (σ : kS) (wd : Nat) (hw : wd ≤ 28) (base : Nat) (hb : base + 28 ≤ 16800) : kXM kT L xs (d + 1) 90 [.ref 196, .ref 202, .int (nI wd), .int (nI base)] σ (fun r σ' => r = some (.int (isB (∀ j, j < wd → σ 202 j = σ 197 (base + j)))) ∧ σ = σ') := by
  have loop : ∀ q : Nat, (q ≤ wd ∧ ∀ j, j < q → σ 202 j = σ 197 (base + j)) → kX kT L xs (d + 1) 90 3 [(4, .int (nI q)), (0, .ref 196), (1, .ref 202), (2, .int (nI wd)), (3, .int (nI base))] [] σ (fun r σ' => r = some (.int (isB (∀ j, j < wd → σ 202 j = σ 197 (base + j)))) ∧ σ = σ') := by
    refine kX_while (fun q => [(4, .int (nI q)), (0, .ref 196), (1, .ref 202), (2, .int (nI wd)), (3, .int (nI base))]) (fun _ => σ) _ (fun q => 28 - q) ?_
    intro i ⟨i1, i2⟩ ih
    repeat refine kX_one rfl ?_
    refine kX_if (fun q => ?_) (fun q => ?_)
    · have q := qge q i wd
      have hz : isB (∀ j, j < wd → σ 202 j = σ 197 (base + j)) = 1 := isB_T (fun j hj => i2 j (by omega))
      repeat refine kX_one rfl ?_
      refine kX_ret (i := .ireturn) (len := 1) rfl (Or.inr rfl) rfl (⟨by rw [hz]; rfl, rfl⟩)
    · have q := qgeF q i wd
      repeat refine kX_one rfl ?_
      refine kX_if (fun q2 => ?_) (fun q2 => ?_)
      · have q2 := qge q2 i 28
        omega
      · iterate 2 (refine kX_one rfl ?_)
        refine kX_ialdN rfl rfl (by decide) (i) (by first | rfl | decide) (by omega) ?_
        iterate 5 (refine kX_one rfl ?_)
        refine kX_top (y := nI (base + i)) (nI_add base i) ?_
        refine kX_ialdN rfl rfl (by decide) (base + i) (by first | rfl | decide) (by omega) ?_
        repeat refine kX_one rfl ?_
        refine kX_if (fun q3 => ?_) (fun q3 => ?_)
        · have q3 := qeq q3
          iterate 2 (refine kX_one rfl ?_)
          have := ih (i + 1) ⟨q, fun j hj => by
            by_cases e : j = i
            · subst e
              exact q3
            · exact i2 j (by omega)⟩ (by omega)
          rw [← nI_1] at this
          exact kX_lv _ rfl rfl rfl this
        · have q3 := qeqF q3
          have hz : isB (∀ j, j < wd → σ 202 j = σ 197 (base + j)) = 0 := isB_F (fun z => q3 (z i q))
          repeat refine kX_one rfl ?_
          refine kX_ret (i := .ireturn) (len := 1) rfl (Or.inr rfl) rfl (⟨by rw [hz]; rfl, rfl⟩)
  unfold kXM
  iterate 2 (refine kX_one rfl ?_)
  exact kX_lv _ rfl rfl rfl (loop 0 ⟨Nat.zero_le _, fun j hj => absurd hj (Nat.not_lt_zero j)⟩)
/-- N STATES, found by their slots -/
def sWi (σ : kS) (wd N : Nat) : Prop := N ≤ 600 ∧ σ 196 5 = nI N ∧ hcP 1024 600 (fun i => i < N) (fun i => fN (sSl (fun j => σ 197 (28 * i + j)) wd)) (σ 201) (σ 200)
def sIn (σ : kS) (wd N : Nat) : Prop := ∃ i, i < N ∧ ∀ j, j < wd → σ 202 j = σ 197 (28 * i + j)
set_option maxRecDepth 100000 in
set_option maxHeartbeats 4000000 in
theorem mf_stHas (L : Nat) (xs : Nat → Int32) (d : Nat) (σ : kS) (wd N : Nat) (hw : wd ≤ 28) (h : sWi σ wd N) : kXM kT L xs (d + 2) 89 [.ref 196, .ref 202, .int (nI wd)] σ (fun r σ' => r = some (.int (isB (sIn σ wd N))) ∧ σ = σ') := by
  obtain ⟨hN, hc, hch⟩ := h
  obtain ⟨s1, s2⟩ := sSl_ok (σ 202) wd
  have hsl : ∀ i, i < N → (∀ j, j < wd → σ 202 j = σ 197 (28 * i + j)) → fN (sSl (fun j => σ 197 (28 * i + j)) wd) = fN (sSl (σ 202) wd) := fun i _ h => by
    unfold sSl
    rw [sMx_congr h]
  have loop : ∀ q : Nat × Nat × Int32, (q.1 + q.2.1 ≤ 600 ∧ isTop (fun i => i < N ∧ fN (sSl (fun j => σ 197 (28 * i + j)) wd) = fN (sSl (σ 202) wd)) q.2.1 q.2.2 ∧ ∀ i, i < N → q.2.1 ≤ i → ¬ ∀ j, j < wd → σ 202 j = σ 197 (28 * i + j)) → kX kT L xs (d + 2) 89 14 [(4, .int (nI q.1)), (3, .int q.2.2), (0, .ref 196), (1, .ref 202), (2, .int (nI wd))] [] σ (fun r σ' => r = some (.int (isB (sIn σ wd N))) ∧ σ = σ') := by
    refine kX_while (fun q : Nat × Nat × Int32 => [(4, .int (nI q.1)), (3, .int q.2.2), (0, .ref 196), (1, .ref 202), (2, .int (nI wd))]) (fun _ => σ) _ (fun q => 600 - q.1) ?_
    rintro ⟨i, bd, x⟩ ⟨i1, i2, i3⟩ ih
    dsimp only at i1 i2 i3 ih ⊢
    have hno : (∀ i, i < N → ¬ ∀ j, j < wd → σ 202 j = σ 197 (28 * i + j)) → isB (sIn σ wd N) = 0 := fun hz => isB_F (fun ⟨i, h1, h2⟩ => hz i h1 h2)
    repeat refine kX_one rfl ?_
    refine kX_if (fun q => ?_) (fun q => ?_)
    · have q := qge q i 600
      have hz := hno (fun i hi => i3 i hi (by omega))
      repeat refine kX_one rfl ?_
      refine kX_ret (i := .ireturn) (len := 1) rfl (Or.inr rfl) rfl (⟨by rw [hz]; rfl, rfl⟩)
    · have q := qgeF q i 600
      rcases i2 with ⟨rfl, i2⟩ | ⟨s, htb, rfl, hPt, i2⟩
      · have hz := hno (fun i hi h => by
          by_cases e : bd ≤ i
          · exact i3 i hi e h
          · exact i2 i (by omega) ⟨hi, hsl i hi h⟩)
        repeat refine kX_one rfl ?_
        refine kX_ret (i := .ireturn) (len := 1) rfl (Or.inr rfl) rfl (⟨by rw [hz]; rfl, rfl⟩)
      · repeat refine kX_one rfl ?_
        refine kX_ifF (decide_eq_false (nI_pos (by omega))) ?_
        iterate 3 (refine kX_one rfl ?_)
        refine kX_top (hc) ?_
        repeat refine kX_one rfl ?_
        refine kX_if (fun q3 => ?_) (fun q3 => ?_)
        · have q3 := qge q3 s N
          have := hPt.1
          omega
        · have q3 := qgeF q3 s N
          iterate 6 (refine kX_one rfl ?_)
          refine kX_top (y := nI (28 * s)) (by rw [Nat.mul_comm]; exact pk_mul s 28) ?_
          refine kX_cal (mf_isSame L xs d σ wd hw (28 * s) (by omega)) rfl (Or.inr rfl) rfl rfl rfl (fun r1 σ1 q1 => ?_)
          obtain ⟨rfl, rfl⟩ := q1
          by_cases he : ∀ j, j < wd → σ 202 j = σ 197 (28 * s + j)
          · rw [isB_T he]
            have hz : isB (sIn σ wd N) = 1 := isB_T ⟨s, q3, he⟩
            repeat refine kX_one rfl ?_
            refine kX_ret (i := .ireturn) (len := 1) rfl (Or.inr rfl) rfl (⟨by rw [hz]; rfl, rfl⟩)
          · rw [isB_F he]
            iterate 4 (refine kX_one rfl ?_)
            refine kX_ialdN rfl rfl (by decide) (s) (by first | rfl | decide) (by omega) ?_
            iterate 3 (refine kX_one rfl ?_)
            have hnx := hch.2 s q3
            dsimp only at hnx
            rw [hPt.2] at hnx
            have := ih (i + 1, s, σ 200 s) ⟨by simp only; omega, hnx, fun u hu hus => by
              simp only at hus
              by_cases e : u = s
              · subst e
                exact he
              · by_cases e2 : bd ≤ u
                · exact i3 u hu e2
                · exact fun h => i2 u (by omega) (by omega) ⟨hu, hsl u hu h⟩⟩ (by simp only; omega)
            dsimp only at this
            rw [← nI_1] at this
            exact kX_lv _ rfl rfl rfl this
  unfold kXM
  iterate 4 (refine kX_one rfl ?_)
  refine kX_cal (mf_stSlot L xs d σ wd hw) rfl (Or.inr rfl) rfl rfl rfl (fun r1 σ1 q1 => ?_)
  obtain ⟨rfl, rfl⟩ := q1
  refine kX_top (s2) ?_
  refine kX_ialdN rfl rfl (by decide) (fN (sSl (σ 202) wd)) (by first | rfl | decide) (s1) ?_
  iterate 3 (refine kX_one rfl ?_)
  exact kX_lv _ rfl rfl rfl (loop (0, 600, _) ⟨Nat.le_refl _, hch.1 _ s1, fun i hi hz => by simp only at hz; omega⟩)
set_option maxRecDepth 100000 in
set_option maxHeartbeats 4000000 in
theorem mf_stAdd (L : Nat) (xs : Nat → Int32) (d : Nat) (σ : kS) (f s : Int32) (wd N : Nat) (hw : wd ≤ 28) (hN : N < 600) (h : sWi σ wd N) : kXM kT L xs (d + 2) 91 [.ref 196, .ref 202, .int (nI wd), .int f, .int s] σ (fun r σ' => r = none ∧ stA σ σ' N f s ∧ sWi σ' wd (N + 1)) := by
  obtain ⟨-, hc, hch⟩ := h
  obtain ⟨s1, s2⟩ := sSl_ok (σ 202) wd
  unfold kXM
  iterate 2 (refine kX_one rfl ?_)
  refine kX_top (hc) ?_
  repeat refine kX_one rfl ?_
  refine kX_if (fun q => ?_) (fun q => ?_)
  · have q := qge q N 600
    omega
  · iterate 2 (refine kX_one rfl ?_)
    refine kX_cal (mf_stSlot L xs d σ wd hw) rfl (Or.inr rfl) rfl rfl rfl (fun r1 σ1 q1 => ?_)
    obtain ⟨rfl, rfl⟩ := q1
    refine kX_top (s2) ?_
    iterate 7 (refine kX_one rfl ?_)
    refine kX_top (hc) ?_
    iterate 2 (refine kX_one rfl ?_)
    refine kX_top (y := nI (28 * N)) (by rw [Nat.mul_comm]; exact pk_mul N 28) ?_
    iterate 1 (refine kX_one rfl ?_)
    refine kX_acpyN (n0 := 28) (n1 := 16800) (f0 := fun _ => 0) (g0 := fun _ => 0) rfl rfl rfl rfl rfl rfl 0 (28 * N) 28 rfl rfl rfl (by decide) (by omega) (by decide) (by decide) (Nat.zero_le 8) ?_
    iterate 4 (refine kX_one rfl ?_)
    refine kX_top (hc) ?_
    iterate 1 (refine kX_one rfl ?_)
    refine kX_iastN rfl rfl (by decide) (N) (by first | rfl | decide) (hN) ?_
    iterate 4 (refine kX_one rfl ?_)
    refine kX_top (hc) ?_
    iterate 1 (refine kX_one rfl ?_)
    refine kX_iastN rfl rfl (by decide) (N) (by first | rfl | decide) (hN) ?_
    iterate 4 (refine kX_one rfl ?_)
    refine kX_top (hc) ?_
    iterate 3 (refine kX_one rfl ?_)
    refine kX_ialdN rfl rfl (by decide) (fN (sSl (σ 202) wd)) (by first | rfl | decide) (s1) ?_
    refine kX_iastN rfl rfl (by decide) (N) (by first | rfl | decide) (hN) ?_
    iterate 5 (refine kX_one rfl ?_)
    refine kX_top (hc) ?_
    refine kX_iastN rfl rfl (by decide) (fN (sSl (σ 202) wd)) (by first | rfl | decide) (s1) ?_
    iterate 3 (refine kX_one rfl ?_)
    refine kX_top (hc) ?_
    iterate 2 (refine kX_one rfl ?_)
    refine kX_top (y := nI (N + 1)) (nI_1 N) ?_
    iterate 1 (refine kX_one rfl ?_)
    refine kX_ret (i := .return_) (len := 1) rfl (Or.inr rfl) rfl ⟨rfl, ⟨fun c hc => ?_, rfl, rfl, rfl, rfl⟩, by omega, rfl, ?_⟩
    · rw [up_ne (by omega), up_ne (by omega), up_ne (by omega), up_ne (by omega), up_ne (by omega), up_ne (by omega)]
    · show hcP 1024 600 (fun i => i < N + 1) (fun i => fN (sSl (fun j => va_cpy (σ 202) (σ 197) 0 (28 * N) 28 (28 * i + j)) wd)) (upd (σ 201) (fN (sSl (σ 202) wd)) (nI N)) (upd (σ 200) N (σ 201 (fN (sSl (σ 202) wd))))
      have eo : ∀ i, i < N → fN (sSl (fun j => va_cpy (σ 202) (σ 197) 0 (28 * N) 28 (28 * i + j)) wd) = fN (sSl (fun j => σ 197 (28 * i + j)) wd) := fun i hi => by
        unfold sSl
        rw [sMx_congr (g := fun j => σ 197 (28 * i + j)) (fun j hj => by
          show va_cpy (σ 202) (σ 197) 0 (28 * N) 28 (28 * i + j) = _
          rw [va_cpy, if_neg (by omega)])]
      have en : fN (sSl (fun j => va_cpy (σ 202) (σ 197) 0 (28 * N) 28 (28 * N + j)) wd) = fN (sSl (σ 202) wd) := by
        unfold sSl
        rw [sMx_congr (g := σ 202) (fun j hj => by
          show va_cpy (σ 202) (σ 197) 0 (28 * N) 28 (28 * N + j) = _
          rw [va_cpy, if_pos ⟨by omega, by omega⟩]
          congr 1
          omega)]
      have g1 : hcP 1024 600 (fun i => i < N) (fun i => fN (sSl (fun j => va_cpy (σ 202) (σ 197) 0 (28 * N) 28 (28 * i + j)) wd)) (σ 201) (σ 200) := hcP_congr (fun _ => Iff.rfl) (fun i hi => (eo i hi).symm) hch
      have g2 := hcP_push (t := N) g1 (fun t' ht' => ht') (by omega) (by rw [en]; exact s1)
      rw [en] at g2
      exact hcP_congr (fun t => by omega) (fun _ _ => rfl) g2
