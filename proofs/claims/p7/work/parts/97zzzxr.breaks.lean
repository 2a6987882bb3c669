/-! alike: breaks -/
theorem bl_and : ∀ m, m < 16 → ∀ o, o < 4 → nI m &&& (Int32.ofInt 1 <<< (nI o &&& 31)) = nI (m / 2 ^ o % 2 * 2 ^ o) := by decide +kernel
def cHd (σ : kS) (A base s : Nat) : Prop := ¬ σ A (base + 7 * s) < σ (23 + 35 * fN (σ 15 s)) 5
def cFt (σ : kS) (A base c s o : Nat) : Prop := (σ 15 o = σ (163 + 3 * c) 2 ∧ ¬ σ A (base + 7 * o) < σ (163 + 3 * c) 3) ∧ ∀ j, j < fN (σ (163 + 3 * c) 6) → σ A (base + 7 * s + 1 + fN (σ (164 + 3 * c) j)) ≠ -1 ∧ σ A (base + 7 * s + 1 + fN (σ (164 + 3 * c) j)) = σ A (base + 7 * o + 1 + fN (σ (165 + 3 * c) j))
def cWn (σ : kS) (A base c s : Nat) : Prop := (σ 15 s = σ (163 + 3 * c) 1 ∧ σ 16 s ≠ 0) ∧ cHd σ A base s
/-- the sessions from s on find partners that are not in w -/
def cPn (W : Nat → Prop) (F : Nat → Nat → Prop) (S : Nat) : Nat → Nat → Nat → Prop
  | 0, _, _ => True
  | m + 1, s, w => (W s ∧ ∃ p, p < S ∧ p ≠ s ∧ w / 2 ^ p % 2 = 0 ∧ F s p ∧ cPn W F S m (s + 1) (orb w p)) ∨ (¬ W s ∧ cPn W F S m (s + 1) w)
theorem cPn_s {W : Nat → Prop} {F : Nat → Nat → Prop} {S m s w : Nat} : cPn W F S (m + 1) s w ↔ (W s ∧ ∃ p, p < S ∧ p ≠ s ∧ w / 2 ^ p % 2 = 0 ∧ F s p ∧ cPn W F S m (s + 1) (orb w p)) ∨ (¬ W s ∧ cPn W F S m (s + 1) w) := Iff.rfl
theorem qgeI {x y : Int32} (q : jcmp .ge x y = true) : ¬ x < y := Int32.not_lt.mpr (of_decide_eq_true q)
theorem qgeIF {x y : Int32} (q : jcmp .ge x y = false) : x < y := Int32.not_le.mp (of_decide_eq_false q)
set_option maxRecDepth 100000 in
set_option maxHeartbeats 4000000 in
theorem mf_hasDoneAll (L : Nat) (xs : Nat → Int32) (d : Nat) (σ : kS) (n R S A M base s : Nat) (g0 : Nat → Int32) (hRo : cRo σ n R) (hS4 : S ≤ 4) (hSr : ∀ s, s < S → ∃ r, r < R ∧ σ 15 s = nI r) (hs : s < S) (hA : kT[A]? = some (.inl (0, M, .inl g0))) (hM : M ≤ 100000) (hbm : base + 28 ≤ M) : kXM kT L xs (d + 2) 19 [.ref 13, .ref A, .int (nI base), .int (nI s)] σ (fun q σ' => q = some (.int (isB (cHd σ A base s))) ∧ σ = σ') := by
  have hR4 := hRo.1
  obtain ⟨r, hr, hr2⟩ := hSr s hs
  have hr4 : r < 4 := by omega
  have hc : cHd σ A base s ↔ ¬ σ A (base + 7 * s) < σ (23 + 35 * r) 5 := by
    unfold cHd
    rw [hr2, fN_nI (by omega)]
  unfold kXM
  iterate 4 (refine kX_one rfl ?_)
  refine kX_cal (mc_doneBy L xs d σ A M base s g0 hA hM (by omega)) rfl (Or.inr rfl) rfl rfl rfl (fun r1 σ1 q1 => ?_)
  obtain ⟨rfl, rfl⟩ := q1
  iterate 5 (refine kX_one rfl ?_)
  refine kX_ialdV rfl rfl (by decide) (s) (by first | rfl | decide) (by omega) (hr2) ?_
  refine kX_aaldN rfl (rfl) (by decide) (by decide) (by decide) (r) (by first | rfl | decide) (hr4) (ro_at hr4) ?_
  refine kX_getN rfl rfl (kT_ro hr4) rfl ?_
  repeat refine kX_one rfl ?_
  refine kX_if (fun q => ?_) (fun q => ?_)
  · have q : σ A (base + 7 * s) < σ (23 + 35 * r) 5 := of_decide_eq_true q
    repeat refine kX_one rfl ?_
    refine kX_ret (i := .ireturn) (len := 1) rfl (Or.inr rfl) rfl (⟨by rw [isB_F (fun z => hc.mp z q)]; rfl, rfl⟩)
  · have q : ¬ σ A (base + 7 * s) < σ (23 + 35 * r) 5 := of_decide_eq_false q
    repeat refine kX_one rfl ?_
    refine kX_ret (i := .ireturn) (len := 1) rfl (Or.inr rfl) rfl (⟨by rw [isB_T (hc.mpr q)]; rfl, rfl⟩)
set_option maxRecDepth 100000 in
set_option maxHeartbeats 4000000 in
theorem mf_isPartner (L : Nat) (xs : Nat → Int32) (d : Nat) (σ : kS) (n R S C A M base c s s' : Nat) (g0 : Nat → Int32) (hB : cB σ n R S C) (hc : c < C) (hs : s < S) (hs' : s' < S) (hA : kT[A]? = some (.inl (0, M, .inl g0))) (hM : M ≤ 100000) (hbm : base + 28 ≤ M) : kXM kT L xs (d + 2) 27 [.ref 13, .ref (163 + 3 * c), .ref A, .int (nI base), .int (nI s), .int (nI s')] σ (fun q σ' => q = some (.int (isB (cFt σ A base c s s'))) ∧ σ = σ') := by
  obtain ⟨hRo, ⟨hS4, hSc, hSr⟩, hC6, hCc, hCl⟩ := hB
  have hc6 : c < 6 := by omega
  obtain ⟨a1, jn, j1, j2, j3⟩ := hCl c hc
  have hjn : fN (σ (163 + 3 * c) 6) = jn := by rw [j2]; exact fN_nI (by omega)
  unfold kXM
  iterate 3 (refine kX_one rfl ?_)
  refine kX_ialdN rfl rfl (by decide) (s') (by first | rfl | decide) (by omega) ?_
  iterate 1 (refine kX_one rfl ?_)
  refine kX_getN rfl rfl (kT_cl hc6) rfl ?_
  repeat refine kX_one rfl ?_
  refine kX_if (fun q => ?_) (fun q => ?_)
  · have q := qne q
    repeat refine kX_one rfl ?_
    refine kX_ret (i := .ireturn) (len := 1) rfl (Or.inr rfl) rfl (⟨by rw [isB_F (fun z => q z.1.1)]; rfl, rfl⟩)
  have q0 : σ 15 s' = σ (163 + 3 * c) 2 := qneF q
  iterate 4 (refine kX_one rfl ?_)
  refine kX_cal (mc_doneBy L xs d σ A M base s' g0 hA hM (by omega)) rfl (Or.inr rfl) rfl rfl rfl (fun r1 σ1 q1 => ?_)
  obtain ⟨rfl, rfl⟩ := q1
  iterate 1 (refine kX_one rfl ?_)
  refine kX_getN rfl rfl (kT_cl hc6) rfl ?_
  repeat refine kX_one rfl ?_
  refine kX_if (fun q => ?_) (fun q => ?_)
  · have qd : ¬ σ A (base + 7 * s') < σ (163 + 3 * c) 3 := qgeI q
    have loop : ∀ q : Nat, (q ≤ jn ∧ ∀ j, j < q → σ A (base + 7 * s + 1 + fN (σ (164 + 3 * c) j)) ≠ -1 ∧ σ A (base + 7 * s + 1 + fN (σ (164 + 3 * c) j)) = σ A (base + 7 * s' + 1 + fN (σ (165 + 3 * c) j))) → kX kT L xs (d + 2) 27 34 [(6, .int (nI q)), (0, .ref 13), (1, .ref (163 + 3 * c)), (2, .ref A), (3, .int (nI base)), (4, .int (nI s)), (5, .int (nI s'))] [] σ (fun q σ' => q = some (.int (isB (cFt σ A base c s s'))) ∧ σ = σ') := by
      refine kX_while (fun q => [(6, .int (nI q)), (0, .ref 13), (1, .ref (163 + 3 * c)), (2, .ref A), (3, .int (nI base)), (4, .int (nI s)), (5, .int (nI s'))]) (fun _ => σ) _ (fun q => jn - q) ?_
      intro i ⟨i1, i2⟩ ih
      iterate 2 (refine kX_one rfl ?_)
      refine kX_getN rfl rfl (kT_cl hc6) rfl ?_
      refine kX_top (j2) ?_
      repeat refine kX_one rfl ?_
      refine kX_if (fun q => ?_) (fun q => ?_)
      · have q := qge q i jn
        obtain rfl : i = jn := by omega
        repeat refine kX_one rfl ?_
        refine kX_ret (i := .ireturn) (len := 1) rfl (Or.inr rfl) rfl (⟨by rw [isB_T ⟨⟨q0, qd⟩, by rw [hjn]; exact i2⟩]; rfl, rfl⟩)
      · have q := qgeF q i jn
        obtain ⟨⟨x, x1, x2⟩, y, y1, y2⟩ := j3 i q
        have fx : fN (σ (164 + 3 * c) i) = x := by rw [x2]; exact fN_nI (by omega)
        have fy : fN (σ (165 + 3 * c) i) = y := by rw [y2]; exact fN_nI (by omega)
        iterate 5 (refine kX_one rfl ?_)
        refine kX_getN rfl rfl (kT_cl hc6) rfl ?_
        iterate 1 (refine kX_one rfl ?_)
        refine kX_ialdV rfl ((kT_c1 hc6).1) (by decide) (i) (by first | rfl | decide) (by omega) (x2) ?_
        refine kX_cal (mc_valueOf L xs d σ A M base s x g0 hA hM (by omega)) rfl (Or.inr rfl) rfl rfl rfl (fun r1 σ1 q1 => ?_)
        obtain ⟨rfl, rfl⟩ := q1
        repeat refine kX_one rfl ?_
        refine kX_if (fun q2 => ?_) (fun q2 => ?_)
        · have q2 : σ A (base + 7 * s + 1 + x) = -1 := qeq q2
          repeat refine kX_one rfl ?_
          refine kX_ret (i := .ireturn) (len := 1) rfl (Or.inr rfl) rfl (⟨by rw [isB_F (fun z => (z.2 i (by rw [hjn]; exact q)).1 (by rw [fx]; exact q2))]; rfl, rfl⟩)
        · have q2 : σ A (base + 7 * s + 1 + x) ≠ -1 := qeqF q2
          iterate 6 (refine kX_one rfl ?_)
          refine kX_getN rfl rfl (kT_cl hc6) rfl ?_
          iterate 1 (refine kX_one rfl ?_)
          refine kX_ialdV rfl ((kT_c1 hc6).2) (by decide) (i) (by first | rfl | decide) (by omega) (y2) ?_
          refine kX_cal (mc_valueOf L xs d σ A M base s' y g0 hA hM (by omega)) rfl (Or.inr rfl) rfl rfl rfl (fun r1 σ1 q1 => ?_)
          obtain ⟨rfl, rfl⟩ := q1
          repeat refine kX_one rfl ?_
          refine kX_if (fun q3 => ?_) (fun q3 => ?_)
          · have q3 : σ A (base + 7 * s + 1 + x) = σ A (base + 7 * s' + 1 + y) := qeq q3
            iterate 2 (refine kX_one rfl ?_)
            have := ih (i + 1) ⟨by omega, fun j hj => by
              by_cases e : j = i
              · subst e
                rw [fx, fy]
                exact ⟨q2, q3⟩
              · exact i2 j (by omega)⟩ (by omega)
            rw [← nI_1] at this
            exact kX_lv _ rfl rfl rfl this
          · have q3 : σ A (base + 7 * s + 1 + x) ≠ σ A (base + 7 * s' + 1 + y) := qeqF q3
            repeat refine kX_one rfl ?_
            refine kX_ret (i := .ireturn) (len := 1) rfl (Or.inr rfl) rfl (⟨by rw [isB_F (fun z => q3 (by have := (z.2 i (by rw [hjn]; exact q)).2; rw [fx, fy] at this; exact this))]; rfl, rfl⟩)
    iterate 2 (refine kX_one rfl ?_)
    exact kX_lv _ rfl rfl rfl (loop 0 ⟨Nat.zero_le _, fun j hj => absurd hj (Nat.not_lt_zero j)⟩)
  · have qd : σ A (base + 7 * s') < σ (163 + 3 * c) 3 := qgeIF q
    repeat refine kX_one rfl ?_
    refine kX_ret (i := .ireturn) (len := 1) rfl (Or.inr rfl) rfl (⟨by rw [isB_F (fun z => z.1.2 qd)]; rfl, rfl⟩)
set_option maxRecDepth 100000 in
set_option maxHeartbeats 4000000 in
theorem mf_canPartner (L : Nat) (xs : Nat → Int32) (σ : kS) (n R S C A M base c : Nat) (g0 : Nat → Int32) (hB : cB σ n R S C) (hc : c < C) (hA : kT[A]? = some (.inl (0, M, .inl g0))) (hM : M ≤ 100000) (hbm : base + 28 ≤ M) : ∀ (m d s w : Nat), s + m = S → w < 16 → kXM kT L xs (d + m + 3) 26 [.ref 13, .ref (163 + 3 * c), .ref A, .int (nI base), .int (nI s), .int (nI w)] σ (fun q σ' => q = some (.int (isB (cPn (cWn σ A base c) (cFt σ A base c) S m s w))) ∧ σ = σ') := by
  have hRo := hB.1
  have hS4 := hB.2.1.1
  have hSc := hB.2.1.2.1
  have hSr := hB.2.1.2.2
  have hC6 := hB.2.2.1
  have hc6 : c < 6 := by omega
  intro m
  induction m with
  | zero =>
    intro d s w hsm hw
    unfold kXM
    iterate 3 (refine kX_one rfl ?_)
    refine kX_top (hSc) ?_
    repeat refine kX_one rfl ?_
    refine kX_if (fun q => ?_) (fun q => ?_)
    · have q := qlt q s S
      omega
    · repeat refine kX_one rfl ?_
      refine kX_ret (i := .ireturn) (len := 1) rfl (Or.inr rfl) rfl (⟨by rw [isB_T (by unfold cPn; trivial)]; rfl, rfl⟩)
  | succ m IH =>
    intro d s w hsm hw
    have hs : s < S := by omega
    have hs4 : s < 4 := by omega
    unfold kXM
    iterate 3 (refine kX_one rfl ?_)
    refine kX_top (hSc) ?_
    repeat refine kX_one rfl ?_
    refine kX_if (fun q => ?_) (fun q => ?_)
    · have k46 : ¬ cWn σ A base c s → kX kT L xs (d + (m + 1) + 3) 26 46 [(0, .ref 13), (1, .ref (163 + 3 * c)), (2, .ref A), (3, .int (nI base)), (4, .int (nI s)), (5, .int (nI w))] [] σ (fun q σ' => q = some (.int (isB (cPn (cWn σ A base c) (cFt σ A base c) S (m + 1) s w))) ∧ σ = σ') := by
        intro hnw
        iterate 7 (refine kX_one rfl ?_)
        refine kX_top (y := nI (s + 1)) (nI_1 s) ?_
        iterate 1 (refine kX_one rfl ?_)
        refine kX_cal (IH d (s + 1) w (by omega) hw) rfl (Or.inr rfl) rfl rfl rfl (fun r1 σ1 q1 => ?_)
        obtain ⟨rfl, rfl⟩ := q1
        refine kX_ret (i := .ireturn) (len := 1) rfl (Or.inr rfl) (jend_b rfl (isB_01 _)) ⟨?_, rfl⟩
        refine congrArg (fun z => some (Value.int z)) (isB_iff ?_)
        rw [cPn_s]
        exact ⟨fun z => Or.inr ⟨hnw, z⟩, fun z => z.elim (fun y => absurd y.1 hnw) (fun y => y.2)⟩
      have loop : cWn σ A base c s → ∀ q : Nat, (q ≤ S ∧ ∀ p, p < q → ¬ (p ≠ s ∧ w / 2 ^ p % 2 = 0 ∧ cFt σ A base c s p ∧ cPn (cWn σ A base c) (cFt σ A base c) S m (s + 1) (orb w p))) → kX kT L xs (d + (m + 1) + 3) 26 63 [(6, .int (nI q)), (0, .ref 13), (1, .ref (163 + 3 * c)), (2, .ref A), (3, .int (nI base)), (4, .int (nI s)), (5, .int (nI w))] [] σ (fun q σ' => q = some (.int (isB (cPn (cWn σ A base c) (cFt σ A base c) S (m + 1) s w))) ∧ σ = σ') := by
        intro hW
        refine kX_while (fun q => [(6, .int (nI q)), (0, .ref 13), (1, .ref (163 + 3 * c)), (2, .ref A), (3, .int (nI base)), (4, .int (nI s)), (5, .int (nI w))]) (fun _ => σ) _ (fun q => S - q) ?_
        intro i ⟨i1, i2⟩ ih
        iterate 3 (refine kX_one rfl ?_)
        refine kX_top (hSc) ?_
        repeat refine kX_one rfl ?_
        refine kX_if (fun q => ?_) (fun q => ?_)
        · have q := qge q i S
          repeat refine kX_one rfl ?_
          refine kX_ret (i := .ireturn) (len := 1) rfl (Or.inr rfl) rfl (⟨by rw [isB_F (fun z => (cPn_s.mp z).elim (fun ⟨_, p, p1, p2⟩ => i2 p (by omega) p2) (fun y => y.1 hW))]; rfl, rfl⟩)
        · have q := qgeF q i S
          have k138 : ¬ (i ≠ s ∧ w / 2 ^ i % 2 = 0 ∧ cFt σ A base c s i ∧ cPn (cWn σ A base c) (cFt σ A base c) S m (s + 1) (orb w i)) → ∀ lv, nk lv = true → ([(6, .int (nI i)), (0, .ref 13), (1, .ref (163 + 3 * c)), (2, .ref A), (3, .int (nI base)), (4, .int (nI s)), (5, .int (nI w))] : jL).map (fun q => jl lv q.1) = ([(6, .int (nI i)), (0, .ref 13), (1, .ref (163 + 3 * c)), (2, .ref A), (3, .int (nI base)), (4, .int (nI s)), (5, Value.int (nI w))] : jL).map (fun q => some q.2) → kX kT L xs (d + (m + 1) + 3) 26 138 lv [] σ (fun q σ' => q = some (.int (isB (cPn (cWn σ A base c) (cFt σ A base c) S (m + 1) s w))) ∧ σ = σ') := by
            intro hno lv hk hlv
            refine kX_lv _ hk rfl hlv ?_
            iterate 2 (refine kX_one rfl ?_)
            have := ih (i + 1) ⟨by omega, fun p hp => by
              by_cases e : p = i
              · subst e
                exact hno
              · exact i2 p (by omega)⟩ (by omega)
            rw [← nI_1] at this
            exact kX_lv _ rfl rfl rfl this
          repeat refine kX_one rfl ?_
          refine kX_if (fun q2 => ?_) (fun q2 => ?_)
          · have q2 : i = s := nI_inj (qeq q2)
            iterate 4 (refine kX_one rfl ?_)
            exact k138 (fun z => z.1 q2) _ rfl rfl
          · have q2 : i ≠ s := fun e => qeqF q2 (by rw [e])
            iterate 5 (refine kX_one rfl ?_)
            refine kX_top (bl_and w hw i (by omega)) ?_
            repeat refine kX_one rfl ?_
            refine kX_if (fun q3 => ?_) (fun q3 => ?_)
            · have q3 : nI (w / 2 ^ i % 2 * 2 ^ i) ≠ 0 := qne q3
              iterate 4 (refine kX_one rfl ?_)
              exact k138 (fun z => q3 (by rw [z.2.1, Nat.zero_mul]; rfl)) _ rfl rfl
            · have q3 : nI (w / 2 ^ i % 2 * 2 ^ i) = nI 0 := qneF q3
              have hb0 : w / 2 ^ i % 2 = 0 := by
                have hb := Nat.mod_lt (w / 2 ^ i) (show 0 < 2 by decide)
                have hp : 2 ^ i ≤ 16 := by
                  have : i = 0 ∨ i = 1 ∨ i = 2 ∨ i = 3 := by omega
                  rcases this with rfl | rfl | rfl | rfl <;> decide
                have hp1 : 0 < 2 ^ i := Nat.pos_of_ne_zero (by simp)
                have hle : w / 2 ^ i % 2 * 2 ^ i ≤ 1 * 16 := Nat.mul_le_mul (by omega) hp
                have h0 := nI_inj q3 (by omega) (by omega)
                rcases Nat.mul_eq_zero.mp h0 with z | z
                · exact z
                · omega
              iterate 11 (refine kX_one rfl ?_)
              refine kX_cal (mf_isPartner L xs (d + m + 1) σ n R S C A M base c s i g0 hB hc hs q hA hM hbm) rfl (Or.inr rfl) rfl rfl rfl (fun r1 σ1 q1 => ?_)
              obtain ⟨rfl, rfl⟩ := q1
              by_cases hf : cFt σ A base c s i
              · rw [isB_T hf]
                iterate 8 (refine kX_one rfl ?_)
                refine kX_top (y := nI (s + 1)) (nI_1 s) ?_
                iterate 5 (refine kX_one rfl ?_)
                refine kX_top (y := nI (orb w i)) (bl_or w hw i (by omega)) ?_
                refine kX_cal (IH d (s + 1) (orb w i) (by omega) (orb_lt w hw i (by omega)).1) rfl (Or.inr rfl) rfl rfl rfl (fun r1 σ1 q1 => ?_)
                obtain ⟨rfl, rfl⟩ := q1
                by_cases hg : cPn (cWn σ A base c) (cFt σ A base c) S m (s + 1) (orb w i)
                · rw [isB_T hg]
                  repeat refine kX_one rfl ?_
                  refine kX_ret (i := .ireturn) (len := 1) rfl (Or.inr rfl) rfl (⟨by rw [isB_T (cPn_s.mpr (Or.inl ⟨hW, i, q, q2, hb0, hf, hg⟩))]; rfl, rfl⟩)
                · rw [isB_F hg]
                  iterate 1 (refine kX_one rfl ?_)
                  exact k138 (fun z => hg z.2.2.2) _ rfl rfl
              · rw [isB_F hf]
                iterate 1 (refine kX_one rfl ?_)
                exact k138 (fun z => hf z.2.2.1) _ rfl rfl
      iterate 3 (refine kX_one rfl ?_)
      refine kX_ialdN rfl rfl (by decide) (s) (by first | rfl | decide) (hs4) ?_
      iterate 1 (refine kX_one rfl ?_)
      refine kX_getN rfl rfl (kT_cl hc6) rfl ?_
      repeat refine kX_one rfl ?_
      refine kX_if (fun q2 => ?_) (fun q2 => ?_)
      · have q2 := qne q2
        exact kX_lv _ rfl rfl rfl (k46 (fun z => q2 z.1.1))
      · have q2 := qneF q2
        iterate 3 (refine kX_one rfl ?_)
        refine kX_baldN rfl rfl (by decide) (s) (by first | rfl | decide) (hs4) ?_
        repeat refine kX_one rfl ?_
        refine kX_if (fun q3 => ?_) (fun q3 => ?_)
        · have q3 := qeq q3
          exact kX_lv _ rfl rfl rfl (k46 (fun z => z.1.2 q3))
        · have q3 := qeqF q3
          iterate 4 (refine kX_one rfl ?_)
          refine kX_cal (mf_hasDoneAll L xs (d + m + 1) σ n R S A M base s g0 hRo hS4 hSr hs hA hM hbm) rfl (Or.inr rfl) rfl rfl rfl (fun r1 σ1 q1 => ?_)
          obtain ⟨rfl, rfl⟩ := q1
          by_cases hh : cHd σ A base s
          · rw [isB_T hh]
            iterate 3 (refine kX_one rfl ?_)
            exact kX_lv _ rfl rfl rfl (loop ⟨⟨q2, q3⟩, hh⟩ 0 ⟨Nat.zero_le _, fun p hp => absurd hp (Nat.not_lt_zero p)⟩)
          · rw [isB_F hh]
            iterate 1 (refine kX_one rfl ?_)
            exact kX_lv _ rfl rfl rfl (k46 (fun z => hh z.2))
    · have q := qltF q s S
      omega
