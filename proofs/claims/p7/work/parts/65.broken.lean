/-! the reference: isApart, isBroken -/
theorem bl_all : ∀ m, m < 5 → Int32.ofInt 1 <<< ((Int32.ofInt 2 * nI m) &&& 31) = nI (4 ^ m) := by decide +kernel
theorem bl_dig : ∀ code, code < 256 → ∀ k, k < 4 → (nI code >>> ((Int32.ofInt 2 * nI k) &&& 31)) &&& Int32.ofInt 3 = nI (code / 4 ^ k % 4) := by decide +kernel
theorem bl_bit : ∀ m, m < 16 → ∀ o, o < 4 → (nI m >>> (nI o &&& 31)) &&& Int32.ofInt 1 = nI (m / 2 ^ o % 2) := by decide +kernel
def orb (m o : Nat) : Nat := if m / 2 ^ o % 2 = 1 then m else m + 2 ^ o
theorem bl_or : ∀ m, m < 16 → ∀ o, o < 4 → nI m ||| (Int32.ofInt 1 <<< (nI o &&& 31)) = nI (orb m o) := by decide +kernel
theorem orb_lt : ∀ m, m < 16 → ∀ o, o < 4 → orb m o < 16 ∧ ∀ o', o' < 4 → (orb m o / 2 ^ o' % 2 = 1 ↔ o' = o ∨ m / 2 ^ o' % 2 = 1) := by decide +kernel
/-- a session that asks for a partner -/
def mWt (σ : kS) (c s : Nat) : Prop := σ 255 s = σ 258 c ∧ σ 264 s = σ 247 (fN (σ 258 c)) ∧ mHo σ s
noncomputable def wsL (σ : kS) (c : Nat) : Nat → List Nat
  | 0 => []
  | s + 1 => cit (mWt σ c s) (wsL σ c s ++ [s]) (wsL σ c s)
theorem wsL_le (σ : kS) (c : Nat) : ∀ s, (wsL σ c s).length ≤ s ∧ ∀ u ∈ wsL σ c s, u < s
  | 0 => ⟨Nat.le_refl _, fun u hu => by cases hu⟩
  | s + 1 => by
    obtain ⟨h1, h2⟩ := wsL_le σ c s
    unfold wsL
    by_cases hm : mWt σ c s
    · rw [cit_T hm]
      refine ⟨by rw [List.length_append]; simp; omega, fun u hu => ?_⟩
      rcases List.mem_append.mp hu with hu | hu
      · have := h2 u hu
        omega
      · rw [List.mem_singleton] at hu
        omega
    · rw [cit_F hm]
      exact ⟨by omega, fun u hu => by have := h2 u hu; omega⟩
def dig (code k : Nat) : Nat := code / 4 ^ k % 4
/-- by this code the session at place k of ws has its partner -/
def mP1 (σ : kS) (c S : Nat) (ws : List Nat) (code k : Nat) : Prop := dig code k < S ∧ (∀ i, i < k → dig code i ≠ dig code k) ∧ mFit σ c (ws.getD k 0) (dig code k)
def mOkc (σ : kS) (c S : Nat) (ws : List Nat) (code : Nat) : Prop := ∀ k, k < ws.length → mP1 σ c S ws code k
set_option maxRecDepth 100000 in
set_option maxHeartbeats 4000000 in
theorem mr_isApart (L : Nat) (xs : Nat → Int32) (d : Nat) (σ : kS) (n b R S C c : Nat) (h : mTb σ n b) (hR : mRo σ n R) (hS4 : S ≤ 4) (hS : mSv σ n R S) (hC : mCl σ R C) (hc : c < C) : kXM kT L xs (d + 2) 188 [.ref 232, .int (nI c)] σ (fun r σ' => r = some (.int (isB (¬ ∃ code, code < 4 ^ (wsL σ c S).length ∧ mOkc σ c S (wsL σ c S) code))) ∧ ∃ W, σ' = va_up σ 273 W) := by
  have hn := h.1
  obtain ⟨cb, ca, nn, j, c1, c2, c3, -⟩ := hC.2.2 c hc
  have hC6 := hC.1
  have hR4 := hR.1
  have hfb : fN (σ 258 c) = cb := by rw [c2]; exact fN_nI (by omega)
  unfold kXM
  /- the codes -/
  have codes : ∀ W : Nat → Int32, lst W (wsL σ c S) → kX kT L xs (d + 2) 188 71 [(2, .int (nI (wsL σ c S).length)), (0, .ref 232), (1, .int (nI c))] [] (va_up σ 273 W) (fun r σ' => r = some (.int (isB (¬ ∃ code, code < 4 ^ (wsL σ c S).length ∧ mOkc σ c S (wsL σ c S) code))) ∧ ∃ W, σ' = va_up σ 273 W) := by
    intro W hW
    obtain ⟨hwl, hwm⟩ := wsL_le σ c S
    generalize hws : wsL σ c S = ws at hW hwl hwm
    obtain ⟨m, hm⟩ : ∃ m, ws.length = m := ⟨_, rfl⟩
    rw [hm] at hwl ⊢
    have h256 : 4 ^ m ≤ 256 := by
      obtain rfl | rfl | rfl | rfl | rfl : m = 0 ∨ m = 1 ∨ m = 2 ∨ m = 3 ∨ m = 4 := by omega
      all_goals decide
    iterate 5 (refine kX_one rfl ?_)
    refine kX_top (bl_all m (by omega)) ?_
    iterate 5 (refine kX_one rfl ?_)
    have loop := kX_while (T := kT) (L := L) (xs := xs) (d := d + 2) (mi := 188) (pc := 83) (Q := fun r σ' => r = some (.int (isB (¬ ∃ code, code < 4 ^ m ∧ mOkc σ c S ws code))) ∧ ∃ W, σ' = va_up σ 273 W)
      (fun q : Nat => [(5, .int (nI q)), (4, .int (isB (∃ code, code < q ∧ mOkc σ c S ws code))), (3, .int (nI (4 ^ m))), (2, .int (nI m)), (0, .ref 232), (1, .int (nI c))]) (fun _ => va_up σ 273 W) (fun q => q ≤ 4 ^ m) (fun q => 4 ^ m - q) ?_ 0 (Nat.zero_le _)
    · refine kX_lv _ rfl rfl ?_ loop
      rw [isB_F (fun ⟨z, hz, _⟩ => absurd hz (Nat.not_lt_zero z))]
      rfl
    · intro code hcode ih
      have fin : ∀ P : Prop, ((∃ z, z < code ∧ mOkc σ c S ws z) ↔ ∃ z, z < 4 ^ m ∧ mOkc σ c S ws z) → kX kT L xs (d + 2) 188 189 [(5, .int (nI code)), (4, .int (isB (∃ z, z < code ∧ mOkc σ c S ws z))), (3, .int (nI (4 ^ m))), (2, .int (nI m)), (0, .ref 232), (1, .int (nI c))] [] (va_up σ 273 W) (fun r σ' => r = some (.int (isB (¬ ∃ code, code < 4 ^ m ∧ mOkc σ c S ws code))) ∧ ∃ W, σ' = va_up σ 273 W) := by
        intro _ hiff
        rw [isB_iff hiff]
        repeat refine kX_one rfl ?_
        refine kX_if (fun q => ?_) (fun q => ?_)
        · have q := isB_ne.mp (qne q)
          repeat refine kX_one rfl ?_
          refine kX_ret (i := .ireturn) (len := 1) rfl (Or.inr rfl) rfl (⟨by rw [isB_F (fun z => z q)]; rfl, W, rfl⟩)
        · have q := fun z => isB_ne.mpr z (qneF q)
          repeat refine kX_one rfl ?_
          refine kX_ret (i := .ireturn) (len := 1) rfl (Or.inr rfl) rfl (⟨by rw [isB_T q]; rfl, W, rfl⟩)
      repeat refine kX_one rfl ?_
      refine kX_if (fun q => ?_) (fun q => ?_)
      · have q := qge q code (4 ^ m)
        obtain rfl : code = 4 ^ m := by omega
        exact fin True Iff.rfl
      · have q := qgeF q code (4 ^ m)
        repeat refine kX_one rfl ?_
        refine kX_if (fun q2 => ?_) (fun q2 => ?_)
        · have q2 := isB_ne.mp (qne q2)
          refine fin True ⟨fun ⟨z, h1, h2⟩ => ⟨z, by omega, h2⟩, fun _ => q2⟩
        · have q2 := fun z => isB_ne.mpr z (qneF q2)
          have next : ∀ P : Prop, (P ↔ mOkc σ c S ws code) → ∀ lv, nk lv = true → ([(5, Value.int (nI code)), (4, .int (isB P)), (3, .int (nI (4 ^ m))), (2, .int (nI m)), (0, .ref 232), (1, .int (nI c))] : jL).map (fun q => jl lv q.1) = ([(5, Value.int (nI code)), (4, .int (isB P)), (3, .int (nI (4 ^ m))), (2, .int (nI m)), (0, .ref 232), (1, .int (nI c))] : jL).map (fun q => some q.2) → kX kT L xs (d + 2) 188 183 lv [] (va_up σ 273 W) (fun r σ' => r = some (.int (isB (¬ ∃ code, code < 4 ^ m ∧ mOkc σ c S ws code))) ∧ ∃ W, σ' = va_up σ 273 W) := by
            intro P hP lv hk hlv
            refine kX_lv _ hk rfl hlv ?_
            iterate 2 (refine kX_one rfl ?_)
            have := ih (code + 1) (by omega) (by omega)
            have e : isB (∃ z, z < code + 1 ∧ mOkc σ c S ws z) = isB P := by
              refine isB_iff ⟨fun ⟨z, h1, h2⟩ => ?_, fun z => ⟨code, by omega, hP.mp z⟩⟩
              by_cases e : z = code
              · subst e
                exact hP.mpr h2
              · exact absurd ⟨z, by omega, h2⟩ q2
            rw [e, ← nI_1] at this
            exact this
          iterate 6 (refine kX_one rfl ?_)
          have inner := kX_while (T := kT) (L := L) (xs := xs) (d := d + 2) (mi := 188) (pc := 103) (Q := fun r σ' => r = some (.int (isB (¬ ∃ code, code < 4 ^ m ∧ mOkc σ c S ws code))) ∧ ∃ W, σ' = va_up σ 273 W)
            (fun q : Nat × Nat => [(7, .int (nI q.1)), (6, .int (nI q.2)), (4, .int (isB (∀ i, i < q.1 → mP1 σ c S ws code i))), (5, .int (nI code)), (3, .int (nI (4 ^ m))), (2, .int (nI m)), (0, .ref 232), (1, .int (nI c))]) (fun _ => va_up σ 273 W) (fun q => q.1 ≤ m ∧ q.2 < 16 ∧ ∀ o, o < 4 → (q.2 / 2 ^ o % 2 = 1 ↔ ∃ i, i < q.1 ∧ dig code i = o)) (fun q => m - q.1) ?_ (0, 0) ⟨Nat.zero_le _, by simp, fun o ho => by
              simp only
              rw [Nat.zero_div]
              exact ⟨fun z => absurd z (by decide), fun ⟨i, hi, _⟩ => absurd hi (Nat.not_lt_zero i)⟩⟩
          · refine kX_lv _ rfl rfl ?_ inner
            rw [isB_T (fun i hi => absurd hi (Nat.not_lt_zero i))]
            rfl
          · rintro ⟨k, tk⟩ ⟨i1, i2, i3⟩ ih2
            dsimp only at i1 i2 i3 ih2 ⊢
            repeat refine kX_one rfl ?_
            refine kX_if (fun q3 => ?_) (fun q3 => ?_)
            · have q3 := qge q3 k m
              obtain rfl : k = m := by omega
              refine next _ ?_ _ rfl rfl
              unfold mOkc
              rw [hm]
            · have q3 := qgeF q3 k m
              repeat refine kX_one rfl ?_
              refine kX_if (fun q4 => ?_) (fun q4 => ?_)
              · have q4 := fun z => isB_ne.mpr z (qeq q4)
                refine next _ ⟨fun z => absurd z q4, fun z => absurd (fun i hi => z i (by omega)) q4⟩ _ rfl rfl
              · have q4 := isB_ne.mp (qeqF q4)
                have hdg : dig code k < 4 := Nat.mod_lt _ (by decide)
                have hwk : W k = nI (ws.getD k 0) := by
                  rw [List.getD_eq_getElem?_getD, List.getElem?_eq_getElem (by omega)]
                  exact hW k (by omega)
                have hwk4 : ws.getD k 0 < 4 := by
                  rw [List.getD_eq_getElem?_getD, List.getElem?_eq_getElem (by omega)]
                  have := hwm ws[k] (List.getElem_mem (by omega))
                  show ws[k] < 4
                  omega
                iterate 6 (refine kX_one rfl ?_)
                iterate 1 (refine kX_one rfl ?_)
                refine kX_top (bl_dig code (by omega) k (by omega)) ?_
                /- behind the test -/
                have step : ∀ P : Prop, (P ↔ mP1 σ c S ws code k) → ∀ lv, nk lv = true → ([(8, Value.int (nI (dig code k))), (7, .int (nI k)), (6, .int (nI tk)), (5, .int (nI code)), (3, .int (nI (4 ^ m))), (2, .int (nI m)), (0, .ref 232), (1, .int (nI c))] : jL).map (fun q => jl lv q.1) = ([(8, Value.int (nI (dig code k))), (7, .int (nI k)), (6, .int (nI tk)), (5, .int (nI code)), (3, .int (nI (4 ^ m))), (2, .int (nI m)), (0, .ref 232), (1, .int (nI c))] : jL).map (fun q => some q.2) → kX kT L xs (d + 2) 188 166 lv [.int (isB P)] (va_up σ 273 W) (fun r σ' => r = some (.int (isB (¬ ∃ code, code < 4 ^ m ∧ mOkc σ c S ws code))) ∧ ∃ W, σ' = va_up σ 273 W) := by
                  intro P hP lv hk hlv
                  refine kX_lv _ hk rfl hlv ?_
                  obtain ⟨o1, o2⟩ := orb_lt tk i2 (dig code k) hdg
                  iterate 6 (refine kX_one rfl ?_)
                  refine kX_top (bl_or tk i2 (dig code k) hdg) ?_
                  iterate 3 (refine kX_one rfl ?_)
                  have := ih2 (k + 1, orb tk (dig code k)) ⟨by simp only; omega, o1, fun o ho => by
                    simp only
                    rw [o2 o ho, i3 o ho]
                    constructor
                    · rintro (rfl | ⟨i, hi, e⟩)
                      · exact ⟨k, by omega, rfl⟩
                      · exact ⟨i, by omega, e⟩
                    · rintro ⟨i, hi, e⟩
                      by_cases ei : i = k
                      · subst ei
                        exact Or.inl e.symm
                      · exact Or.inr ⟨i, by omega, e⟩⟩ (by simp only; omega)
                  have e : isB (∀ i, i < k + 1 → mP1 σ c S ws code i) = isB P := by
                    refine isB_iff ⟨fun z => hP.mpr (z k (by omega)), fun z i hi => ?_⟩
                    by_cases ei : i = k
                    · subst ei
                      exact hP.mp z
                    · exact q4 i (by omega)
                  simp only at this
                  rw [e, ← nI_1] at this
                  exact kX_lv _ rfl rfl rfl this
                have no : ¬ mP1 σ c S ws code k → ∀ lv, nk lv = true → ([(8, Value.int (nI (dig code k))), (7, .int (nI k)), (6, .int (nI tk)), (5, .int (nI code)), (3, .int (nI (4 ^ m))), (2, .int (nI m)), (0, .ref 232), (1, .int (nI c))] : jL).map (fun q => jl lv q.1) = ([(8, Value.int (nI (dig code k))), (7, .int (nI k)), (6, .int (nI tk)), (5, .int (nI code)), (3, .int (nI (4 ^ m))), (2, .int (nI m)), (0, .ref 232), (1, .int (nI c))] : jL).map (fun q => some q.2) → kX kT L xs (d + 2) 188 165 lv [] (va_up σ 273 W) (fun r σ' => r = some (.int (isB (¬ ∃ code, code < 4 ^ m ∧ mOkc σ c S ws code))) ∧ ∃ W, σ' = va_up σ 273 W) := by
                  intro hz lv hk hlv
                  iterate 1 (refine kX_one rfl ?_)
                  have := step False ⟨False.elim, hz⟩ lv hk hlv
                  rw [isB_F id] at this
                  exact this
                iterate 4 (refine kX_one rfl ?_)
                refine kX_top (hS.1) ?_
                repeat refine kX_one rfl ?_
                refine kX_if (fun q5 => ?_) (fun q5 => ?_)
                · have q5 := qge q5 (dig code k) S
                  exact no (fun z => by have := z.1; omega) _ rfl rfl
                · have q5 := qgeF q5 (dig code k) S
                  iterate 5 (refine kX_one rfl ?_)
                  refine kX_top (bl_bit tk i2 (dig code k) hdg) ?_
                  have hb2 : tk / 2 ^ dig code k % 2 < 2 := Nat.mod_lt _ (by decide)
                  repeat refine kX_one rfl ?_
                  refine kX_if (fun q6 => ?_) (fun q6 => ?_)
                  · have q6 := qne q6
                    have : tk / 2 ^ dig code k % 2 = 1 := by
                      have : tk / 2 ^ dig code k % 2 ≠ 0 := fun e => q6 (by rw [e]; rfl)
                      omega
                    obtain ⟨i, hi, ei⟩ := (i3 _ hdg).mp this
                    exact no (fun z => z.2.1 i hi ei) _ rfl rfl
                  · have q6 : nI (tk / 2 ^ dig code k % 2) = 0 := qneF q6
                    have q6' : ¬ ∃ i, i < k ∧ dig code i = dig code k := fun z => by
                      rw [(i3 _ hdg).mpr z] at q6
                      exact absurd q6 (by decide)
                    repeat refine kX_one rfl ?_
                    refine kX_ialdV rfl rfl (by decide) (k) (by first | rfl | decide) (by omega) (hwk) ?_
                    repeat refine kX_one rfl ?_
                    refine kX_cal (mr_fits L xs d (va_up σ 273 W) n R C c (ws.getD k 0) (dig code k) (show mRo (va_up σ 273 W) n R from hR) (show mCl (va_up σ 273 W) R C from hC) hc hwk4 hdg) rfl (Or.inr rfl) rfl rfl rfl (fun r1 σ2 q1 => ?_)
                    obtain ⟨rfl, hσ9⟩ := q1
                    obtain rfl := hσ9
                    have hfit : mFit (va_up σ 273 W) c (ws.getD k 0) (dig code k) ↔ mFit σ c (ws.getD k 0) (dig code k) := Iff.rfl
                    repeat refine kX_one rfl ?_
                    refine kX_if (fun q7 => ?_) (fun q7 => ?_)
                    · have q7 := fun z => isB_ne.mpr (hfit.mpr z) (qeq q7)
                      exact no (fun z => q7 z.2.2) _ rfl rfl
                    · have q7 := hfit.mp (isB_ne.mp (qeqF q7))
                      iterate 2 (refine kX_one rfl ?_)
                      have := step True ⟨fun _ => ⟨q5, fun i hi e => q6' ⟨i, hi, e⟩, q7⟩, fun _ => trivial⟩ [(8, .int (nI (dig code k))), (7, .int (nI k)), (6, .int (nI tk)), (4, .int (isB (∀ i, i < k → mP1 σ c S ws code i))), (5, .int (nI code)), (3, .int (nI (4 ^ m))), (2, .int (nI m)), (0, .ref 232), (1, .int (nI c))] rfl rfl
                      rw [isB_T trivial] at this
                      exact this
  iterate 4 (refine kX_one rfl ?_)
  have loop := kX_while (T := kT) (L := L) (xs := xs) (d := d + 2) (mi := 188) (pc := 4) (Q := fun r σ' => r = some (.int (isB (¬ ∃ code, code < 4 ^ (wsL σ c S).length ∧ mOkc σ c S (wsL σ c S) code))) ∧ ∃ W, σ' = va_up σ 273 W)
    (fun q : Nat × (Nat → Int32) => [(3, .int (nI q.1)), (2, .int (nI (wsL σ c q.1).length)), (0, .ref 232), (1, .int (nI c))]) (fun q => va_up σ 273 q.2) (fun q => q.1 ≤ S ∧ lst q.2 (wsL σ c q.1)) (fun q => S - q.1) ?_ (0, σ 273) ⟨Nat.zero_le _, lst_nil _⟩
  · rw [kup_self] at loop
    exact loop
  · rintro ⟨s, W⟩ ⟨i1, i2⟩ ih
    dsimp only at i1 i2 ih ⊢
    iterate 3 (refine kX_one rfl ?_)
    refine kX_top (hS.1) ?_
    repeat refine kX_one rfl ?_
    refine kX_if (fun q => ?_) (fun q => ?_)
    · have q := qge q s S
      obtain rfl : s = S := by omega
      refine kX_lv _ rfl rfl rfl (codes W i2)
    · have q := qgeF q s S
      have hs4 : s < 4 := by omega
      have hwl := (wsL_le σ c s).1
      have no : ¬ mWt σ c s → kX kT L xs (d + 2) 188 65 [(3, .int (nI s)), (2, .int (nI (wsL σ c s).length)), (0, .ref 232), (1, .int (nI c))] [] (va_up σ 273 W) (fun r σ' => r = some (.int (isB (¬ ∃ code, code < 4 ^ (wsL σ c S).length ∧ mOkc σ c S (wsL σ c S) code))) ∧ ∃ W, σ' = va_up σ 273 W) := by
        intro hz
        iterate 2 (refine kX_one rfl ?_)
        have e : wsL σ c (s + 1) = wsL σ c s := by rw [wsL, cit_F hz]
        have := ih (s + 1, W) ⟨by simp only; omega, by simp only; rw [e]; exact i2⟩ (by simp only; omega)
        simp only at this
        rw [e, ← nI_1] at this
        exact this
      repeat refine kX_one rfl ?_
      refine kX_ialdN rfl rfl (by decide) (s) (by first | rfl | decide) (hs4) ?_
      repeat refine kX_one rfl ?_
      refine kX_ialdN rfl rfl (by decide) (c) (by first | rfl | decide) (by omega) ?_
      repeat refine kX_one rfl ?_
      refine kX_if (fun q2 => ?_) (fun q2 => ?_)
      · exact no (fun z => qne q2 z.1)
      · have q2 : σ 255 s = σ 258 c := qneF q2
        repeat refine kX_one rfl ?_
        refine kX_ialdN rfl rfl (by decide) (s) (by first | rfl | decide) (hs4) ?_
        repeat refine kX_one rfl ?_
        refine kX_ialdV (v := nI cb) rfl rfl (by decide) c rfl (by omega) c2 ?_
        refine kX_ialdN rfl rfl (by decide) (cb) (by first | rfl | decide) (by omega) ?_
        repeat refine kX_one rfl ?_
        refine kX_if (fun q3 => ?_) (fun q3 => ?_)
        · exact no (fun z => qne q3 (by have := z.2.1; rw [hfb] at this; exact this))
        · have q3 : σ 264 s = σ 247 cb := qneF q3
          repeat refine kX_one rfl ?_
          refine kX_cal (mr_isHonest L xs d (va_up σ 273 W) n b R s _ (show mTb (va_up σ 273 W) n b from h) (show mRo (va_up σ 273 W) n R from hR) hs4 (show mSn (va_up σ 273 W) n R s (fN (σ 264 s)) from hS.2 s q)) rfl (Or.inr rfl) rfl rfl rfl (fun r1 σ2 q1 => ?_)
          obtain ⟨rfl, hσ9⟩ := q1
          obtain rfl := hσ9
          have hho : mHo (va_up σ 273 W) s ↔ mHo σ s := Iff.rfl
          repeat refine kX_one rfl ?_
          refine kX_if (fun q4 => ?_) (fun q4 => ?_)
          · have q4 := fun z => isB_ne.mpr (hho.mpr z) (qeq q4)
            exact no (fun z => q4 z.2.2)
          · have q4 := hho.mp (isB_ne.mp (qeqF q4))
            have e : wsL σ c (s + 1) = wsL σ c s ++ [s] := by rw [wsL, cit_T ⟨q2, by rw [hfb]; exact q3, q4⟩]
            repeat refine kX_one rfl ?_
            refine kX_iastN rfl rfl (by decide) ((wsL σ c s).length) (by first | rfl | decide) (by omega) ?_
            iterate 3 (refine kX_one rfl ?_)
            rw [kup_up]
            have := ih (s + 1, upd W (wsL σ c s).length (nI s)) ⟨by simp only; omega, by simp only; rw [e]; exact lst_push i2 s⟩ (by simp only; omega)
            simp only at this
            rw [e, List.length_append, show (wsL σ c s).length + [s].length = (wsL σ c s).length + 1 from rfl, ← nI_1, ← nI_1] at this
            exact kX_lv _ rfl rfl rfl this
