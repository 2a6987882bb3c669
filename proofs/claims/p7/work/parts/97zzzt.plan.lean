/-! alike: event, its plan, walked -/
theorem lvI_skip {σ : kS} {TL : List Nat} {t m u : Nat} {bl : List Nat} {M LV : Nat → Int32} (h : lvI σ TL t m bl M LV u) (hm : M u ≠ 0) : lvI σ TL t m bl M LV (u + 1) := by
  obtain ⟨h1, h2, h3⟩ := h
  refine ⟨h1, fun j hj hq => h2 j hj (hq.imp (fun z => by omega) id), fun j hj hjt hmj => h3 j ?_ hjt hmj⟩
  have : j ≠ u := fun e => hm (e ▸ hmj)
  omega
def plX (σ τ : kS) (a n t m : Nat) (M LV : Nat → Int32) (TL pl : List Nat) (k u w : Nat) : Prop := plF σ τ a ∧ τ 22 = LV ∧ plQ σ τ a t M LV pl k u ∧ plW τ a LV pl w ∧ tL n (τ (a + 3)) pl.length ∧ pl.length ≤ 24 ∧ ∀ x ∈ pl, x ∈ TL
set_option maxRecDepth 100000 in
set_option maxHeartbeats 4000000 in
theorem mf_plan (L : Nat) (xs : Nat → Int32) (d : Nat) (σ : kS) (n b0 r k t m : Nat) (h : cT σ n) (hI : mTb σ n b0) (hA : aT σ n) (TL : List Nat) (hTt : t ∈ TL) (hTL : ∀ u ∈ TL, u ≤ t ∧ (∀ x, σ 234 u = nI x → x < 100000 → x ∈ TL) ∧ (∀ y, σ 235 u = nI y → y < 100000 → y ∈ TL)) (h24 : TL.length ≤ 24) (hTv : ∀ u ∈ TL, ∀ v ∈ tvs (σ 233) (σ 234) (σ 235) u, v ∈ tvs (σ 233) (σ 234) (σ 235) t) (bl : List Nat) (hbl : bl.length = m) (hr : r < 4) (hk : k < 6) (ht : t < n) (hm : m ≤ 6) (hte : σ (28 + 35 * r + 5 * k) 1 = nI t) (hbc : σ (28 + 35 * r + 5 * k) 4 = nI m) (hbn : ∀ i (hi : i < bl.length), σ (28 + 35 * r + 5 * k + 1) i = σ 241 (bl[i]'hi)) (hbi : ∀ i (hi : i < bl.length), ∀ j (hj : j < bl.length), σ 241 (bl[i]'hi) = σ 241 (bl[j]'hj) → i = j) (hbk : ∀ w ∈ bl, w < n ∧ σ 233 w = nI 3) : kXM kT L xs (d + 4) 41 [.ref (28 + 35 * r + 5 * k), .ref 1, .ref 22] σ (fun q σ' => q = none ∧ ∃ p, plF σ σ' (28 + 35 * r + 5 * k) ∧ plJ σ' (28 + 35 * r + 5 * k) n p (m + 1) ∧ aP σ' (28 + 35 * r + 5 * k) t bl) := by
  have hn := h.1
  unfold kXM
  iterate 3 (refine kX_one rfl ?_)
  refine kX_cal (mf_markParts L xs d σ n b0 r k t h hI hA TL hTt hTL hr hk ht hte) rfl (Or.inr rfl) rfl (jcall_v rfl rfl rfl (kT_ev hr hk) rfl rfl) rfl (fun r1 σ1 q1 => ?_)
  obtain ⟨rfl, M, rfl, hM⟩ := q1
  have hlev : ∀ LV u, u < n → kXM kT L xs (d + 3) 43 [.ref (28 + 35 * r + 5 * k), .ref 1, .ref 22, .int (nI u)] (va_up σ 22 LV) (fun q σ' => (∃ x, q = some (.int x) ∧ lvR (va_up σ 22 LV) (28 + 35 * r + 5 * k) m u x) ∧ va_up σ 22 LV = σ') := fun LV u hu => mf_levelOf L xs d (va_up σ 22 LV) n b0 r k u m (cT_eq rfl rfl (fun _ _ => ⟨rfl, rfl, rfl, rfl, rfl, rfl⟩) h) hI hA hr hk hu hm (by rw [up_ne (by omega)]; exact hbc)
  have hEv := kT_ev hr hk
  have hE3 := (kT_e3 hr hk).1
  have hE4 := (kT_e3 hr hk).2
  generalize ha : 28 + 35 * r + 5 * k = a at *
  have haa : 28 ≤ a ∧ a + 5 ≤ 163 := by omega
  -- the end
  have fin : ∀ LV τ pl, lvI σ TL t m bl M LV (t + 1) → plX σ τ a n t m M LV TL pl (m + 1) 0 (m + 1) → aP τ a t bl := by
    intro LV τ pl hL hX
    obtain ⟨x1, x2, x3, x4, x5, x6, x7⟩ := hX
    have er : ∀ c, 232 ≤ c → τ c = σ c := fun c hc => x1.1 c (by omega) (by omega) (by omega) (by omega)
    have eo : ∀ w, opn τ w ↔ opn σ w := fun w => by
      unfold opn
      rw [er 233 (by decide), er 234 (by decide), er 235 (by decide)]
    have hin : ∀ w, w ≤ t → M w = 0 → ∃ l, l ≤ m ∧ LV w = nI l ∧ ∀ v ∈ tvs (σ 233) (σ 234) (σ 235) w, ∀ i (hi : i < bl.length), bl[i]'hi = v → i + 1 ≤ l := fun w w1 w2 => by
      obtain ⟨l, l1, l2, l3, -⟩ := hL.2.2 w (by omega) w1 w2
      exact ⟨l, l1, l2, l3⟩
    have hmt : M t = 0 := hM.2.2.1 (Nat.zero_le _)
    refine ⟨pl, x6, x3.1, x3.2.1, ?_, fun w hw => ⟨((x3.2.2.2.1 w).mp hw).1, by rw [er 233 (by decide), er 234 (by decide), er 235 (by decide)]; exact hTv w (x7 w hw)⟩, fun i hi ho => ?_, fun j hj => ?_⟩
    · obtain ⟨l, l1, l2, -⟩ := hin t (Nat.le_refl _) hmt
      exact (x3.2.2.2.1 t).mpr ⟨Nat.le_refl _, hmt, l, by omega, l2, Or.inl (by omega)⟩
    · rw [er 234 (by decide), er 235 (by decide)]
      exact x3.2.2.2.2 i hi ((eo _).mp ho)
    · obtain ⟨f, f1, f2, f3⟩ := x4 (j + 1) (by omega)
      refine ⟨f, f1, f2, fun i hi hif v hv j' hj' hjj e => ?_⟩
      obtain ⟨l, l1, l2, l3⟩ := f3 i hi hif
      obtain ⟨w1, w2, -⟩ := (x3.2.2.2.1 _).mp (List.getElem_mem hi)
      obtain ⟨l', m1, m2, m3⟩ := hin _ w1 w2
      have hll : l' = l := nI_inj (m2.symm.trans l1)
      rw [er 233 (by decide), er 234 (by decide), er 235 (by decide)] at hv
      have := m3 v hv j' hj' e.symm
      omega
  have hTLn : ∀ x ∈ TL, x < 200 := fun x hx => by
    have := (hTL x hx).1
    omega
  have loop3 : ∀ LV, lvI σ TL t m bl M LV (t + 1) → ∀ at' : Nat, at' ≤ m → (∀ τ pl, plX σ τ a n t m M LV TL pl (at' + 1) 0 (at' + 1) → kX kT L xs (d + 4) 41 137 [(3, .int (nI at')), (0, .ref a), (1, .ref 1), (2, .ref 22)] [] τ (fun q σ' => q = none ∧ ∃ p, plF σ σ' a ∧ plJ σ' a n p (m + 1) ∧ aP σ' a t bl)) → ∀ q : Nat × kS × List Nat, (q.1 ≤ t + 1 ∧ plX σ q.2.1 a n t m M LV TL q.2.2 at' q.1 (at' + 1)) → kX kT L xs (d + 4) 41 75 [(4, .int (nI q.1)), (3, .int (nI at')), (0, .ref a), (1, .ref 1), (2, .ref 22)] [] q.2.1 (fun q σ' => q = none ∧ ∃ p, plF σ σ' a ∧ plJ σ' a n p (m + 1) ∧ aP σ' a t bl) := by
    intro LV hL at' hat he
    refine kX_while (fun q : Nat × kS × List Nat => [(4, .int (nI q.1)), (3, .int (nI at')), (0, .ref a), (1, .ref 1), (2, .ref 22)]) (fun q => q.2.1) _ (fun q => t + 1 - q.1) ?_
    rintro ⟨u, τ, pl⟩ ⟨i1, i2⟩ ih
    dsimp only at i1 i2 ih ⊢
    obtain ⟨x1, x2, x3, x4, x5, x6, x7⟩ := i2
    have k137 : (∀ w, w ≤ t → M w = 0 → LV w = nI at' → w < u) → kX kT L xs (d + 4) 41 137 [(4, .int (nI u)), (3, .int (nI at')), (0, .ref a), (1, .ref 1), (2, .ref 22)] [] τ (fun q σ' => q = none ∧ ∃ p, plF σ σ' a ∧ plJ σ' a n p (m + 1) ∧ aP σ' a t bl) := by
      intro hend
      refine kX_lv _ rfl rfl rfl (he τ pl ⟨x1, x2, ⟨x3.1, x3.2.1, x3.2.2.1, fun w => ?_, x3.2.2.2.2⟩, x4, x5, x6, x7⟩)
      rw [x3.2.2.2.1]
      refine and_congr_right (fun w1 => and_congr_right (fun w2 => exists_congr (fun l => and_congr_right (fun l1 => and_congr_right (fun l2 => ?_)))))
      constructor
      · rintro (q | q)
        · exact Or.inl (by omega)
        · exact Or.inl (by omega)
      · rintro (q | q)
        · by_cases e : l = at'
          · exact Or.inr ⟨e, hend w w1 w2 (by rw [l2, e])⟩
          · exact Or.inl (by omega)
        · omega
    have etm : τ a 1 = nI t := (x1.2 _ (by decide)).trans hte
    have ecn : τ 1 11 = nI n := by
      rw [x1.1 1 (by decide) (by omega) (by omega) (by omega)]
      exact h.2.1
    iterate 2 (refine kX_one rfl ?_)
    refine kX_getN rfl rfl (hEv) rfl ?_
    refine kX_top (etm) ?_
    repeat refine kX_one rfl ?_
    refine kX_if (fun q => ?_) (fun q => ?_)
    · have q := qgt q u t
      exact k137 (fun w w1 _ _ => by omega)
    · have q := qgtF q u t
      iterate 3 (refine kX_one rfl ?_)
      refine kX_top (ecn) ?_
      repeat refine kX_one rfl ?_
      refine kX_if (fun q2 => ?_) (fun q2 => ?_)
      · have q2 := qge q2 u n
        omega
      · have q2 := qgeF q2 u n
        iterate 1 (refine kX_one rfl ?_)
        refine kX_getN rfl rfl (hEv) rfl ?_
        refine kX_top (x3.1) ?_
        iterate 1 (refine kX_one rfl ?_)
        repeat refine kX_one rfl ?_
        refine kX_if (fun q3 => ?_) (fun q3 => ?_)
        · have q3 := qge q3 pl.length 24
          refine k137 (fun w w1 w2 w3 => Classical.byContradiction (fun hw => ?_))
          have hno : w ∉ pl := fun z => by
            obtain ⟨-, -, l, l1, l2, l3⟩ := (x3.2.2.2.1 w).mp z
            have := nI_inj (w3.symm.trans l2)
            omega
          have hsub := sub_len (l := w :: pl) (TL := TL) (m := 200) (List.pairwise_cons.mpr ⟨fun y hy e => hno (e ▸ hy), x3.2.2.1⟩) (fun y hy => by
            rcases List.mem_cons.mp hy with rfl | hy
            · exact hM.2.1 y (by omega) w2
            · exact x7 y hy) (fun y hy => by
            rcases List.mem_cons.mp hy with rfl | hy
            · omega
            · exact hTLn y (x7 y hy))
          rw [List.length_cons] at hsub
          omega
        · have q3 := qgeF q3 pl.length 24
          have k131 : ∀ τ' pl', plX σ τ' a n t m M LV TL pl' at' (u + 1) (at' + 1) → kX kT L xs (d + 4) 41 131 [(4, .int (nI u)), (3, .int (nI at')), (0, .ref a), (1, .ref 1), (2, .ref 22)] [] τ' (fun q σ' => q = none ∧ ∃ p, plF σ σ' a ∧ plJ σ' a n p (m + 1) ∧ aP σ' a t bl) := by
            intro τ' pl' y1
            iterate 2 (refine kX_one rfl ?_)
            have := ih (u + 1, τ', pl') ⟨by simp only; omega, y1⟩ (by simp only; omega)
            dsimp only at this
            rw [← nI_1] at this
            exact kX_lv _ rfl rfl rfl this
          iterate 2 (refine kX_one rfl ?_)
          refine kX_ialdV rfl rfl (by decide) u rfl (by omega) (congrFun x2 u) ?_
          iterate 1 (refine kX_one rfl ?_)
          repeat refine kX_one rfl ?_
          refine kX_if (fun q4 => ?_) (fun q4 => ?_)
          · have q4 : LV u ≠ nI at' := qne q4
            exact k131 τ pl ⟨x1, x2, plQ_skip (by omega) x3 (fun e => q4 e.2.2), x4, x5, x6, x7⟩
          · have q4 : LV u = nI at' := qneF q4
            have hmu : M u = 0 := by
              rcases hM.1 u (by omega) with z | z
              · have := hL.2.1 u (by omega) (Or.inr z)
                rw [z, q4] at this
                exact absurd this (nI_m1 (by omega))
              · exact z
            iterate 1 (refine kX_one rfl ?_)
            refine kX_getN rfl rfl (hEv) rfl ?_
            iterate 1 (refine kX_one rfl ?_)
            refine kX_getN rfl rfl (hEv) rfl ?_
            refine kX_top (x3.1) ?_
            iterate 1 (refine kX_one rfl ?_)
            refine kX_iastN rfl (hE3) (by decide) (pl.length) (by first | rfl | decide) (q3) ?_
            iterate 2 (refine kX_one rfl ?_)
            refine kX_getN rfl rfl (hEv) rfl ?_
            refine kX_top (y := nI pl.length) (by rw [up_ne (by omega)]; exact x3.1) ?_
            iterate 2 (refine kX_one rfl ?_)
            refine kX_putN rfl rfl (hEv) rfl (rfl) rfl ?_
            refine k131 _ (pl ++ [u]) ⟨⟨fun c y1 y2 y3 y4 => ?_, fun j hj => ?_⟩, ?_, plQ_add hI ht hL hm x3 hat q hmu q4 ?_ ?_, plW_app x4 ?_, ?_, ?_, fun y hy => ?_⟩
            · rw [up_ne y2, up_ne y3]
              exact x1.1 c y1 y2 y3 y4
            · rw [up_eq, up_ne (by omega)]
              exact (pk_un hj).trans (x1.2 j hj)
            · rw [up_ne (by omega), up_ne (by omega)]
              exact x2
            · rw [up_eq, ← nI_1]
              exact pk_us
            · rw [up_ne (by omega), up_eq]
            · rw [up_ne (by omega), up_ne (by omega)]
            · rw [up_ne (by omega), up_eq, List.length_append]
              exact tL_up x5 (by omega)
            · rw [List.length_append]
              simp only [List.length_cons, List.length_nil]
              omega
            · rcases List.mem_append.mp hy with hy | hy
              · exact x7 y hy
              · rw [List.mem_singleton.mp hy]
                exact hM.2.1 u (by omega) hmu
  have loop2 : ∀ LV, lvI σ TL t m bl M LV (t + 1) → ∀ q : Nat × kS × List Nat, (q.1 ≤ m + 1 ∧ plX σ q.2.1 a n t m M LV TL q.2.2 q.1 0 q.1) → kX kT L xs (d + 4) 41 54 [(3, .int (nI q.1)), (0, .ref a), (1, .ref 1), (2, .ref 22)] [] q.2.1 (fun q σ' => q = none ∧ ∃ p, plF σ σ' a ∧ plJ σ' a n p (m + 1) ∧ aP σ' a t bl) := by
    intro LV hL
    refine kX_while (fun q : Nat × kS × List Nat => [(3, .int (nI q.1)), (0, .ref a), (1, .ref 1), (2, .ref 22)]) (fun q => q.2.1) _ (fun q => m + 1 - q.1) ?_
    rintro ⟨at', τ, pl⟩ ⟨i1, i2⟩ ih
    dsimp only at i1 i2 ih ⊢
    have hX := i2
    obtain ⟨x1, x2, x3, x4, x5, x6, x7⟩ := i2
    have ebc : τ a 4 = nI m := (x1.2 _ (by decide)).trans hbc
    iterate 2 (refine kX_one rfl ?_)
    refine kX_getN rfl rfl (hEv) rfl ?_
    refine kX_top (ebc) ?_
    repeat refine kX_one rfl ?_
    refine kX_if (fun q => ?_) (fun q => ?_)
    · have q := qgt q at' m
      obtain rfl : at' = m + 1 := by omega
      refine kX_ret (i := .return_) (len := 1) rfl (Or.inr rfl) rfl (⟨rfl, pl.length, x1, ⟨x6, x3.1, x5, fun j hj => by obtain ⟨f, f1, f2, -⟩ := x4 j hj; exact ⟨f, by omega, f2⟩⟩, fin LV τ pl hL hX⟩)
    · have q := qgtF q at' m
      iterate 1 (refine kX_one rfl ?_)
      refine kX_getN rfl rfl (hEv) rfl ?_
      iterate 2 (refine kX_one rfl ?_)
      refine kX_getN rfl rfl (hEv) rfl ?_
      refine kX_top (x3.1) ?_
      refine kX_iastN rfl (hE4) (by decide) (at') (by first | rfl | decide) (by omega) ?_
      iterate 2 (refine kX_one rfl ?_)
      refine kX_lv _ rfl rfl rfl (loop3 LV hL at' q (fun τ' pl' y1 => ?_) (0, va_up τ (a + 4) (upd (τ (a + 4)) at' (nI pl.length)), pl) ⟨Nat.zero_le _, ⟨fun c y1 y2 y3 y4 => ?_, fun j hj => ?_⟩, ?_, ⟨?_, ?_, x3.2.2.1, x3.2.2.2.1, x3.2.2.2.2⟩, fun j hj => ?_, ?_, x6, x7⟩)
      · iterate 2 (refine kX_one rfl ?_)
        have := ih (at' + 1, τ', pl') ⟨by simp only; omega, y1⟩ (by simp only; omega)
        dsimp only at this
        rw [← nI_1] at this
        exact kX_lv _ rfl rfl rfl this
      · simp only
        rw [up_ne y4]
        exact x1.1 c y1 y2 y3 y4
      · simp only
        rw [up_ne (by omega)]
        exact x1.2 j hj
      · simp only
        rw [up_ne (by omega)]
        exact x2
      · simp only
        rw [up_ne (by omega)]
        exact x3.1
      · simp only
        rw [up_ne (by omega)]
        exact x3.2.1
      · simp only
        rw [up_eq]
        by_cases e : j = at'
        · subst e
          refine ⟨pl.length, Nat.le_refl _, pk_us, fun i hi _ => ?_⟩
          obtain ⟨-, -, l, l1, l2, l3⟩ := (x3.2.2.2.1 _).mp (List.getElem_mem hi)
          exact ⟨l, l2, l1, by omega⟩
        · rw [pk_un e]
          exact x4 j (by omega)
      · simp only
        rw [up_ne (by omega)]
        exact x5
  have loop1 : ∀ q : Nat × (Nat → Int32), (q.1 ≤ t + 1 ∧ lvI σ TL t m bl M q.2 q.1) → kX kT L xs (d + 4) 41 8 [(3, .int (nI q.1)), (0, .ref a), (1, .ref 1), (2, .ref 22)] [] (va_up σ 22 q.2) (fun q σ' => q = none ∧ ∃ p, plF σ σ' a ∧ plJ σ' a n p (m + 1) ∧ aP σ' a t bl) := by
    refine kX_while (fun q : Nat × (Nat → Int32) => [(3, .int (nI q.1)), (0, .ref a), (1, .ref 1), (2, .ref 22)]) (fun q => va_up σ 22 q.2) _ (fun q => t + 1 - q.1) ?_
    rintro ⟨u, LV⟩ ⟨i1, i2⟩ ih
    dsimp only at i1 i2 ih ⊢
    have k47 : u = t + 1 → kX kT L xs (d + 4) 41 47 [(3, .int (nI u)), (0, .ref a), (1, .ref 1), (2, .ref 22)] [] (va_up σ 22 LV) (fun q σ' => q = none ∧ ∃ p, plF σ σ' a ∧ plJ σ' a n p (m + 1) ∧ aP σ' a t bl) := by
      intro hu
      rw [hu] at i2
      iterate 2 (refine kX_one rfl ?_)
      refine kX_putN rfl rfl (hEv) rfl (rfl) rfl ?_
      iterate 2 (refine kX_one rfl ?_)
      refine kX_lv _ rfl rfl rfl (loop2 LV i2 (0, va_up (va_up σ 22 LV) a (upd (va_up σ 22 LV a) 7 (Int32.ofInt 0)), []) ⟨Nat.zero_le _, ⟨fun c x1 x2 x3 x4 => ?_, fun j hj => ?_⟩, ?_, ⟨?_, lst_nil _, List.Pairwise.nil, fun w => ⟨fun z => (by cases z), fun z => ?_⟩, fun i hi => absurd hi (Nat.not_lt_zero i)⟩, fun j hj => absurd hj (Nat.not_lt_zero j), fun j hj => absurd hj (Nat.not_lt_zero j), Nat.zero_le _, fun x hx => (by cases hx)⟩)
      · simp only
        rw [up_ne x2, up_ne x1]
      · simp only
        rw [up_eq, up_ne (by omega)]
        exact pk_un hj
      · simp only
        rw [up_ne (by omega), up_eq]
      · simp only
        rw [up_eq]
        rfl
      · obtain ⟨-, -, l, -, -, q⟩ := z
        omega
    iterate 2 (refine kX_one rfl ?_)
    refine kX_getN rfl rfl (hEv) rfl ?_
    refine kX_top (y := nI t) (by rw [up_ne (by omega)]; exact hte) ?_
    repeat refine kX_one rfl ?_
    refine kX_if (fun q => ?_) (fun q => ?_)
    · have q := qgt q u t
      exact k47 (by omega)
    · have q := qgtF q u t
      iterate 3 (refine kX_one rfl ?_)
      refine kX_top (h.2.1) ?_
      repeat refine kX_one rfl ?_
      refine kX_if (fun q2 => ?_) (fun q2 => ?_)
      · have q2 := qge q2 u n
        omega
      · have q2 := qgeF q2 u n
        have k41 : ∀ LV', lvI σ TL t m bl M LV' (u + 1) → kX kT L xs (d + 4) 41 41 [(3, .int (nI u)), (0, .ref a), (1, .ref 1), (2, .ref 22)] [] (va_up σ 22 LV') (fun q σ' => q = none ∧ ∃ p, plF σ σ' a ∧ plJ σ' a n p (m + 1) ∧ aP σ' a t bl) := by
          intro LV' hL'
          iterate 2 (refine kX_one rfl ?_)
          have := ih (u + 1, LV') ⟨by simp only; omega, hL'⟩ (by simp only; omega)
          dsimp only at this
          rw [← nI_1] at this
          exact kX_lv _ rfl rfl rfl this
        have elu : LV u = M u := i2.2.1 u (by omega) (Or.inl (Nat.le_refl _))
        iterate 2 (refine kX_one rfl ?_)
        refine kX_ialdN rfl rfl (by decide) (u) (by first | rfl | decide) (by omega) ?_
        iterate 1 (refine kX_one rfl ?_)
        repeat refine kX_one rfl ?_
        refine kX_if (fun q3 => ?_) (fun q3 => ?_)
        · have q3 : LV u = -1 := qeq q3
          exact k41 LV (lvI_skip i2 (fun z => absurd (q3.symm.trans (elu.trans z)) (by decide)))
        · have q3 : LV u ≠ -1 := qeqF q3
          have hmu : M u = 0 := (hM.1 u (by omega)).elim (fun z => absurd (elu.trans z) q3) id
          iterate 6 (refine kX_one rfl ?_)
          refine kX_cal (hlev LV u q2) rfl (Or.inr rfl) rfl (jcall_v rfl rfl rfl (hEv) rfl rfl) rfl (fun r1 σ1 q1 => ?_)
          obtain ⟨⟨y, rfl, hy⟩, rfl⟩ := q1
          refine kX_iastN rfl rfl (by decide) (u) (by first | rfl | decide) (by omega) ?_
          refine kX_st (va_up σ 22 (upd LV u y)) ?_ (k41 _ (lvI_step (τ := va_up σ 22 LV) (a := a) hI ht hbl hm (fun i hi => ?_) hbi hbk i2 q hmu hy rfl rfl rfl rfl rfl))
          · funext c; unfold  va_up; repeat' split
            all_goals first | rfl | omega | (subst_vars; rfl) | (funext j; unfold upd; repeat' split; all_goals first | rfl | omega | (subst_vars; rfl))
          · rw [up_ne (by omega)]
            exact hbn i hi
  iterate 2 (refine kX_one rfl ?_)
  exact kX_lv _ rfl rfl rfl (loop1 (0, M) ⟨Nat.zero_le _, hM, fun j hj _ => rfl, fun j hj => absurd hj (Nat.not_lt_zero j)⟩)
