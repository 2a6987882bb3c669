/-! alike: event, its plan -/
theorem opn_c {σ : kS} {n b u : Nat} (h : mTb σ n b) (hA : aT σ n) (hu : u < n) : (σ 8 u = 0 ∧ σ 2 u ≠ 3) ↔ opn σ u := by
  obtain ⟨a1, a2, a3, a4, a5, -⟩ := hA.1 u hu
  rw [a5, h.2.2.2.2.2.2.1 u (Or.inl hu), bI_eq, a1]
  exact Iff.rfl
/-- an open TERM's parts -/
theorem opn_2 {σ : kS} {n b u : Nat} (h : mTb σ n b) (hu : u < n) (ho : opn σ u) : ∃ x, x < u ∧ σ 234 u = nI x ∧ ((∃ y, y < u ∧ σ 235 u = nI y ∧ tvs (σ 233) (σ 234) (σ 235) u = tvs (σ 233) (σ 234) (σ 235) x ++ tvs (σ 233) (σ 234) (σ 235) y) ∨ (σ 235 u = -1 ∧ tvs (σ 233) (σ 234) (σ 235) u = tvs (σ 233) (σ 234) (σ 235) x ++ [])) := by
  rcases (mTb_num h u hu).2 with ⟨k, k3, kk, -, -⟩ | ⟨k, x, y, k3, kk, q1, q3, x1, y1, x2, y2⟩ | ⟨k, x, k3, kk, q1, q3, x1, x2⟩
  · exfalso
    have e : tgd (σ 233) (σ 234) (σ 235) u = decide (σ 233 u ≠ nI 3) := tA_0 kk k3
    rw [ho.1] at e
    exact ho.2 (Classical.byContradiction (fun z => by rw [decide_eq_true z] at e; cases e))
  · exact ⟨x, x1, q1, Or.inl ⟨y, y1, q3, tA_2 (mTb_num h) kk q1 q3 (by omega) (by omega) x1 y1 x2 y2⟩⟩
  · exact ⟨x, x1, q1, Or.inr ⟨q3, tA_1 (mTb_num h) kk q1 q3 (by omega) (by omega) x1 x2⟩⟩
/-- marks: of the parts of t, from K on closed -/
def mkI (σ : kS) (TL : List Nat) (t : Nat) (LV : Nat → Int32) (K : Nat) : Prop := (∀ j, j < 200 → LV j = -1 ∨ LV j = 0) ∧ (∀ j, j < 200 → LV j = 0 → j ∈ TL) ∧ (K ≤ t → LV t = 0) ∧ ∀ u, K ≤ u → u ≤ t → LV u = 0 → opn σ u → LV (fN (σ 234 u)) = 0 ∧ (σ 235 u = -1 ∨ LV (fN (σ 235 u)) = 0)
theorem mkI_up {σ : kS} {TL : List Nat} {t K x : Nat} {LV : Nat → Int32} (h : mkI σ TL t LV K) (hx : x ∈ TL) (hK : x < K ∨ (x = t ∧ ¬ K ≤ t)) : mkI σ TL t (upd LV x 0) K := by
  obtain ⟨h1, h2, h3, h4⟩ := h
  have mono : ∀ j, LV j = 0 → upd LV x 0 j = 0 := fun j hj => by
    by_cases e : j = x
    · subst e
      exact pk_us
    · rw [pk_un e]
      exact hj
  refine ⟨fun j hj => ?_, fun j hj hz => ?_, fun q => mono _ (h3 q), fun u u1 u2 u3 u4 => ?_⟩
  · by_cases e : j = x
    · subst e
      exact Or.inr pk_us
    · rw [pk_un e]
      exact h1 j hj
  · by_cases e : j = x
    · subst e
      exact hx
    · rw [pk_un e] at hz
      exact h2 j hj hz
  · rw [pk_un (by omega)] at u3
    obtain ⟨g1, g2⟩ := h4 u u1 u2 u3 u4
    exact ⟨mono _ g1, g2.imp id (mono _)⟩
set_option maxRecDepth 100000 in
set_option maxHeartbeats 4000000 in
theorem mf_markParts (L : Nat) (xs : Nat → Int32) (d : Nat) (σ : kS) (n b0 r k t : Nat) (h : cT σ n) (hI : mTb σ n b0) (hA : aT σ n) (TL : List Nat) (hTt : t ∈ TL) (hTL : ∀ u ∈ TL, u ≤ t ∧ (∀ x, σ 234 u = nI x → x < 100000 → x ∈ TL) ∧ (∀ y, σ 235 u = nI y → y < 100000 → y ∈ TL)) (hr : r < 4) (hk : k < 6) (ht : t < n) (hte : σ (28 + 35 * r + 5 * k) 1 = nI t) : kXM kT L xs (d + 3) 42 [.ref (28 + 35 * r + 5 * k), .ref 1, .ref 22] σ (fun q σ' => q = none ∧ ∃ LV, σ' = va_up σ 22 LV ∧ mkI σ TL t LV 0) := by
  have hn := h.1
  have hEv := kT_ev hr hk
  generalize ha : 28 + 35 * r + 5 * k = a at *
  unfold kXM
  have loop : ∀ q : Nat × (Nat → Int32), (q.1 ≤ t + 1 ∧ mkI σ TL t q.2 q.1) → kX kT L xs (d + 3) 42 19 [(3, .int (nI q.1 - 1)), (0, .ref a), (1, .ref 1), (2, .ref 22)] [] (va_up σ 22 q.2) (fun q σ' => q = none ∧ ∃ LV, σ' = va_up σ 22 LV ∧ mkI σ TL t LV 0) := by
    refine kX_while (fun q : Nat × (Nat → Int32) => [(3, .int (nI q.1 - 1)), (0, .ref a), (1, .ref 1), (2, .ref 22)]) (fun q => va_up σ 22 q.2) _ (fun q => q.1) ?_
    rintro ⟨K, LV⟩ ⟨i1, i2⟩ ih
    dsimp only at i1 i2 ih ⊢
    rcases Nat.eq_zero_or_pos K with rfl | hK
    · iterate 2 (refine kX_one rfl ?_)
      refine kX_ret (i := .return_) (len := 1) rfl (Or.inr rfl) rfl (⟨rfl, LV, rfl, i2⟩)
    · obtain ⟨u, rfl⟩ : ∃ u, K = u + 1 := ⟨K - 1, by omega⟩
      rw [nI_pred]
      have k84 : ∀ LV', mkI σ TL t LV' u → kX kT L xs (d + 3) 42 84 [(3, .int (nI u)), (0, .ref a), (1, .ref 1), (2, .ref 22)] [] (va_up σ 22 LV') (fun q σ' => q = none ∧ ∃ LV, σ' = va_up σ 22 LV ∧ mkI σ TL t LV 0) := by
        intro LV' hm
        iterate 2 (refine kX_one rfl ?_)
        have := ih (u, LV') ⟨by simp only; omega, hm⟩ (by simp only; omega)
        dsimp only at this
        rw [← nI_dec] at this
        exact kX_lv _ rfl rfl rfl this
      have k35 : ∀ LV', mkI σ TL t LV' (u + 1) → (u = t → LV' t = 0) → kX kT L xs (d + 3) 42 35 [(3, .int (nI u)), (0, .ref a), (1, .ref 1), (2, .ref 22)] [] (va_up σ 22 LV') (fun q σ' => q = none ∧ ∃ LV, σ' = va_up σ 22 LV ∧ mkI σ TL t LV 0) := by
        intro LV' hm ht0
        have hun : u < n := by omega
        -- u itself has nothing to hand on
        have hk : (LV' u = 0 → opn σ u → LV' (fN (σ 234 u)) = 0 ∧ (σ 235 u = -1 ∨ LV' (fN (σ 235 u)) = 0)) → mkI σ TL t LV' u := fun hq => ⟨hm.1, hm.2.1, fun z => by
          by_cases e : u = t
          · exact ht0 e
          · exact hm.2.2.1 (by omega), fun w w1 w2 w3 w4 => by
          by_cases e : w = u
          · subst e
            exact hq w3 w4
          · exact hm.2.2.2 w (by omega) w2 w3 w4⟩
        iterate 2 (refine kX_one rfl ?_)
        refine kX_ialdN rfl rfl (by decide) (u) (by first | rfl | decide) (by omega) ?_
        iterate 1 (refine kX_one rfl ?_)
        repeat refine kX_one rfl ?_
        refine kX_if (fun q => ?_) (fun q => ?_)
        · have q : LV' u = -1 := qeq q
          exact k84 LV' (hk (fun z => absurd (q.symm.trans z) (by decide)))
        · have q0 : LV' u = 0 := (hm.1 u (by omega)).elim (fun z => absurd z (qeqF q)) id
          have huT := hm.2.1 u (by omega) q0
          iterate 2 (refine kX_one rfl ?_)
          refine kX_cal (mc_isOpen L xs d (va_up σ 22 LV') n (nI u) hn h.2.1) rfl (Or.inr rfl) rfl rfl rfl (fun r1 σ1 q1 => ?_)
          obtain ⟨rfl, rfl⟩ := q1
          repeat refine kX_one rfl ?_
          refine kX_if (fun q2 => ?_) (fun q2 => ?_)
          · obtain ⟨u', u1, u2, u3, u4⟩ := isB_ne.mp (qne q2)
            obtain rfl : u = u' := nI_inj u2
            have hop := (opn_c hI hA u1).mp ⟨u3, u4⟩
            obtain ⟨x, x1, x2s, x3⟩ := opn_2 hI u1 hop
            have x2 : σ 3 u = nI x := (hA.1 u u1).2.1.trans x2s
            have hm1 : mkI σ TL t (upd LV' x 0) (u + 1) := mkI_up hm ((hTL u huT).2.1 x x2s (by omega)) (by omega)
            have e1 : fN (σ 234 u) = x := by rw [x2s, fN_nI (by omega)]
            have fin : ∀ LV2, mkI σ TL t LV2 (u + 1) → LV2 u = 0 → LV2 x = 0 → (σ 235 u = -1 ∨ LV2 (fN (σ 235 u)) = 0) → mkI σ TL t LV2 u := fun LV2 g1 g2 g3 g4 => ⟨g1.1, g1.2.1, fun z => by
              by_cases e : u = t
              · rw [← e]
                exact g2
              · exact g1.2.2.1 (by omega), fun w w1 w2 w3 w4 => by
              by_cases e : w = u
              · subst e
                rw [e1]
                exact ⟨g3, g4⟩
              · exact g1.2.2.2 w (by omega) w2 w3 w4⟩
            iterate 4 (refine kX_one rfl ?_)
            refine kX_ialdV rfl rfl (by decide) (u) (by first | rfl | decide) (by omega) (x2) ?_
            iterate 1 (refine kX_one rfl ?_)
            refine kX_iastN rfl rfl (by decide) (x) (by first | rfl | decide) (by omega) ?_
            refine kX_st (va_up σ 22 (upd LV' x 0)) ?_ ?_
            · funext c; unfold  va_up; repeat' split
              all_goals first | rfl | omega | (subst_vars; rfl) | (funext j; unfold upd; repeat' split; all_goals first | rfl | omega | (subst_vars; rfl))
            iterate 4 (refine kX_one rfl ?_)
            refine kX_ialdN rfl rfl (by decide) (u) (by first | rfl | decide) (by omega) ?_
            refine kX_cal (mc_has L xs (d + 1) (va_up σ 22 (upd LV' x 0)) n _ hn h.2.1) rfl (Or.inr rfl) rfl rfl rfl (fun r1 σ1 q1 => ?_)
            obtain ⟨rfl, rfl⟩ := q1
            repeat refine kX_one rfl ?_
            refine kX_if (fun q3 => ?_) (fun q3 => ?_)
            · have q3 : ¬ isN (σ 4 u) n := fun e => isB_ne.mpr e (qeq q3)
              rw [(hA.1 u u1).2.2.1] at q3
              refine k84 _ (fin _ hm1 (by rw [pk_un (by omega)]; exact q0) pk_us (Or.inl ?_))
              rcases x3 with ⟨y, y1, y2, -⟩ | ⟨y2, -⟩
              · exact absurd ⟨y, by omega, y2⟩ q3
              · exact y2
            · obtain ⟨y, y1, y2⟩ := isB_ne.mp (qeqF q3)
              have y2 : σ 4 u = nI y := y2
              have y2s : σ 235 u = nI y := (hA.1 u u1).2.2.1.symm.trans y2
              have yu : y < u := by
                rcases x3 with ⟨y', y1', y2', -⟩ | ⟨y2', -⟩
                · have := nI_inj (y2s.symm.trans y2')
                  omega
                · exact absurd (y2s.symm.trans y2') (nI_m1 (by omega))
              have hm2 : mkI σ TL t (upd (upd LV' x 0) y 0) (u + 1) := mkI_up hm1 ((hTL u huT).2.2 y y2s (by omega)) (by omega)
              iterate 4 (refine kX_one rfl ?_)
              refine kX_ialdV rfl rfl (by decide) (u) (by first | rfl | decide) (by omega) (y2) ?_
              iterate 1 (refine kX_one rfl ?_)
              refine kX_iastN rfl rfl (by decide) (y) (by first | rfl | decide) (by omega) ?_
              refine kX_st (va_up σ 22 (upd (upd LV' x 0) y 0)) ?_ (k84 _ (fin _ hm2 (by rw [pk_un (by omega), pk_un (by omega)]; exact q0) ?_ (Or.inr (by rw [y2s, fN_nI (by omega)]; exact pk_us))))
              · funext c; unfold  va_up; repeat' split
                all_goals first | rfl | omega | (subst_vars; rfl) | (funext j; unfold upd; repeat' split; all_goals first | rfl | omega | (subst_vars; rfl))
              · by_cases e : x = y
                · rw [e]
                  exact pk_us
                · rw [pk_un e]
                  exact pk_us
          · have q2 : ¬ opn σ u := fun e => isB_ne.mpr ⟨u, hun, rfl, (opn_c hI hA hun).mpr e⟩ (qneF q2)
            iterate 1 (refine kX_one rfl ?_)
            exact k84 LV' (hk (fun _ z => absurd z q2))
      iterate 1 (refine kX_one rfl ?_)
      repeat refine kX_one rfl ?_
      refine kX_ifF (decide_eq_false (nI_pos (by omega))) ?_
      iterate 2 (refine kX_one rfl ?_)
      refine kX_getN rfl rfl (hEv) rfl ?_
      refine kX_top (y := nI t) (by rw [up_ne (by omega)]; exact hte) ?_
      repeat refine kX_one rfl ?_
      refine kX_if (fun q => ?_) (fun q => ?_)
      · have q : u ≠ t := fun e => qne q (by rw [e])
        exact k35 LV i2 (fun e => absurd e q)
      · obtain rfl : u = t := nI_inj (qneF q)
        iterate 3 (refine kX_one rfl ?_)
        refine kX_iastN rfl rfl (by decide) (u) (by first | rfl | decide) (by omega) ?_
        refine kX_st (va_up σ 22 (upd LV u 0)) ?_ (k35 _ (mkI_up i2 hTt (by omega)) (fun _ => pk_us))
        funext c; unfold  va_up; repeat' split
        all_goals first | rfl | omega | (subst_vars; rfl) | (funext j; unfold upd; repeat' split; all_goals first | rfl | omega | (subst_vars; rfl))
  iterate 2 (refine kX_one rfl ?_)
  refine kX_cal (kX_fill (T := kT) L xs (d + 1) (-1) σ (a := 22) (n := 200) (g0 := fun _ => 0) rfl (by decide)) rfl (Or.inr rfl) rfl rfl rfl (fun r1 σ1 q1 => ?_)
  obtain ⟨rfl, rfl⟩ := q1
  iterate 1 (refine kX_one rfl ?_)
  refine kX_getN rfl rfl (hEv) rfl ?_
  refine kX_top (y := nI t) (by rw [up_ne (by omega)]; exact hte) ?_
  iterate 2 (refine kX_one rfl ?_)
  refine kX_top (h.2.1) ?_
  iterate 3 (refine kX_one rfl ?_)
  refine kX_top (y := nI t) (min_ok ht hn) ?_
  iterate 1 (refine kX_one rfl ?_)
  have := loop (t + 1, fun j => if j < 200 then -1 else σ 22 j) ⟨Nat.le_refl _, fun j hj => Or.inl (if_pos hj), fun j hj hz => absurd ((if_pos hj).symm.trans hz) (by decide), fun z => by simp only at z; omega, fun u u1 u2 => by simp only at u1; omega⟩
  dsimp only at this
  rw [nI_pred] at this
  exact kX_lv _ rfl rfl rfl this
/-- the level of a part, as it is found -/
def lvR (σ : kS) (a m u : Nat) (x : Int32) : Prop := (opn σ u ∧ x = jmmv 1 (σ 22 (fN (σ 234 u))) (if σ 235 u = -1 then 0 else σ 22 (fN (σ 235 u)))) ∨ (¬ opn σ u ∧ ((x = 0 ∧ ∀ i, i < m → σ 233 u = nI 3 → σ (a + 1) i ≠ σ 241 u) ∨ ∃ j, j < m ∧ x = nI (j + 1) ∧ σ 233 u = nI 3 ∧ σ (a + 1) j = σ 241 u ∧ ∀ i, i < j → σ (a + 1) i ≠ σ 241 u))
set_option maxRecDepth 100000 in
set_option maxHeartbeats 4000000 in
theorem mf_levelOf (L : Nat) (xs : Nat → Int32) (d : Nat) (σ : kS) (n b0 r k u m : Nat) (h : cT σ n) (hI : mTb σ n b0) (hA : aT σ n) (hr : r < 4) (hk : k < 6) (hu : u < n) (hm : m ≤ 6) (hbc : σ (28 + 35 * r + 5 * k) 4 = nI m) : kXM kT L xs (d + 3) 43 [.ref (28 + 35 * r + 5 * k), .ref 1, .ref 22, .int (nI u)] σ (fun q σ' => (∃ x, q = some (.int x) ∧ lvR σ (28 + 35 * r + 5 * k) m u x) ∧ σ = σ') := by
  have hn := h.1
  have hEv := kT_ev hr hk
  have hE1 := kT_e1 (i := 1) hr hk (Or.inl rfl)
  generalize ha : 28 + 35 * r + 5 * k = a at *
  unfold kXM
  have loop : ∀ j : Nat, (¬ opn σ u ∧ j ≤ m ∧ ∀ i, i < j → σ 233 u = nI 3 → σ (a + 1) i ≠ σ 241 u) → kX kT L xs (d + 3) 43 48 [(4, .int (nI j)), (0, .ref a), (1, .ref 1), (2, .ref 22), (3, .int (nI u))] [] σ (fun q σ' => (∃ x, q = some (.int x) ∧ lvR σ a m u x) ∧ σ = σ') := by
    refine kX_while (fun j : Nat => [(4, .int (nI j)), (0, .ref a), (1, .ref 1), (2, .ref 22), (3, .int (nI u))]) (fun _ => σ) _ (fun j => m - j) ?_
    rintro j ⟨hno, hj, hnone⟩ ih
    iterate 2 (refine kX_one rfl ?_)
    refine kX_getN rfl rfl (hEv) rfl ?_
    refine kX_top (hbc) ?_
    repeat refine kX_one rfl ?_
    refine kX_if (fun q => ?_) (fun q => ?_)
    · have q := qge q j m
      repeat refine kX_one rfl ?_
      refine kX_ret (i := .ireturn) (len := 1) rfl (Or.inr rfl) rfl (⟨⟨_, rfl, Or.inr ⟨hno, Or.inl ⟨rfl, fun i hi => hnone i (by omega)⟩⟩⟩, rfl⟩)
    · have q := qgeF q j m
      have k88 : (σ 233 u = nI 3 → σ (a + 1) j ≠ σ 241 u) → kX kT L xs (d + 3) 43 88 [(4, .int (nI j)), (0, .ref a), (1, .ref 1), (2, .ref 22), (3, .int (nI u))] [] σ (fun q σ' => (∃ x, q = some (.int x) ∧ lvR σ a m u x) ∧ σ = σ') := by
        intro hj2
        iterate 2 (refine kX_one rfl ?_)
        have := ih (j + 1) ⟨hno, q, fun i hi => by
          by_cases e : i = j
          · subst e
            exact hj2
          · exact hnone i (by omega)⟩ (by omega)
        rw [← nI_1] at this
        exact kX_lv _ rfl rfl rfl this
      iterate 3 (refine kX_one rfl ?_)
      refine kX_ialdN rfl rfl (by decide) (u) (by first | rfl | decide) (by omega) ?_
      iterate 1 (refine kX_one rfl ?_)
      have hau := hA.1 u hu
      repeat refine kX_one rfl ?_
      refine kX_if (fun q2 => ?_) (fun q2 => ?_)
      · exact k88 (fun e => absurd (hau.1.trans e) (qne q2))
      · have q2 : σ 233 u = nI 3 := hau.1.symm.trans (qneF q2)
        have hpl := (hau.2.2.2.2.2.2 q2).2.2
        iterate 1 (refine kX_one rfl ?_)
        refine kX_getN rfl rfl (hEv) rfl ?_
        iterate 1 (refine kX_one rfl ?_)
        refine kX_ialdN rfl (hE1) (by decide) (j) (by first | rfl | decide) (by omega) ?_
        iterate 3 (refine kX_one rfl ?_)
        refine kX_ialdN rfl rfl (by decide) (u) (by first | rfl | decide) (by omega) ?_
        repeat refine kX_one rfl ?_
        refine kX_if (fun q3 => ?_) (fun q3 => ?_)
        · exact k88 (fun _ e => qne q3 (e.trans hpl.symm))
        · have q3 : σ (a + 1) j = σ 241 u := (qneF q3).trans hpl
          repeat refine kX_one rfl ?_
          refine kX_ret (i := .ireturn) (len := 1) rfl (Or.inr rfl) rfl (⟨⟨_, rfl, Or.inr ⟨hno, Or.inr ⟨j, q, nI_1 j, q2, q3, fun i hi => hnone i hi q2⟩⟩⟩, rfl⟩)
  iterate 2 (refine kX_one rfl ?_)
  refine kX_cal (mc_isOpen L xs d σ n (nI u) hn h.2.1) rfl (Or.inr rfl) rfl rfl rfl (fun r1 σ1 q1 => ?_)
  obtain ⟨rfl, rfl⟩ := q1
  repeat refine kX_one rfl ?_
  refine kX_if (fun q => ?_) (fun q => ?_)
  · have q : ¬ opn σ u := fun e => isB_ne.mpr ⟨u, hu, rfl, (opn_c hI hA hu).mpr e⟩ (qeq q)
    iterate 2 (refine kX_one rfl ?_)
    exact kX_lv _ rfl rfl rfl (loop 0 ⟨q, Nat.zero_le _, fun i hi => absurd hi (Nat.not_lt_zero i)⟩)
  · obtain ⟨u', u1, u2, u3, u4⟩ := isB_ne.mp (qeqF q)
    obtain rfl : u = u' := nI_inj u2
    have hop := (opn_c hI hA u1).mp ⟨u3, u4⟩
    obtain ⟨x, x1, x2s, x3⟩ := opn_2 hI u1 hop
    have x2 : σ 3 u = nI x := (hA.1 u u1).2.1.trans x2s
    have e1 : fN (σ 234 u) = x := by rw [x2s, fN_nI (by omega)]
    iterate 3 (refine kX_one rfl ?_)
    refine kX_ialdN rfl rfl (by decide) (u) (by first | rfl | decide) (by omega) ?_
    iterate 5 (refine kX_one rfl ?_)
    refine kX_ialdV rfl rfl (by decide) (u) (by first | rfl | decide) (by omega) (x2) ?_
    refine kX_ialdN rfl rfl (by decide) (x) (by first | rfl | decide) (by omega) ?_
    iterate 2 (refine kX_one rfl ?_)
    refine kX_cal (mc_has L xs (d + 1) σ n _ hn h.2.1) rfl (Or.inr rfl) rfl rfl rfl (fun r1 σ1 q1 => ?_)
    obtain ⟨rfl, rfl⟩ := q1
    repeat refine kX_one rfl ?_
    refine kX_if (fun q2 => ?_) (fun q2 => ?_)
    · have q2 : ¬ isN (σ 4 u) n := fun e => isB_ne.mpr e (qeq q2)
      rw [(hA.1 u u1).2.2.1] at q2
      have hs : σ 235 u = -1 := by
        rcases x3 with ⟨y, y1, y2, -⟩ | ⟨y2, -⟩
        · exact absurd ⟨y, by omega, y2⟩ q2
        · exact y2
      repeat refine kX_one rfl ?_
      refine kX_ret (i := .ireturn) (len := 1) rfl (Or.inr rfl) rfl (⟨⟨_, rfl, Or.inl ⟨hop, by rw [e1, if_pos hs]; rfl⟩⟩, rfl⟩)
    · obtain ⟨y, y1, y2⟩ := isB_ne.mp (qeqF q2)
      have y2 : σ 4 u = nI y := y2
      have y2s : σ 235 u = nI y := (hA.1 u u1).2.2.1.symm.trans y2
      iterate 2 (refine kX_one rfl ?_)
      refine kX_ialdN rfl rfl (by decide) (y) (y2) (by omega) ?_
      repeat refine kX_one rfl ?_
      refine kX_ret (i := .ireturn) (len := 1) rfl (Or.inr rfl) rfl (⟨⟨_, rfl, Or.inl ⟨hop, by rw [e1, if_neg (show ¬ σ 235 u = -1 by rw [y2s]; exact nI_m1 (by omega)), show fN (σ 235 u) = y by rw [y2s, fN_nI (by omega)]]⟩⟩, rfl⟩)
