/-! the class: plan, newEvent, event -/
def plF (σ τ : kS) (a : Nat) : Prop := (∀ c, c ≠ 22 → c ≠ a → c ≠ a + 3 → c ≠ a + 4 → τ c = σ c) ∧ ∀ j, j ≠ 7 → τ a j = σ a j
def plJ (τ : kS) (a n q m : Nat) : Prop := q ≤ 24 ∧ τ a 7 = nI q ∧ tL n (τ (a + 3)) q ∧ ∀ j, j < m → ∃ f, f ≤ 24 ∧ τ (a + 4) j = nI f
set_option maxRecDepth 100000 in
set_option maxHeartbeats 4000000 in
theorem mc_plan (L : Nat) (xs : Nat → Int32) (d : Nat) (σ : kS) (n r k t m : Nat) (h : cT σ n) (hr : r < 4) (hk : k < 6) (ht : t < n) (hm : m ≤ 6) (hte : σ (28 + 35 * r + 5 * k) 1 = nI t) (hbc : σ (28 + 35 * r + 5 * k) 4 = nI m) : kXM kT L xs (d + 4) 41 [.ref (28 + 35 * r + 5 * k), .ref 1, .ref 22] σ (fun q σ' => q = none ∧ ∃ p, plF σ σ' (28 + 35 * r + 5 * k) ∧ plJ σ' (28 + 35 * r + 5 * k) n p (m + 1)) := by
  have hn := h.1
  unfold kXM
  iterate 3 (refine kX_one rfl ?_)
  refine kX_cal (mc_markParts L xs d σ n r k t h hr hk ht hte) rfl (Or.inr rfl) rfl (jcall_v rfl rfl rfl (kT_ev hr hk) rfl rfl) rfl (fun r1 σ1 q1 => ?_)
  obtain ⟨rfl, LV, rfl⟩ := q1
  have hlev : ∀ LV u, u < n → kXM kT L xs (d + 3) 43 [.ref (28 + 35 * r + 5 * k), .ref 1, .ref 22, .int (nI u)] (va_up σ 22 LV) (fun q σ' => (∃ x, q = some (.int x)) ∧ va_up σ 22 LV = σ') := fun LV u hu => mc_levelOf L xs d (va_up σ 22 LV) n r k u m (cT_eq rfl rfl (fun _ _ => ⟨rfl, rfl, rfl, rfl, rfl, rfl⟩) h) hr hk hu hm (by rw [up_ne (by omega)]; exact hbc)
  have hEv := kT_ev hr hk
  have hE3 := (kT_e3 hr hk).1
  have hE4 := (kT_e3 hr hk).2
  generalize ha : 28 + 35 * r + 5 * k = a at *
  have haa : 28 ≤ a ∧ a + 5 ≤ 163 := by omega
  have loop3 : ∀ at' : Nat, at' ≤ m → (∀ τ q, plF σ τ a → plJ τ a n q (at' + 1) → kX kT L xs (d + 4) 41 137 [(3, .int (nI at')), (0, .ref a), (1, .ref 1), (2, .ref 22)] [] τ (fun q σ' => q = none ∧ ∃ p, plF σ σ' a ∧ plJ σ' a n p (m + 1))) → ∀ q : Nat × kS × Nat, (q.1 ≤ n ∧ plF σ q.2.1 a ∧ plJ q.2.1 a n q.2.2 (at' + 1)) → kX kT L xs (d + 4) 41 75 [(4, .int (nI q.1)), (3, .int (nI at')), (0, .ref a), (1, .ref 1), (2, .ref 22)] [] q.2.1 (fun q σ' => q = none ∧ ∃ p, plF σ σ' a ∧ plJ σ' a n p (m + 1)) := by
    intro at' hat he
    refine kX_while (fun q : Nat × kS × Nat => [(4, .int (nI q.1)), (3, .int (nI at')), (0, .ref a), (1, .ref 1), (2, .ref 22)]) (fun q => q.2.1) _ (fun q => n - q.1) ?_
    rintro ⟨u, τ, p⟩ ⟨i1, i2, i3⟩ ih
    dsimp only at i1 i2 i3 ih ⊢
    obtain ⟨p1, p2, p3, p4⟩ := i3
    have k137 : kX kT L xs (d + 4) 41 137 [(4, .int (nI u)), (3, .int (nI at')), (0, .ref a), (1, .ref 1), (2, .ref 22)] [] τ (fun q σ' => q = none ∧ ∃ p, plF σ σ' a ∧ plJ σ' a n p (m + 1)) := kX_lv _ rfl rfl rfl (he τ p i2 ⟨p1, p2, p3, p4⟩)
    have etm : τ a 1 = nI t := (i2.2 _ (by decide)).trans hte
    have ecn : τ 1 11 = nI n := by
      rw [i2.1 1 (by decide) (by omega) (by omega) (by omega)]
      exact h.2.1
    iterate 2 (refine kX_one rfl ?_)
    refine kX_getN rfl rfl (hEv) rfl ?_
    refine kX_top (etm) ?_
    repeat refine kX_one rfl ?_
    refine kX_if (fun q => ?_) (fun q => ?_)
    · exact k137
    · have q := qgtF q u t
      iterate 3 (refine kX_one rfl ?_)
      refine kX_top (ecn) ?_
      repeat refine kX_one rfl ?_
      refine kX_if (fun q2 => ?_) (fun q2 => ?_)
      · exact k137
      · have q2 := qgeF q2 u n
        iterate 1 (refine kX_one rfl ?_)
        refine kX_getN rfl rfl (hEv) rfl ?_
        refine kX_top (p2) ?_
        iterate 1 (refine kX_one rfl ?_)
        repeat refine kX_one rfl ?_
        refine kX_if (fun q3 => ?_) (fun q3 => ?_)
        · exact k137
        · have q3 := qgeF q3 p 24
          have k131 : ∀ τ' p', plF σ τ' a → plJ τ' a n p' (at' + 1) → kX kT L xs (d + 4) 41 131 [(4, .int (nI u)), (3, .int (nI at')), (0, .ref a), (1, .ref 1), (2, .ref 22)] [] τ' (fun q σ' => q = none ∧ ∃ p, plF σ σ' a ∧ plJ σ' a n p (m + 1)) := by
            intro τ' p' x1 x2
            iterate 2 (refine kX_one rfl ?_)
            have := ih (u + 1, τ', p') ⟨q2, x1, x2⟩ (by simp only; omega)
            dsimp only at this
            rw [← nI_1] at this
            exact kX_lv _ rfl rfl rfl this
          iterate 2 (refine kX_one rfl ?_)
          refine kX_ialdN rfl rfl (by decide) (u) (by first | rfl | decide) (by omega) ?_
          iterate 1 (refine kX_one rfl ?_)
          repeat refine kX_one rfl ?_
          refine kX_if (fun q4 => ?_) (fun q4 => ?_)
          · exact k131 τ p i2 ⟨p1, p2, p3, p4⟩
          · iterate 1 (refine kX_one rfl ?_)
            refine kX_getN rfl rfl (hEv) rfl ?_
            iterate 1 (refine kX_one rfl ?_)
            refine kX_getN rfl rfl (hEv) rfl ?_
            refine kX_top (p2) ?_
            iterate 1 (refine kX_one rfl ?_)
            refine kX_iastN rfl (hE3) (by decide) (p) (by first | rfl | decide) (q3) ?_
            iterate 2 (refine kX_one rfl ?_)
            refine kX_getN rfl rfl (hEv) rfl ?_
            refine kX_top (y := nI p) (by rw [up_ne (by omega)]; exact p2) ?_
            iterate 2 (refine kX_one rfl ?_)
            refine kX_putN rfl rfl (hEv) rfl (rfl) rfl ?_
            refine k131 _ (p + 1) ⟨fun c x1 x2 x3 x4 => ?_, fun j hj => ?_⟩ ⟨by omega, ?_, ?_, ?_⟩
            · rw [up_ne x2, up_ne x3]
              exact i2.1 c x1 x2 x3 x4
            · rw [up_eq, up_ne (by omega)]
              exact (pk_un hj).trans (i2.2 j hj)
            · rw [up_eq, ← nI_1]
              exact pk_us
            · rw [up_ne (by omega), up_eq]
              exact tL_up p3 q2
            · rw [up_ne (by omega), up_ne (by omega)]
              exact p4
  have loop2 : ∀ q : Nat × kS × Nat, (q.1 ≤ m + 1 ∧ plF σ q.2.1 a ∧ plJ q.2.1 a n q.2.2 q.1) → kX kT L xs (d + 4) 41 54 [(3, .int (nI q.1)), (0, .ref a), (1, .ref 1), (2, .ref 22)] [] q.2.1 (fun q σ' => q = none ∧ ∃ p, plF σ σ' a ∧ plJ σ' a n p (m + 1)) := by
    refine kX_while (fun q : Nat × kS × Nat => [(3, .int (nI q.1)), (0, .ref a), (1, .ref 1), (2, .ref 22)]) (fun q => q.2.1) _ (fun q => m + 1 - q.1) ?_
    rintro ⟨at', τ, p⟩ ⟨i1, i2, p1, p2, p3, p4⟩ ih
    dsimp only at i1 i2 p1 p2 p3 p4 ih ⊢
    have ebc : τ a 4 = nI m := (i2.2 _ (by decide)).trans hbc
    iterate 2 (refine kX_one rfl ?_)
    refine kX_getN rfl rfl (hEv) rfl ?_
    refine kX_top (ebc) ?_
    repeat refine kX_one rfl ?_
    refine kX_if (fun q => ?_) (fun q => ?_)
    · have q := qgt q at' m
      obtain rfl : at' = m + 1 := by omega
      refine kX_ret (i := .return_) (len := 1) rfl (Or.inr rfl) rfl (⟨rfl, p, i2, p1, p2, p3, p4⟩)
    · have q := qgtF q at' m
      iterate 1 (refine kX_one rfl ?_)
      refine kX_getN rfl rfl (hEv) rfl ?_
      iterate 2 (refine kX_one rfl ?_)
      refine kX_getN rfl rfl (hEv) rfl ?_
      refine kX_top (p2) ?_
      refine kX_iastN rfl (hE4) (by decide) (at') (by first | rfl | decide) (by omega) ?_
      iterate 2 (refine kX_one rfl ?_)
      refine kX_lv _ rfl rfl rfl (loop3 at' q (fun τ' p' x1 x2 => ?_) (0, va_up τ (a + 4) (upd (τ (a + 4)) at' (nI p)), p) ⟨Nat.zero_le _, ⟨fun c x1 x2 x3 x4 => ?_, fun j hj => ?_⟩, p1, ?_, ?_, fun j hj => ?_⟩)
      · iterate 2 (refine kX_one rfl ?_)
        have := ih (at' + 1, τ', p') ⟨by simp only; omega, x1, x2⟩ (by simp only; omega)
        dsimp only at this
        rw [← nI_1] at this
        exact kX_lv _ rfl rfl rfl this
      · simp only
        rw [up_ne x4]
        exact i2.1 c x1 x2 x3 x4
      · simp only
        rw [up_ne (by omega)]
        exact i2.2 j hj
      · simp only
        rw [up_ne (by omega)]
        exact p2
      · simp only
        rw [up_ne (by omega)]
        exact p3
      · simp only
        rw [up_eq]
        by_cases e : j = at'
        · subst e
          exact ⟨p, p1, pk_us⟩
        · rw [pk_un e]
          exact p4 j (by omega)
  have loop1 : ∀ q : Nat × (Nat → Int32), q.1 ≤ n → kX kT L xs (d + 4) 41 8 [(3, .int (nI q.1)), (0, .ref a), (1, .ref 1), (2, .ref 22)] [] (va_up σ 22 q.2) (fun q σ' => q = none ∧ ∃ p, plF σ σ' a ∧ plJ σ' a n p (m + 1)) := by
    refine kX_while (fun q : Nat × (Nat → Int32) => [(3, .int (nI q.1)), (0, .ref a), (1, .ref 1), (2, .ref 22)]) (fun q => va_up σ 22 q.2) (fun q => q.1 ≤ n) (fun q => n - q.1) ?_
    rintro ⟨u, LV⟩ i1 ih
    dsimp only at i1 ih ⊢
    have k47 : kX kT L xs (d + 4) 41 47 [(3, .int (nI u)), (0, .ref a), (1, .ref 1), (2, .ref 22)] [] (va_up σ 22 LV) (fun q σ' => q = none ∧ ∃ p, plF σ σ' a ∧ plJ σ' a n p (m + 1)) := by
      iterate 2 (refine kX_one rfl ?_)
      refine kX_putN rfl rfl (hEv) rfl (rfl) rfl ?_
      iterate 2 (refine kX_one rfl ?_)
      refine kX_lv _ rfl rfl rfl (loop2 (0, va_up (va_up σ 22 LV) a (upd (va_up σ 22 LV a) 7 (Int32.ofInt 0)), 0) ⟨Nat.zero_le _, ⟨fun c x1 x2 x3 x4 => ?_, fun j hj => ?_⟩, Nat.zero_le _, ?_, fun j hj => absurd hj (Nat.not_lt_zero j), fun j hj => absurd hj (Nat.not_lt_zero j)⟩)
      · simp only
        rw [up_ne x2, up_ne x1]
      · simp only
        rw [up_eq, up_ne (by omega)]
        exact pk_un hj
      · simp only
        rw [up_eq]
        rfl
    iterate 2 (refine kX_one rfl ?_)
    refine kX_getN rfl rfl (hEv) rfl ?_
    refine kX_top (y := nI t) (by rw [up_ne (by omega)]; exact hte) ?_
    repeat refine kX_one rfl ?_
    refine kX_if (fun q => ?_) (fun q => ?_)
    · exact k47
    · iterate 3 (refine kX_one rfl ?_)
      refine kX_top (h.2.1) ?_
      repeat refine kX_one rfl ?_
      refine kX_if (fun q2 => ?_) (fun q2 => ?_)
      · exact k47
      · have q2 := qgeF q2 u n
        have k41 : ∀ LV', kX kT L xs (d + 4) 41 41 [(3, .int (nI u)), (0, .ref a), (1, .ref 1), (2, .ref 22)] [] (va_up σ 22 LV') (fun q σ' => q = none ∧ ∃ p, plF σ σ' a ∧ plJ σ' a n p (m + 1)) := by
          intro LV'
          iterate 2 (refine kX_one rfl ?_)
          have := ih (u + 1, LV') q2 (by simp only; omega)
          dsimp only at this
          rw [← nI_1] at this
          exact kX_lv _ rfl rfl rfl this
        iterate 2 (refine kX_one rfl ?_)
        refine kX_ialdN rfl rfl (by decide) (u) (by first | rfl | decide) (by omega) ?_
        iterate 1 (refine kX_one rfl ?_)
        repeat refine kX_one rfl ?_
        refine kX_if (fun q3 => ?_) (fun q3 => ?_)
        · exact k41 LV
        · iterate 6 (refine kX_one rfl ?_)
          refine kX_cal (hlev LV u q2) rfl (Or.inr rfl) rfl (jcall_v rfl rfl rfl (hEv) rfl rfl) rfl (fun r1 σ1 q1 => ?_)
          obtain ⟨⟨y, rfl⟩, rfl⟩ := q1
          refine kX_iastN rfl rfl (by decide) (u) (by first | rfl | decide) (by omega) ?_
          refine kX_st (va_up σ 22 (upd LV u y)) ?_ (k41 _)
          funext c; unfold  va_up; repeat' split
          all_goals first | rfl | omega | (subst_vars; rfl) | (funext j; unfold upd; repeat' split; all_goals first | rfl | omega | (subst_vars; rfl))
  iterate 2 (refine kX_one rfl ?_)
  exact kX_lv _ rfl rfl rfl (loop1 (0, LV) (Nat.zero_le _))
set_option maxRecDepth 100000 in
set_option maxHeartbeats 4000000 in
theorem mc_newEvent (L : Nat) (xs : Nat → Int32) (d : Nat) (σ : kS) (n R S C r e t : Nat) (b : Int32) (h : cJ σ n R S C) (hr : r < R) (he : e < 6) (hec : σ (23 + 35 * r) 5 = nI e) (ht : t < n) (hb : b = 0 ∨ b = 1) : kXM kT L xs (d + 5) 9 [.ref 13, .ref (23 + 35 * r), .int b, .int (nI t)] σ (fun q σ' => (∃ x, q = some (.int x)) ∧ cAfter σ σ' R) := by
  have hT := h.1
  have hR4 := h.2.1.1
  have hr4 : r < 4 := by omega
  obtain ⟨v, e', v1, e1, v2, e2, so1, ev1⟩ := h.2.1.2.2 r hr
  obtain rfl : e = e' := nI_inj (hec.symm.trans e2)
  have hEv := kT_ev hr4 he
  unfold kXM
  iterate 1 (refine kX_one rfl ?_)
  refine kX_getN rfl rfl (kT_ro hr4) rfl ?_
  refine kX_top (hec) ?_
  iterate 1 (refine kX_one rfl ?_)
  repeat refine kX_one rfl ?_
  refine kX_if (fun q => ?_) (fun q => ?_)
  · iterate 1 (refine kX_one rfl ?_)
    refine kX_getN rfl rfl (kT_ro hr4) rfl ?_
    iterate 1 (refine kX_one rfl ?_)
    refine kX_getN rfl rfl (kT_ro hr4) rfl ?_
    refine kX_top (hec) ?_
    refine kX_aaldN rfl (kT_re hr4) (by decide) (by decide) (by decide) (e) (by first | rfl | decide) (he) (ev_at he) ?_
    iterate 3 (refine kX_one rfl ?_)
    refine kX_putN rfl rfl hEv rfl (by rcases hb with rfl | rfl <;> rfl) rfl ?_
    iterate 2 (refine kX_one rfl ?_)
    refine kX_putN rfl rfl (hEv) rfl (rfl) rfl ?_
    iterate 2 (refine kX_one rfl ?_)
    refine kX_putN rfl rfl (hEv) rfl (rfl) rfl ?_
    iterate 2 (refine kX_one rfl ?_)
    refine kX_putN rfl rfl (hEv) rfl (rfl) rfl ?_
    refine kX_st (va_up σ (28 + 35 * r + 5 * e) (upd (upd (upd (upd (σ (28 + 35 * r + 5 * e)) 0 b) 1 (nI t)) 4 0) 7 0)) ?_ ?_
    · rw [kup_up, kup_up, kup_up]
      simp only [up_eq]
      rfl
    have hρa : va_up σ (28 + 35 * r + 5 * e) (upd (upd (upd (upd (σ (28 + 35 * r + 5 * e)) 0 b) 1 (nI t)) 4 0) 7 0) (28 + 35 * r + 5 * e) = upd (upd (upd (upd (σ (28 + 35 * r + 5 * e)) 0 b) 1 (nI t)) 4 0) 7 0 := up_eq
    have hρo : ∀ c, c ≠ 28 + 35 * r + 5 * e → va_up σ (28 + 35 * r + 5 * e) (upd (upd (upd (upd (σ (28 + 35 * r + 5 * e)) 0 b) 1 (nI t)) 4 0) 7 0) c = σ c := fun c hc => up_ne hc
    generalize va_up σ (28 + 35 * r + 5 * e) (upd (upd (upd (upd (σ (28 + 35 * r + 5 * e)) 0 b) 1 (nI t)) 4 0) 7 0) = ρ at *
    have hte : ρ (28 + 35 * r + 5 * e) 1 = nI t := by rw [hρa]; rfl
    have hbc : ρ (28 + 35 * r + 5 * e) 4 = 0 := by rw [hρa]; rfl
    have hpc : ρ (28 + 35 * r + 5 * e) 7 = 0 := by rw [hρa]; rfl
    have hTρ : cT ρ n := by
      refine cT_eq (by rw [hρo 1 (by omega)]) (hρo _ (by omega)) (fun u _ => ?_) hT
      rw [hρo 2 (by omega), hρo 3 (by omega), hρo 4 (by omega), hρo 8 (by omega), hρo 12 (by omega), hρo 6 (by omega)]
      exact ⟨rfl, rfl, rfl, rfl, rfl, rfl⟩
    have k71 : ∀ τ, (∀ c, c ≠ 20 → c ≠ 21 → c ≠ 22 → c ≠ 26 + 35 * r → (c < 28 + 35 * r + 5 * e ∨ 28 + 35 * r + 5 * e + 5 ≤ c) → τ c = σ c) → cE τ n (28 + 35 * r + 5 * e) → kX kT L xs (d + 5) 9 71 [(4, .ref (28 + 35 * r + 5 * e)), (0, .ref 13), (1, .ref (23 + 35 * r)), (2, .int b), (3, .int (nI t))] [] τ (fun q σ' => (∃ x, q = some (.int x)) ∧ cAfter σ σ' R) := by
      intro τ hτ hE
      have e23 : τ (23 + 35 * r) = σ (23 + 35 * r) := hτ _ (by omega) (by omega) (by omega) (by omega) (by omega)
      iterate 2 (refine kX_one rfl ?_)
      refine kX_getN rfl rfl (kT_ro hr4) rfl ?_
      refine kX_top (y := nI e) (by rw [e23]; exact hec) ?_
      iterate 2 (refine kX_one rfl ?_)
      refine kX_putN rfl rfl (kT_ro hr4) rfl (rfl) rfl ?_
      iterate 1 (refine kX_one rfl ?_)
      refine kX_getN rfl rfl (kT_ro hr4) rfl ?_
      have hω : ∀ c, c ≠ 23 + 35 * r → va_up τ (23 + 35 * r) (upd (τ (23 + 35 * r)) 5 (nI e + Int32.ofInt 1)) c = τ c := fun c hc => up_ne hc
      have hωr : va_up τ (23 + 35 * r) (upd (τ (23 + 35 * r)) 5 (nI e + Int32.ofInt 1)) (23 + 35 * r) = upd (σ (23 + 35 * r)) 5 (nI (e + 1)) := by
        rw [up_eq, e23, ← nI_1]
        rfl
      refine kX_ret (i := .ireturn) (len := 1) rfl (Or.inr rfl) rfl ⟨⟨_, rfl⟩, ?_⟩
      show cAfter σ (va_up τ (23 + 35 * r) (upd (τ (23 + 35 * r)) 5 (nI e + Int32.ofInt 1))) R
      generalize va_up τ (23 + 35 * r) (upd (τ (23 + 35 * r)) 5 (nI e + Int32.ofInt 1)) = ω at *
      refine ⟨fun c hc => ?_, n, S, C, cJ_lo h (fun c hc => ?_) (fun j _ => ?_) ⟨hR4, ?_, fun r' hr' => ?_⟩ (Nat.le_refl _)⟩
      · rw [hω c (by omega)]
        exact hτ c (by omega) (by omega) (by omega) (by omega) (by omega)
      · rw [hω c (by omega)]
        exact hτ c (by omega) (by omega) (by omega) (by omega) (by omega)
      · rw [hω 13 (by omega), hτ 13 (by decide) (by decide) (by decide) (by omega) (by omega)]
      · rw [hω 13 (by omega), hτ 13 (by decide) (by decide) (by decide) (by omega) (by omega)]
        exact h.2.1.2.1
      · by_cases q : r' = r
        · subst q
          refine ⟨v, e + 1, v1, by omega, ?_, ?_, ?_, fun k hk => ?_⟩
          · rw [hωr]
            exact v2
          · rw [hωr]
            exact pk_us
          · rw [hω (25 + 35 * r') (by omega), hω (24 + 35 * r') (by omega), hτ (25 + 35 * r') (by omega) (by omega) (by omega) (by omega) (by omega), hτ (24 + 35 * r') (by omega) (by omega) (by omega) (by omega) (by omega)]
            exact so1
          · by_cases q : k = e
            · subst q
              exact cE_up (Nat.le_refl _) (fun i hi => hω _ (by omega)) hE
            · exact cE_up (σ := σ) (Nat.le_refl _) (fun i hi => by
                rw [hω _ (by omega)]
                exact hτ _ (by omega) (by omega) (by omega) (by omega) (by omega)) (ev1 k (by omega))
        · exact cR1_eq (fun c c1 c2 => by
            rw [hω c (by omega)]
            exact hτ c (by omega) (by omega) (by omega) (by omega) (by omega)) (h.2.1.2.2 r' hr')
    iterate 1 (refine kX_one rfl ?_)
    repeat refine kX_one rfl ?_
    refine kX_if (fun q2 => ?_) (fun q2 => ?_)
    · refine kX_lv _ rfl rfl rfl (k71 ρ (fun c _ _ _ _ hc => hρo c (by omega)) ⟨t, 0, 0, ht, by omega, by omega, hte, hbc, hpc, fun j hj => absurd hj (Nat.not_lt_zero j), fun j hj => absurd hj (Nat.not_lt_zero j)⟩)
    · iterate 3 (refine kX_one rfl ?_)
      refine kX_cal (mc_bindIn L xs (d + 1) ρ n r e t v hTρ hr4 he ht v1 (by rw [hρo _ (by omega)]; exact v2) (fun j hj => ?_) hte hbc) rfl (Or.inr rfl) rfl rfl rfl (fun r1 τ1 q1 => ?_)
      · obtain ⟨so, s1, s2, -⟩ := so1 j hj
        exact ⟨so, s1, by rw [hρo _ (by omega)]; exact s2⟩
      · obtain ⟨rfl, ST, VS, m, ⟨f1, f2⟩, m1, m2, m3⟩ := q1
        have hτ1 : ∀ c, c ≠ 20 → c ≠ 21 → c ≠ 26 + 35 * r → c ≠ 28 + 35 * r + 5 * e → c ≠ 28 + 35 * r + 5 * e + 1 → c ≠ 28 + 35 * r + 5 * e + 2 → τ1 c = σ c := fun c x1 x2 x3 x4 x5 x6 => by
          rw [f1 c x3 x4 x5 x6]
          unfold lvU
          rw [up_ne x2, up_ne x1, hρo c x4]
        have hte1 : τ1 (28 + 35 * r + 5 * e) 1 = nI t := by
          rw [f2 _ (by decide)]
          unfold lvU
          rw [up_ne (by omega), up_ne (by omega)]
          exact hte
        have hT1 : cT τ1 n := by
          refine cT_eq (by rw [hτ1 1 (by decide) (by decide) (by omega) (by omega) (by omega) (by omega)]) (hτ1 _ (by decide) (by decide) (by omega) (by omega) (by omega) (by omega)) (fun u _ => ?_) hT
          rw [hτ1 2 (by decide) (by decide) (by omega) (by omega) (by omega) (by omega), hτ1 3 (by decide) (by decide) (by omega) (by omega) (by omega) (by omega), hτ1 4 (by decide) (by decide) (by omega) (by omega) (by omega) (by omega), hτ1 8 (by decide) (by decide) (by omega) (by omega) (by omega) (by omega), hτ1 12 (by decide) (by decide) (by omega) (by omega) (by omega) (by omega), hτ1 6 (by decide) (by decide) (by omega) (by omega) (by omega) (by omega)]
          exact ⟨rfl, rfl, rfl, rfl, rfl, rfl⟩
        iterate 5 (refine kX_one rfl ?_)
        refine kX_cal (mc_plan L xs d τ1 n r e t m hT1 hr4 he ht m1 hte1 m2) rfl (Or.inr rfl) rfl (jcall_v rfl rfl rfl (hEv) rfl rfl) rfl (fun r1 σ1 q1 => ?_)
        obtain ⟨rfl, p, ⟨g1, g2⟩, p1, p2, p3, p4⟩ := q1
        refine kX_lv _ rfl rfl rfl (k71 σ1 (fun c x1 x2 x3 x4 x5 => ?_) ⟨t, m, p, ht, m1, p1, (g2 _ (by decide)).trans hte1, (g2 _ (by decide)).trans m2, p2, fun j hj => ⟨?_, ?_, p4 (j + 1) (by omega)⟩, p3⟩)
        · rw [g1 c x3 (by omega) (by omega) (by omega)]
          exact hτ1 c x1 x2 x4 (by omega) (by omega) (by omega)
        · rw [g1 _ (by omega) (by omega) (by omega) (by omega)]
          exact (m3 j hj).1
        · rw [g1 _ (by omega) (by omega) (by omega) (by omega)]
          exact (m3 j hj).2
  · have q := qltF q e 6
    omega
set_option maxRecDepth 100000 in
set_option maxHeartbeats 4000000 in
theorem mk_event (L : Nat) (xs : Nat → Int32) (d : Nat) (σ : kS) (n R S C : Nat) (x b z : Int32) (hb : b = 0 ∨ b = 1) (h : cJ σ n R S C) : kXM kT L xs (d + 6) 116 [.ref 0, .int x, .int b, .int z] σ (fun r σ' => (∃ x, r = some (.int x)) ∧ cAfter σ σ' R) := by
  have hT := h.1
  have hn := hT.1
  have hR := h.2.1
  have hR4 := hR.1
  unfold kXM
  have k22 : kX kT L xs (d + 6) 116 22 (lv_args 0 [.ref 0, .int x, .int b, .int z]) [] σ (fun r σ' => (∃ x, r = some (.int x)) ∧ cAfter σ σ' R) := by
    repeat refine kX_one rfl ?_
    refine kX_ret (i := .ireturn) (len := 1) rfl (Or.inr rfl) rfl (⟨⟨_, rfl⟩, cAfter_same h⟩)
  iterate 3 (refine kX_one rfl ?_)
  refine kX_cal (mc_hasRole L xs (d + 4) σ R x hR4 hR.2.1) rfl (Or.inr rfl) rfl rfl rfl (fun r1 σ1 q1 => ?_)
  obtain ⟨rfl, rfl⟩ := q1
  repeat refine kX_one rfl ?_
  refine kX_if (fun q => ?_) (fun q => ?_)
  · exact k22
  · obtain ⟨r, hr, rfl⟩ := isB_ne.mp (qeqF q)
    have hr4 : r < 4 := by omega
    obtain ⟨v, e, v1, e1, v2, e2, so1, ev1⟩ := hR.2.2 r hr
    iterate 3 (refine kX_one rfl ?_)
    refine kX_cal (mc_has L xs (d + 4) σ n z hn hT.2.1) rfl (Or.inr rfl) rfl rfl rfl (fun r1 σ1 q1 => ?_)
    obtain ⟨rfl, rfl⟩ := q1
    repeat refine kX_one rfl ?_
    refine kX_if (fun q2 => ?_) (fun q2 => ?_)
    · obtain ⟨t, ht, rfl⟩ := isB_ne.mp (qne q2)
      iterate 4 (refine kX_one rfl ?_)
      refine kX_aaldN rfl (rfl) (by decide) (by decide) (by decide) (r) (by first | rfl | decide) (hr4) (ro_at hr4) ?_
      iterate 2 (refine kX_one rfl ?_)
      refine kX_getN rfl rfl (kT_ro hr4) rfl ?_
      repeat refine kX_one rfl ?_
      refine kX_if (fun q3 => ?_) (fun q3 => ?_)
      · iterate 1 (refine kX_one rfl ?_)
        refine kX_getN rfl rfl (kT_ro hr4) rfl ?_
        refine kX_top (e2) ?_
        iterate 1 (refine kX_one rfl ?_)
        repeat refine kX_one rfl ?_
        refine kX_if (fun q4 => ?_) (fun q4 => ?_)
        · have q4 := qlt q4 e 6
          iterate 5 (refine kX_one rfl ?_)
          refine kX_cal (mc_mayBeEvent L xs (d + 2) σ n R r t v b hT hR4 hr ht v1 v2) rfl (Or.inr rfl) rfl rfl rfl (fun r1 σ1 q1 => ?_)
          obtain ⟨hq, ST, VS, rfl⟩ := q1
          have hlv : ∀ c, c ≠ 20 → c ≠ 21 → lvU σ ST VS c = σ c := fun c x1 x2 => by
            unfold lvU
            rw [up_ne x2, up_ne x1]
          have h2 : cJ (lvU σ ST VS) n R S C := by
            refine cJ_lo h (fun c hc => hlv c (by omega) (by omega)) (fun j _ => by rw [hlv 13 (by decide) (by decide)]) ⟨hR4, by rw [hlv 13 (by decide) (by decide)]; exact hR.2.1, fun r' hr' => cR1_eq (fun c c1 c2 => hlv c (by omega) (by omega)) (hR.2.2 r' hr')⟩ (Nat.le_refl _)
          have hhi : cHi σ (lvU σ ST VS) := fun c hc => hlv c (by omega) (by omega)
          rcases hq with rfl | rfl
          · repeat refine kX_one rfl ?_
            refine kX_ret (i := .ireturn) (len := 1) rfl (Or.inr rfl) rfl (⟨⟨_, rfl⟩, hhi, n, S, C, h2⟩)
          · iterate 6 (refine kX_one rfl ?_)
            refine kX_cal (mc_newEvent L xs d (lvU σ ST VS) n R S C r e t b h2 hr q4 (by rw [hlv _ (by omega) (by omega)]; exact e2) ht hb) rfl (Or.inr rfl) rfl rfl rfl (fun r1 σ1 q1 => ?_)
            obtain ⟨⟨w, rfl⟩, hA⟩ := q1
            refine kX_ret (i := .ireturn) (len := 1) rfl (Or.inr rfl) rfl (⟨⟨_, rfl⟩, cHi_trans hhi hA.1, hA.2⟩)
        · repeat refine kX_one rfl ?_
          refine kX_ret (i := .ireturn) (len := 1) rfl (Or.inr rfl) rfl (⟨⟨_, rfl⟩, cAfter_same h⟩)
      · repeat refine kX_one rfl ?_
        refine kX_ret (i := .ireturn) (len := 1) rfl (Or.inr rfl) rfl (⟨⟨_, rfl⟩, cAfter_same h⟩)
    · exact k22
