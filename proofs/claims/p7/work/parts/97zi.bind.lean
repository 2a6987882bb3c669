/-! the class: bindIn -/
/-- what an EVENT binds, up to m -/
def bnI (τ : kS) (a m : Nat) : Prop := m ≤ 6 ∧ τ a 4 = nI m ∧ ∀ j, j < m → (∃ p, p < 6 ∧ τ (a + 1) j = nI p) ∧ ∃ so, so ≤ 3 ∧ τ (a + 2) j = nI so
def bnF (ρ τ : kS) (r a : Nat) : Prop := (∀ c, c ≠ 26 + 35 * r → c ≠ a → c ≠ a + 1 → c ≠ a + 2 → τ c = ρ c) ∧ ∀ j, j ≠ 4 → τ a j = ρ a j
set_option maxRecDepth 100000 in
set_option maxHeartbeats 4000000 in
theorem mc_bindIn (L : Nat) (xs : Nat → Int32) (d : Nat) (σ : kS) (n r k t v : Nat) (h : cT σ n) (hr : r < 4) (hk : k < 6) (ht : t < n) (hv : v ≤ 6) (hvc : σ (23 + 35 * r) 3 = nI v) (hso : ∀ j, j < v → ∃ so, so ≤ 3 ∧ σ (25 + 35 * r) j = nI so) (hte : σ (28 + 35 * r + 5 * k) 1 = nI t) (hbc : σ (28 + 35 * r + 5 * k) 4 = 0) : kXM kT L xs (d + 3) 10 [.ref 13, .ref (23 + 35 * r), .ref (28 + 35 * r + 5 * k)] σ (fun q σ' => q = none ∧ ∃ ST VS m, bnF (lvU σ ST VS) σ' r (28 + 35 * r + 5 * k) ∧ bnI σ' (28 + 35 * r + 5 * k) m) := by
  have hn := h.1
  unfold kXM
  iterate 2 (refine kX_one rfl ?_)
  refine kX_getN rfl rfl (kT_ev hr hk) rfl ?_
  refine kX_top (hte) ?_
  refine kX_cal (mc_listVars L xs d σ n t h ht) rfl (Or.inr rfl) rfl rfl rfl (fun r1 σ1 q1 => ?_)
  obtain ⟨c, ST, VS, c1, rfl, rfl, hl⟩ := q1
  have hlv : ∀ e, e ≠ 20 → e ≠ 21 → lvU σ ST VS e = σ e := fun e x1 x2 => by
    unfold lvU
    rw [up_ne x2, up_ne x1]
  have hVS : lvU σ ST VS 21 = VS := rfl
  generalize hρ : lvU σ ST VS = ρ at *
  generalize ha : 28 + 35 * r + 5 * k = a at *
  have haa : 28 + 35 * r ≤ a ∧ a + 5 ≤ 58 + 35 * r := by omega
  have hEv := kT_ev hr hk
  have hE1 := kT_e1 (i := 1) hr hk (Or.inl rfl)
  have hE2 := kT_e1 (i := 2) hr hk (Or.inr rfl)
  rw [ha] at hEv hE1 hE2
  have loop : ∀ q : Nat × kS × Nat, (q.1 ≤ c ∧ bnF ρ q.2.1 r a ∧ bnI q.2.1 a q.2.2) → kX kT L xs (d + 3) 10 12 [(4, .int (nI q.1)), (3, .int (nI c)), (0, .ref 13), (1, .ref (23 + 35 * r)), (2, .ref a)] [] q.2.1 (fun q σ' => q = none ∧ ∃ ST VS m, bnF (lvU σ ST VS) σ' r a ∧ bnI σ' a m) := by
    refine kX_while (fun q : Nat × kS × Nat => [(4, .int (nI q.1)), (3, .int (nI c)), (0, .ref 13), (1, .ref (23 + 35 * r)), (2, .ref a)]) (fun q => q.2.1) _ (fun q => c - q.1) ?_
    rintro ⟨i, τ, m⟩ ⟨i1, ⟨f1, f2⟩, m6, i3, i4⟩ ih
    dsimp only at i1 f1 f2 m6 i3 i4 ih ⊢
    iterate 2 (refine kX_one rfl ?_)
    repeat refine kX_one rfl ?_
    refine kX_if (fun q => ?_) (fun q => ?_)
    · repeat refine kX_one rfl ?_
      refine kX_ret (i := .return_) (len := 1) rfl (Or.inr rfl) rfl ⟨rfl, ST, VS, m, ?_, m6, i3, i4⟩
      rw [hρ]
      exact ⟨f1, f2⟩
    · have q := qgeF q i c
      obtain ⟨u, u1, u2⟩ := hl i q
      have k98 : ∀ (y : Int32) τ' m', bnF ρ τ' r a → bnI τ' a m' → kX kT L xs (d + 3) 10 98 [(5, .int y), (4, .int (nI i)), (3, .int (nI c)), (0, .ref 13), (1, .ref (23 + 35 * r)), (2, .ref a)] [] τ' (fun q σ' => q = none ∧ ∃ ST VS m, bnF (lvU σ ST VS) σ' r a ∧ bnI σ' a m) := by
        intro y τ' m' x1 x2
        iterate 2 (refine kX_one rfl ?_)
        have := ih (i + 1, τ', m') ⟨q, x1, x2⟩ (by simp only; omega)
        dsimp only at this
        rw [← nI_1] at this
        exact kX_lv _ rfl rfl rfl this
      have e21 : τ 21 i = nI u := by
        rw [f1 _ (by omega) (by omega) (by omega) (by omega), hVS]
        exact u2
      have hvc2 : τ (23 + 35 * r) 3 = nI v := by
        rw [f1 _ (by omega) (by omega) (by omega) (by omega), hlv _ (by omega) (by omega)]
        exact hvc
      iterate 6 (refine kX_one rfl ?_)
      refine kX_ialdV rfl rfl (by decide) (i) (by first | rfl | decide) (by omega) (e21) ?_
      refine kX_ialdN rfl rfl (by decide) (u) (by first | rfl | decide) (by omega) ?_
      iterate 3 (refine kX_one rfl ?_)
      refine kX_cal (mc_waitsFor L xs (d + 0) τ r v _ hr hv hvc2) rfl (Or.inr rfl) rfl (jcall_v rfl rfl rfl (kT_ro hr) rfl rfl) rfl (fun r1 σ1 q1 => ?_)
      obtain ⟨hq, rfl⟩ := q1
      rcases hq with rfl | ⟨rfl, p, p1, p2⟩
      · iterate 1 (refine kX_one rfl ?_)
        exact kX_lv _ rfl rfl rfl (k98 _ τ m ⟨f1, f2⟩ ⟨m6, i3, i4⟩)
      · have p2 : τ 12 u = nI p := p2
        obtain ⟨so, so1, so2⟩ := hso p p1
        iterate 2 (refine kX_one rfl ?_)
        refine kX_getN rfl rfl (hEv) rfl ?_
        refine kX_top (i3) ?_
        iterate 1 (refine kX_one rfl ?_)
        repeat refine kX_one rfl ?_
        refine kX_if (fun q2 => ?_) (fun q2 => ?_)
        · exact kX_lv _ rfl rfl rfl (k98 _ τ m ⟨f1, f2⟩ ⟨m6, i3, i4⟩)
        · have q2 := qgeF q2 m 6
          refine kX_lv [(5, .int (nI p)), (4, .int (nI i)), (3, .int (nI c)), (0, .ref 13), (1, .ref (23 + 35 * r)), (2, .ref a)] rfl rfl (by rw [← p2]; rfl) ?_
          iterate 1 (refine kX_one rfl ?_)
          refine kX_getN rfl rfl (kT_ro hr) rfl ?_
          iterate 2 (refine kX_one rfl ?_)
          refine kX_bastN rfl (kT_rr hr) (by decide) (p) (by first | rfl | decide) (by omega) (Or.inr rfl) ?_
          iterate 1 (refine kX_one rfl ?_)
          refine kX_getN rfl rfl (hEv) rfl ?_
          iterate 1 (refine kX_one rfl ?_)
          refine kX_getN rfl rfl (hEv) rfl ?_
          refine kX_top (y := nI m) (by rw [up_ne (by omega)]; exact i3) ?_
          iterate 1 (refine kX_one rfl ?_)
          refine kX_iastN rfl (hE1) (by decide) (m) (by first | rfl | decide) (q2) ?_
          iterate 1 (refine kX_one rfl ?_)
          refine kX_getN rfl rfl (hEv) rfl ?_
          iterate 1 (refine kX_one rfl ?_)
          refine kX_getN rfl rfl (hEv) rfl ?_
          refine kX_top (y := nI m) (by rw [up_ne (by omega), up_ne (by omega)]; exact i3) ?_
          iterate 1 (refine kX_one rfl ?_)
          refine kX_getN rfl rfl (kT_ro hr) rfl ?_
          iterate 1 (refine kX_one rfl ?_)
          refine kX_ialdV rfl (kT_rs hr) (by decide) (p) (by first | rfl | decide) (by omega) ((congrFun (up_ne (by omega)) p).trans ((congrFun (up_ne (by omega)) p).trans ((congrFun (f1 _ (by omega) (by omega) (by omega) (by omega)) p).trans ((congrFun (hlv _ (by omega) (by omega)) p).trans so2)))) ?_
          refine kX_iastN rfl (hE2) (by decide) (m) (by first | rfl | decide) (q2) ?_
          iterate 2 (refine kX_one rfl ?_)
          refine kX_getN rfl rfl (hEv) rfl ?_
          refine kX_top (y := nI m) (by rw [up_ne (by omega), up_ne (by omega), up_ne (by omega)]; exact i3) ?_
          iterate 2 (refine kX_one rfl ?_)
          refine kX_putN rfl rfl (hEv) rfl (rfl) rfl ?_
          refine kX_lv _ rfl rfl rfl (k98 (nI p) _ (m + 1) ⟨fun e x1 x2 x3 x4 => ?_, fun j hj => ?_⟩ ⟨by omega, ?_, fun j hj => ?_⟩)
          · rw [up_ne x2, up_ne x4, up_ne x3, up_ne x1]
            exact f1 e x1 x2 x3 x4
          · rw [up_eq, up_ne (by omega), up_ne (by omega), up_ne (by omega)]
            exact (pk_un hj).trans (f2 j hj)
          · rw [up_eq, ← nI_1]
            exact pk_us
          · rw [up_ne (show a + 1 ≠ a by omega), up_ne (show a + 1 ≠ a + 2 by omega), up_eq, up_ne (show a + 2 ≠ a by omega), up_eq, up_ne (show a + 1 ≠ 26 + 35 * r by omega)]
            rw [up_ne (show a + 2 ≠ a + 1 by omega), up_ne (show a + 2 ≠ 26 + 35 * r by omega)]
            by_cases e : j = m
            · subst e
              rw [pk_us, pk_us]
              exact ⟨⟨p, by omega, rfl⟩, so, so1, rfl⟩
            · rw [pk_un e, pk_un e]
              exact i4 j (by omega)
  iterate 3 (refine kX_one rfl ?_)
  have := loop (0, ρ, 0) ⟨Nat.zero_le _, ⟨fun _ _ _ _ _ => rfl, fun _ _ => rfl⟩, Nat.zero_le _, (congrFun (hlv a (by omega) (by omega)) _).trans hbc, fun j hj => absurd hj (Nat.not_lt_zero j)⟩
  exact kX_lv _ rfl rfl rfl this
