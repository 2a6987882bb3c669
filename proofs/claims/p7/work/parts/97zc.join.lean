/-! the class: join, know, ofRole -/
set_option maxRecDepth 100000 in
set_option maxHeartbeats 4000000 in
theorem mc_tie (L : Nat) (xs : Nat → Int32) (d : Nat) (σ : kS) (c j x y : Nat) (hc : c < 6) (hj : j < 4) (h : σ (163 + 3 * c) 6 = nI j) : kXM kT L xs (d + 1) 39 [.ref (163 + 3 * c), .int (nI x), .int (nI y)] σ (fun q σ' => (∃ x, q = some (.int x)) ∧ σ' = va_up (va_up (va_up σ (164 + 3 * c) (upd (σ (164 + 3 * c)) j (nI x))) (165 + 3 * c) (upd (σ (165 + 3 * c)) j (nI y))) (163 + 3 * c) (upd (σ (163 + 3 * c)) 6 (nI (j + 1)))) := by
  unfold kXM
  iterate 1 (refine kX_one rfl ?_)
  refine kX_getN rfl rfl (kT_cl hc) rfl ?_
  refine kX_top (h) ?_
  iterate 1 (refine kX_one rfl ?_)
  repeat refine kX_one rfl ?_
  refine kX_if (fun q => ?_) (fun q => ?_)
  · have q := qge q j 4
    omega
  · iterate 1 (refine kX_one rfl ?_)
    refine kX_getN rfl rfl (kT_cl hc) rfl ?_
    iterate 1 (refine kX_one rfl ?_)
    refine kX_getN rfl rfl (kT_cl hc) rfl ?_
    refine kX_top (h) ?_
    iterate 1 (refine kX_one rfl ?_)
    refine kX_iastN rfl ((kT_c1 hc).1) (by decide) (j) (by first | rfl | decide) (hj) ?_
    iterate 1 (refine kX_one rfl ?_)
    refine kX_getN rfl rfl (kT_cl hc) rfl ?_
    iterate 1 (refine kX_one rfl ?_)
    refine kX_getN rfl rfl (kT_cl hc) rfl ?_
    refine kX_top (y := nI j) (by rw [up_ne (by omega)]; exact h) ?_
    iterate 1 (refine kX_one rfl ?_)
    refine kX_iastN rfl ((kT_c1 hc).2) (by decide) (j) (by first | rfl | decide) (hj) ?_
    iterate 2 (refine kX_one rfl ?_)
    refine kX_getN rfl rfl (kT_cl hc) rfl ?_
    refine kX_top (y := nI j) (by rw [up_ne (by omega), up_ne (by omega)]; exact h) ?_
    iterate 2 (refine kX_one rfl ?_)
    refine kX_putN rfl rfl (kT_cl hc) rfl (rfl) rfl ?_
    iterate 1 (refine kX_one rfl ?_)
    refine kX_getN rfl rfl (kT_cl hc) rfl ?_
    refine kX_ret (i := .ireturn) (len := 1) rfl (Or.inr rfl) rfl ⟨⟨_, rfl⟩, ?_⟩
    rw [← nI_1]
    funext e
    by_cases e3 : e = 163 + 3 * c
    · subst e3
      rw [up_eq, up_eq, up_ne (by omega), up_ne (by omega)]
      rfl
    · rw [up_ne e3, up_ne e3]
      by_cases e2 : e = 165 + 3 * c
      · subst e2
        rw [up_eq, up_eq, up_ne (by omega)]
      · rw [up_ne e2, up_ne e2]
set_option maxRecDepth 100000 in
set_option maxHeartbeats 4000000 in
theorem mk_join (L : Nat) (xs : Nat → Int32) (d : Nat) (σ : kS) (n R S C : Nat) (x y z : Int32) (h : cJ σ n R S C) : kXM kT L xs (d + 3) 121 [.ref 0, .int x, .int y, .int z] σ (fun r σ' => (∃ x, r = some (.int x)) ∧ cAfter σ σ' R) := by
  have hcl := h.2.2.2.1
  have hC6 := hcl.1
  unfold kXM
  iterate 3 (refine kX_one rfl ?_)
  refine kX_cal (mc_hasClaim L xs (d + 1) σ C x hC6 hcl.2.1) rfl (Or.inr rfl) rfl rfl rfl (fun r1 σ1 q1 => ?_)
  obtain ⟨rfl, rfl⟩ := q1
  repeat refine kX_one rfl ?_
  refine kX_if (fun q => ?_) (fun q => ?_)
  · obtain ⟨c, hc, rfl⟩ := isB_ne.mp (qne q)
    have hc6 : c < 6 := by omega
    obtain ⟨a1, j, j1, j2, j3⟩ := hcl.2.2 c hc
    iterate 4 (refine kX_one rfl ?_)
    refine kX_aaldN rfl (rfl) (by decide) (by decide) (by decide) (c) (by first | rfl | decide) (hc6) (cl_at hc6) ?_
    iterate 2 (refine kX_one rfl ?_)
    refine kX_getN rfl rfl (kT_cl hc6) rfl ?_
    repeat refine kX_one rfl ?_
    refine kX_if (fun q2 => ?_) (fun q2 => ?_)
    · iterate 3 (refine kX_one rfl ?_)
      refine kX_getN rfl rfl (kT_cl hc6) rfl ?_
      iterate 1 (refine kX_one rfl ?_)
      refine kX_cal (mc_hasVariable L xs d σ n R _ y h.2.1) rfl (Or.inr rfl) rfl rfl rfl (fun r1 σ1 q1 => ?_)
      obtain ⟨rfl, rfl⟩ := q1
      repeat refine kX_one rfl ?_
      refine kX_if (fun q3 => ?_) (fun q3 => ?_)
      · repeat refine kX_one rfl ?_
        refine kX_ret (i := .ireturn) (len := 1) rfl (Or.inr rfl) rfl (⟨⟨_, rfl⟩, cAfter_same h⟩)
      · obtain ⟨-, vy, -, -, vy6, rfl, -⟩ := isB_ne.mp (qeqF q3)
        iterate 3 (refine kX_one rfl ?_)
        refine kX_getN rfl rfl (kT_cl hc6) rfl ?_
        iterate 1 (refine kX_one rfl ?_)
        refine kX_cal (mc_hasVariable L xs d σ n R _ z h.2.1) rfl (Or.inr rfl) rfl rfl rfl (fun r1 σ1 q1 => ?_)
        obtain ⟨rfl, rfl⟩ := q1
        repeat refine kX_one rfl ?_
        refine kX_if (fun q4 => ?_) (fun q4 => ?_)
        · obtain ⟨-, vz, -, -, vz6, rfl, -⟩ := isB_ne.mp (qne q4)
          iterate 1 (refine kX_one rfl ?_)
          refine kX_getN rfl rfl (kT_cl hc6) rfl ?_
          refine kX_top (j2) ?_
          iterate 1 (refine kX_one rfl ?_)
          repeat refine kX_one rfl ?_
          refine kX_if (fun q5 => ?_) (fun q5 => ?_)
          · have q5 := qlt q5 j 4
            iterate 3 (refine kX_one rfl ?_)
            refine kX_cal (mc_tie L xs (d + 1) σ c j vy vz hc6 q5 j2) rfl (Or.inr rfl) rfl (jcall_v rfl rfl rfl (kT_cl hc6) rfl rfl) rfl (fun r1 σ1 q1 => ?_)
            obtain ⟨⟨w, rfl⟩, rfl⟩ := q1
            refine kX_ret (i := .ireturn) (len := 1) rfl (Or.inr rfl) rfl ⟨⟨_, rfl⟩, fun e he => ?_, n, S, C, cJ_cl h (fun e e1 e2 => ?_) (fun k _ => ?_) ⟨hC6, ?_, fun c' hc' => ?_⟩⟩
            · rw [up_ne (by omega), up_ne (by omega), up_ne (by omega)]
            · rw [up_ne (by omega), up_ne (by omega), up_ne (by omega)]
            · rw [up_ne (by omega), up_ne (by omega), up_ne (by omega)]
            · rw [up_ne (by omega), up_ne (by omega), up_ne (by omega)]
              exact hcl.2.1
            · by_cases e : c' = c
              · subst e
                rw [up_eq, up_ne (show 164 + 3 * c' ≠ 163 + 3 * c' by omega), up_ne (show 164 + 3 * c' ≠ 165 + 3 * c' by omega), up_eq, up_ne (show 165 + 3 * c' ≠ 163 + 3 * c' by omega), up_eq]
                refine ⟨a1, j + 1, by omega, rfl, fun i hi => ?_⟩
                by_cases e : i = j
                · subst e
                  rw [pk_us, pk_us]
                  exact ⟨⟨vy, vy6, rfl⟩, vz, vz6, rfl⟩
                · rw [pk_un e, pk_un e]
                  exact j3 i (by omega)
              · have hx : ∀ k, k < 3 → va_up (va_up (va_up σ (164 + 3 * c) (upd (σ (164 + 3 * c)) j (nI vy))) (165 + 3 * c) (upd (σ (165 + 3 * c)) j (nI vz))) (163 + 3 * c) (upd (σ (163 + 3 * c)) 6 (nI (j + 1))) (163 + k + 3 * c') = σ (163 + k + 3 * c') := fun k hk => by
                  rw [up_ne (by omega), up_ne (by omega), up_ne (by omega)]
                have := hx 0 (by omega)
                have := hx 1 (by omega)
                have := hx 2 (by omega)
                simp only [Nat.add_zero] at *
                rw [hx 0 (by omega), hx 1 (by omega), hx 2 (by omega)]
                exact hcl.2.2 c' hc'
          · repeat refine kX_one rfl ?_
            refine kX_ret (i := .ireturn) (len := 1) rfl (Or.inr rfl) rfl (⟨⟨_, rfl⟩, cAfter_same h⟩)
        · repeat refine kX_one rfl ?_
          refine kX_ret (i := .ireturn) (len := 1) rfl (Or.inr rfl) rfl (⟨⟨_, rfl⟩, cAfter_same h⟩)
    · repeat refine kX_one rfl ?_
      refine kX_ret (i := .ireturn) (len := 1) rfl (Or.inr rfl) rfl (⟨⟨_, rfl⟩, cAfter_same h⟩)
  · repeat refine kX_one rfl ?_
    refine kX_ret (i := .ireturn) (len := 1) rfl (Or.inr rfl) rfl (⟨⟨_, rfl⟩, cAfter_same h⟩)
set_option maxRecDepth 100000 in
set_option maxHeartbeats 4000000 in
theorem mc_isKnown (L : Nat) (xs : Nat → Int32) (d : Nat) (σ : kS) (k : Nat) (x : Int32) (hk : k ≤ 20) (h : σ 13 10 = nI k) : kXM kT L xs (d + 1) 12 [.ref 13, .int x] σ (fun r σ' => (r = some (.int 0) ∨ r = some (.int 1)) ∧ σ = σ') := by
  unfold kXM
  have loop : ∀ i : Nat, i ≤ k → kX kT L xs (d + 1) 12 2 [(2, .int (nI i)), (0, .ref 13), (1, .int x)] [] σ (fun r σ' => (r = some (.int 0) ∨ r = some (.int 1)) ∧ σ = σ') := by
    refine kX_while (fun i : Nat => [(2, .int (nI i)), (0, .ref 13), (1, .int x)]) (fun _ => σ) (fun i => i ≤ k) (fun i => k - i) ?_
    intro i hi ih
    iterate 3 (refine kX_one rfl ?_)
    refine kX_top (h) ?_
    repeat refine kX_one rfl ?_
    refine kX_if (fun q => ?_) (fun q => ?_)
    · repeat refine kX_one rfl ?_
      refine kX_ret (i := .ireturn) (len := 1) rfl (Or.inr rfl) rfl (⟨Or.inl rfl, rfl⟩)
    · have q := qgeF q i k
      iterate 3 (refine kX_one rfl ?_)
      refine kX_ialdN rfl rfl (by decide) (i) (by first | rfl | decide) (by omega) ?_
      iterate 1 (refine kX_one rfl ?_)
      repeat refine kX_one rfl ?_
      refine kX_if (fun q2 => ?_) (fun q2 => ?_)
      · iterate 2 (refine kX_one rfl ?_)
        have := ih (i + 1) q (by omega)
        rw [← nI_1] at this
        exact kX_lv _ rfl rfl rfl this
      · repeat refine kX_one rfl ?_
        refine kX_ret (i := .ireturn) (len := 1) rfl (Or.inr rfl) rfl (⟨Or.inr rfl, rfl⟩)
  iterate 2 (refine kX_one rfl ?_)
  exact kX_lv _ rfl rfl rfl (loop 0 (Nat.zero_le _))
theorem cJ_kn {σ τ : kS} {n R S C : Nat} (h : cJ σ n R S C) (e : ∀ c, c ≠ 13 → c ≠ 19 → τ c = σ c) (e13 : ∀ j, j ≠ 10 → τ 13 j = σ 13 j) (hk : cKn τ) : cJ τ n R S C := by
  obtain ⟨h1, h2, h3, h4, h5, h6, h7, h8, h9, h10, h11⟩ := h
  have hcl : cCl τ C := cCl_eq (e13 _ (by decide)) (fun c c1 c2 => e c (by omega) (by omega)) h4
  have := cJ_lo (R' := R) ⟨h1, h2, h3, h4, h5, h6, h7, h8, h9, h10, h11⟩ (τ := va_up (va_up τ 13 (σ 13)) 19 (σ 19)) (fun c hc => ?_) (fun j _ => ?_) ?_ (Nat.le_refl _)
  · obtain ⟨g1, g2, g3, g4, g5, g6, g7, g8, g9, g10, g11⟩ := this
    exact ⟨g1, ⟨g2.1, (e13 _ (by decide)).trans h2.2.1, fun r hr => cR1_eq (fun c c1 c2 => e c (by omega) (by omega)) (h2.2.2 r hr)⟩, ⟨g3.1, (e13 _ (by decide)).trans h3.2.1, g3.2.2.1, g3.2.2.2⟩, hcl, hk, g6, g7, g8, g9, g10, g11⟩
  · by_cases q : c = 19
    · subst q
      exact up_eq
    · rw [up_ne q]
      by_cases q2 : c = 13
      · subst q2
        exact up_eq
      · rw [up_ne q2, e c q2 q]
  · rw [up_ne (by decide), up_eq]
  · refine ⟨h2.1, by rw [up_ne (by decide), up_eq]; exact h2.2.1, fun r hr => ?_⟩
    have hR4 := h2.1
    exact cR1_eq (fun c c1 c2 => by rw [up_ne (by omega), up_ne (by omega), e c (by omega) (by omega)]) (h2.2.2 r hr)
set_option maxRecDepth 100000 in
set_option maxHeartbeats 4000000 in
theorem mk_know (L : Nat) (xs : Nat → Int32) (d : Nat) (σ : kS) (n R S C : Nat) (x : Int32) (h : cJ σ n R S C) : kXM kT L xs (d + 4) 117 [.ref 0, .int x] σ (fun r σ' => (∃ x, r = some (.int x)) ∧ cAfter σ σ' R) := by
  have hT := h.1
  have hn := hT.1
  obtain ⟨k, hk, hkn⟩ := h.2.2.2.2.1
  unfold kXM
  iterate 3 (refine kX_one rfl ?_)
  refine kX_cal (mc_has L xs (d + 2) σ n x hn hT.2.1) rfl (Or.inr rfl) rfl rfl rfl (fun r1 σ1 q1 => ?_)
  obtain ⟨rfl, rfl⟩ := q1
  repeat refine kX_one rfl ?_
  refine kX_if (fun q => ?_) (fun q => ?_)
  · obtain ⟨t, ht, rfl⟩ := isB_ne.mp (qne q)
    repeat refine kX_one rfl ?_
    refine kX_if (fun q2 => ?_) (fun q2 => ?_)
    · iterate 3 (refine kX_one rfl ?_)
      refine kX_top (hkn) ?_
      iterate 1 (refine kX_one rfl ?_)
      repeat refine kX_one rfl ?_
      refine kX_if (fun q3 => ?_) (fun q3 => ?_)
      · have q3 := qlt q3 k 20
        iterate 4 (refine kX_one rfl ?_)
        refine kX_baldN rfl rfl (by decide) (t) (by first | rfl | decide) (by omega) ?_
        repeat refine kX_one rfl ?_
        refine kX_if (fun q4 => ?_) (fun q4 => ?_)
        · repeat refine kX_one rfl ?_
          refine kX_ret (i := .ireturn) (len := 1) rfl (Or.inr rfl) rfl (⟨⟨_, rfl⟩, cAfter_same h⟩)
        · iterate 3 (refine kX_one rfl ?_)
          refine kX_cal (mc_isKnown L xs (d + 2) σ k (nI t) hk hkn) rfl (Or.inr rfl) rfl rfl rfl (fun r1 σ1 q1 => ?_)
          obtain ⟨hq, rfl⟩ := q1
          rcases hq with rfl | rfl
          · iterate 3 (refine kX_one rfl ?_)
            refine kX_cal (mc_forget L xs d σ) rfl (Or.inr rfl) rfl rfl rfl (fun r1 ρ q1 => ?_)
            obtain ⟨rfl, g1, g2, -, -, g3⟩ := q1
            have h2 := cJ_sr h g3 (cSr_0 g1 g2)
            have hkn2 : ρ 13 10 = nI k := by
              rw [g3 13 (by decide) (by decide) (by decide)]
              exact hkn
            iterate 3 (refine kX_one rfl ?_)
            have hle : kXM kT L xs (d + 3) 13 [.ref 13, .int (nI t)] ρ (fun r σ' => (∃ x, r = some (.int x)) ∧ σ' = va_up (va_up ρ 19 (upd (ρ 19) k (nI t))) 13 (upd (ρ 13) 10 (nI (k + 1)))) := by
              unfold kXM
              iterate 2 (refine kX_one rfl ?_)
              refine kX_top (hkn2) ?_
              iterate 1 (refine kX_one rfl ?_)
              repeat refine kX_one rfl ?_
              refine kX_if (fun q5 => ?_) (fun q5 => ?_)
              · have q5 := qge q5 k 20
                omega
              · iterate 4 (refine kX_one rfl ?_)
                refine kX_top (hkn2) ?_
                iterate 1 (refine kX_one rfl ?_)
                refine kX_iastN rfl rfl (by decide) (k) (by first | rfl | decide) (by omega) ?_
                iterate 3 (refine kX_one rfl ?_)
                refine kX_top (hkn2) ?_
                iterate 3 (refine kX_one rfl ?_)
                refine kX_st (va_up (va_up ρ 19 (upd (ρ 19) k (nI t))) 13 (upd (ρ 13) 10 (nI (k + 1)))) (by rw [← nI_1]; rfl) ?_
                repeat refine kX_one rfl ?_
                refine kX_ret (i := .ireturn) (len := 1) rfl (Or.inr rfl) rfl (⟨⟨_, rfl⟩, rfl⟩)
            refine kX_cal hle rfl (Or.inr rfl) rfl rfl rfl (fun r1 τ q1 => ?_)
            obtain ⟨⟨w, rfl⟩, rfl⟩ := q1
            refine kX_ret (i := .ireturn) (len := 1) rfl (Or.inr rfl) rfl ⟨⟨_, rfl⟩, fun c hc => ?_, n, S, C, cJ_kn h2 (fun c c1 c2 => ?_) (fun j hj => pk_un hj) ⟨k + 1, q3, rfl⟩⟩
            · rw [up_ne (by omega), up_ne (by omega)]
              exact g3 c (by omega) (by omega) (by omega)
            · rw [up_ne c1, up_ne c2]
          · repeat refine kX_one rfl ?_
            refine kX_ret (i := .ireturn) (len := 1) rfl (Or.inr rfl) rfl (⟨⟨_, rfl⟩, cAfter_same h⟩)
      · repeat refine kX_one rfl ?_
        refine kX_ret (i := .ireturn) (len := 1) rfl (Or.inr rfl) rfl (⟨⟨_, rfl⟩, cAfter_same h⟩)
    · repeat refine kX_one rfl ?_
      refine kX_ret (i := .ireturn) (len := 1) rfl (Or.inr rfl) rfl (⟨⟨_, rfl⟩, cAfter_same h⟩)
  · repeat refine kX_one rfl ?_
    refine kX_ret (i := .ireturn) (len := 1) rfl (Or.inr rfl) rfl (⟨⟨_, rfl⟩, cAfter_same h⟩)
