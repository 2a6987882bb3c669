/-! the class: variable, CLAIMS -/
set_option maxRecDepth 100000 in
set_option maxHeartbeats 4000000 in
theorem mc_maySort (L : Nat) (xs : Nat → Int32) (d : Nat) (σ : kS) (x y : Int32) : kXM kT L xs (d + 1) 141 [.int x, .int y] σ (fun r σ' => ((r = some (.int 0)) ∨ (r = some (.int 1) ∧ ∃ so, so ≤ 3 ∧ y = nI so ∧ (x = 1 → so ≤ 2))) ∧ σ = σ') := by
  unfold kXM
  by_cases hy : ∃ k, k < 3 ∧ x = nI k
  · obtain ⟨k, hk, rfl⟩ := hy
    have : k = 0 ∨ k = 1 ∨ k = 2 := by omega
    rcases this with rfl | rfl | rfl
    · repeat refine kX_one rfl ?_
      refine kX_if (fun q => ?_) (fun q => ?_)
      · repeat refine kX_one rfl ?_
        refine kX_ret (i := .ireturn) (len := 1) rfl (Or.inr rfl) rfl (⟨Or.inl rfl, rfl⟩)
      · have q : y = 0 := qneF q
        repeat refine kX_one rfl ?_
        refine kX_ret (i := .ireturn) (len := 1) rfl (Or.inr rfl) rfl (⟨Or.inr ⟨rfl, 0, by omega, q, fun _ => by omega⟩, rfl⟩)
    · repeat refine kX_one rfl ?_
      refine kX_if (fun q => ?_) (fun q => ?_)
      · have q : y = 1 := qeq q
        repeat refine kX_one rfl ?_
        refine kX_ret (i := .ireturn) (len := 1) rfl (Or.inr rfl) rfl (⟨Or.inr ⟨rfl, 1, by omega, q, fun _ => by omega⟩, rfl⟩)
      · repeat refine kX_one rfl ?_
        refine kX_if (fun q2 => ?_) (fun q2 => ?_)
        · repeat refine kX_one rfl ?_
          refine kX_ret (i := .ireturn) (len := 1) rfl (Or.inr rfl) rfl (⟨Or.inl rfl, rfl⟩)
        · have q2 : y = 2 := qneF q2
          repeat refine kX_one rfl ?_
          refine kX_ret (i := .ireturn) (len := 1) rfl (Or.inr rfl) rfl (⟨Or.inr ⟨rfl, 2, by omega, q2, fun _ => by omega⟩, rfl⟩)
    · repeat refine kX_one rfl ?_
      refine kX_if (fun q => ?_) (fun q => ?_)
      · repeat refine kX_one rfl ?_
        refine kX_ret (i := .ireturn) (len := 1) rfl (Or.inr rfl) rfl (⟨Or.inl rfl, rfl⟩)
      · have q : ¬ y < 0 := of_decide_eq_false q
        obtain ⟨so, hso, rfl⟩ := nI_of q
        repeat refine kX_one rfl ?_
        refine kX_if (fun q2 => ?_) (fun q2 => ?_)
        · repeat refine kX_one rfl ?_
          refine kX_ret (i := .ireturn) (len := 1) rfl (Or.inr rfl) rfl (⟨Or.inl rfl, rfl⟩)
        · have q2 := qgtF q2 so 3
          repeat refine kX_one rfl ?_
          refine kX_ret (i := .ireturn) (len := 1) rfl (Or.inr rfl) rfl (⟨Or.inr ⟨rfl, so, q2, rfl, fun z => absurd z (by decide)⟩, rfl⟩)
  · iterate 1 (refine kX_one rfl ?_)
    refine kX_tabO rfl (kp_out 3 (fun k hk e => hy ⟨k, hk, e⟩) (by decide)) rfl ?_
    repeat refine kX_one rfl ?_
    refine kX_ret (i := .ireturn) (len := 1) rfl (Or.inr rfl) rfl (⟨Or.inl rfl, rfl⟩)
def teS (σ : kS) (r v : Nat) (x y : Int32) : kS := va_up (va_up (va_up (va_up σ (24 + 35 * r) (upd (σ (24 + 35 * r)) v x)) (25 + 35 * r) (upd (σ (25 + 35 * r)) v y)) (26 + 35 * r) (upd (σ (26 + 35 * r)) v 0)) (23 + 35 * r) (upd (σ (23 + 35 * r)) 3 (nI (v + 1)))
theorem up_ne {σ : kS} {a c : Nat} {f : Nat → Int32} (h : c ≠ a) : va_up σ a f c = σ c := by
  unfold va_up
  rw [if_neg h]
theorem up_eq {σ : kS} {a : Nat} {f : Nat → Int32} : va_up σ a f a = f := by
  unfold va_up
  rw [if_pos rfl]
set_option maxRecDepth 100000 in
set_option maxHeartbeats 4000000 in
theorem mc_tell (L : Nat) (xs : Nat → Int32) (d : Nat) (σ : kS) (r v : Nat) (x y : Int32) (hr : r < 4) (hv : v < 6) (h : σ (23 + 35 * r) 3 = nI v) : kXM kT L xs (d + 1) 61 [.ref (23 + 35 * r), .int x, .int y] σ (fun q σ' => q = none ∧ σ' = teS σ r v x y) := by
  unfold kXM
  iterate 1 (refine kX_one rfl ?_)
  refine kX_getN rfl rfl (kT_ro hr) rfl ?_
  refine kX_top (h) ?_
  iterate 1 (refine kX_one rfl ?_)
  repeat refine kX_one rfl ?_
  refine kX_if (fun q => ?_) (fun q => ?_)
  · have q := qge q v 6
    omega
  · iterate 1 (refine kX_one rfl ?_)
    refine kX_getN rfl rfl (kT_ro hr) rfl ?_
    iterate 1 (refine kX_one rfl ?_)
    refine kX_getN rfl rfl (kT_ro hr) rfl ?_
    refine kX_top (h) ?_
    iterate 1 (refine kX_one rfl ?_)
    refine kX_iastN rfl (kT_ra hr) (by decide) (v) (by first | rfl | decide) (hv) ?_
    iterate 1 (refine kX_one rfl ?_)
    refine kX_getN rfl rfl (kT_ro hr) rfl ?_
    iterate 1 (refine kX_one rfl ?_)
    refine kX_getN rfl rfl (kT_ro hr) rfl ?_
    refine kX_top (y := nI v) (by rw [up_ne (by omega)]; exact h) ?_
    iterate 1 (refine kX_one rfl ?_)
    refine kX_iastN rfl (kT_rs hr) (by decide) (v) (by first | rfl | decide) (hv) ?_
    iterate 1 (refine kX_one rfl ?_)
    refine kX_getN rfl rfl (kT_ro hr) rfl ?_
    iterate 1 (refine kX_one rfl ?_)
    refine kX_getN rfl rfl (kT_ro hr) rfl ?_
    refine kX_top (y := nI v) (by rw [up_ne (by omega), up_ne (by omega)]; exact h) ?_
    iterate 1 (refine kX_one rfl ?_)
    refine kX_bastN rfl (kT_rr hr) (by decide) (v) (by first | rfl | decide) (hv) (Or.inl rfl) ?_
    iterate 2 (refine kX_one rfl ?_)
    refine kX_getN rfl rfl (kT_ro hr) rfl ?_
    refine kX_top (y := nI v) (by rw [up_ne (by omega), up_ne (by omega), up_ne (by omega)]; exact h) ?_
    iterate 2 (refine kX_one rfl ?_)
    refine kX_putN rfl rfl (kT_ro hr) rfl (rfl) rfl ?_
    refine kX_ret (i := .return_) (len := 1) rfl (Or.inr rfl) rfl ⟨rfl, ?_⟩
    unfold teS
    rw [← nI_1]
    funext c
    by_cases e3 : c = 23 + 35 * r
    · subst e3
      rw [up_eq, up_eq, up_ne (by omega), up_ne (by omega), up_ne (by omega)]
      rfl
    · rw [up_ne e3, up_ne e3]
      by_cases e2 : c = 26 + 35 * r
      · subst e2
        rw [up_eq, up_eq, up_ne (by omega), up_ne (by omega)]
        rfl
      · rw [up_ne e2, up_ne e2]
        by_cases e1 : c = 25 + 35 * r
        · subst e1
          rw [up_eq, up_eq, up_ne (by omega)]
        · rw [up_ne e1, up_ne e1]
set_option maxRecDepth 100000 in
set_option maxHeartbeats 4000000 in
theorem mk_variable (L : Nat) (xs : Nat → Int32) (d : Nat) (σ : kS) (n R S C : Nat) (x y z : Int32) (h : cJ σ n R S C) : kXM kT L xs (d + 5) 115 [.ref 0, .int x, .int y, .int z] σ (fun r σ' => (∃ x, r = some (.int x)) ∧ cAfter σ σ' R) := by
  have hT := h.1
  have hn := hT.1
  have hR := h.2.1
  have hR4 := hR.1
  unfold kXM
  iterate 3 (refine kX_one rfl ?_)
  refine kX_cal (mc_hasRole L xs (d + 3) σ R x hR4 hR.2.1) rfl (Or.inr rfl) rfl rfl rfl (fun r1 σ1 q1 => ?_)
  obtain ⟨rfl, rfl⟩ := q1
  repeat refine kX_one rfl ?_
  refine kX_if (fun q => ?_) (fun q => ?_)
  · obtain ⟨r, hr, rfl⟩ := isB_ne.mp (qne q)
    have hr4 : r < 4 := by omega
    obtain ⟨v, ev, v1, e1, v2, e2, so1, ev1⟩ := hR.2.2 r hr
    iterate 2 (refine kX_one rfl ?_)
    refine kX_cal (mc_maySort L xs (d + 3) σ y z) rfl (Or.inr rfl) rfl rfl rfl (fun r1 σ1 q1 => ?_)
    obtain ⟨hq, rfl⟩ := q1
    rcases hq with rfl | ⟨rfl, so, s1, rfl, s2⟩
    · repeat refine kX_one rfl ?_
      refine kX_ret (i := .ireturn) (len := 1) rfl (Or.inr rfl) rfl (⟨⟨_, rfl⟩, cAfter_same h⟩)
    · iterate 5 (refine kX_one rfl ?_)
      refine kX_aaldN rfl (rfl) (by decide) (by decide) (by decide) (r) (by first | rfl | decide) (hr4) (ro_at hr4) ?_
      iterate 2 (refine kX_one rfl ?_)
      refine kX_getN rfl rfl (kT_ro hr4) rfl ?_
      repeat refine kX_one rfl ?_
      refine kX_if (fun q2 => ?_) (fun q2 => ?_)
      · iterate 1 (refine kX_one rfl ?_)
        refine kX_getN rfl rfl (kT_ro hr4) rfl ?_
        refine kX_top (v2) ?_
        iterate 1 (refine kX_one rfl ?_)
        repeat refine kX_one rfl ?_
        refine kX_if (fun q3 => ?_) (fun q3 => ?_)
        · repeat refine kX_one rfl ?_
          refine kX_ret (i := .ireturn) (len := 1) rfl (Or.inr rfl) rfl (⟨⟨_, rfl⟩, cAfter_same h⟩)
        · have q3 := qgeF q3 v 6
          iterate 2 (refine kX_one rfl ?_)
          refine kX_cal (mc_isFull L xs (d + 3) σ n hn hT.2.1) rfl (Or.inr rfl) rfl rfl rfl (fun r1 σ1 q1 => ?_)
          obtain ⟨rfl, rfl⟩ := q1
          repeat refine kX_one rfl ?_
          refine kX_if (fun q4 => ?_) (fun q4 => ?_)
          · have q4 : ¬ n = 200 := fun z => isB_ne.mpr z (qeq q4)
            iterate 4 (refine kX_one rfl ?_)
            refine kX_getN rfl rfl (kT_ro hr4) rfl ?_
            refine kX_top (v2) ?_
            iterate 1 (refine kX_one rfl ?_)
            refine kX_cal (mc_newVariable L xs d σ n v (nI r) (nI so) hT q3) rfl (Or.inr rfl) rfl rfl rfl (fun r1 σ1 q1 => ?_)
            rcases q1 with ⟨hh, -⟩ | ⟨hlt, rfl, g1, g2⟩
            · exact absurd hh q4
            · have h2 := cJ_gr h g2 (by omega) g1
              have ec : ∀ c, 13 ≤ c → σ1 c = σ c := fun c hc => g2.1 c (fun q => by have := tC_lt q; omega)
              have hvc : σ1 (23 + 35 * r) 3 = nI v := by
                rw [ec _ (by omega)]
                exact v2
              iterate 4 (refine kX_one rfl ?_)
              refine kX_cal (mc_tell L xs (d + 3) σ1 r v y (nI so) hr4 q3 hvc) rfl (Or.inr rfl) rfl (jcall_v rfl rfl rfl (kT_ro hr4) rfl rfl) rfl (fun r1 σ1 q1 => ?_)
              obtain ⟨rfl, rfl⟩ := q1
              have hoth : ∀ c, c < 23 + 35 * r ∨ 58 + 35 * r ≤ c → teS σ1 r v y (nI so) c = σ1 c := fun c hc => by
                unfold teS
                rw [up_ne (by omega), up_ne (by omega), up_ne (by omega), up_ne (by omega)]
              repeat refine kX_one rfl ?_
              refine kX_ret (i := .ireturn) (len := 1) rfl (Or.inr rfl) rfl ⟨⟨_, rfl⟩, cHi_trans (cGr_hi g2) (fun c hc => hoth c (by omega)), n + 1, S, C, cJ_ro h2 hr hoth ?_⟩
              refine ⟨v + 1, ev, by omega, e1, ?_, ?_, fun k hk => ?_, fun k hk => ?_⟩
              · unfold teS
                rw [up_eq]
                rfl
              · unfold teS
                rw [up_eq]
                show σ1 (23 + 35 * r) 5 = _
                rw [ec _ (by omega)]
                exact e2
              · have e25 : teS σ1 r v y (nI so) (25 + 35 * r) = upd (σ1 (25 + 35 * r)) v (nI so) := by
                  unfold teS
                  rw [up_ne (by omega), up_ne (by omega), up_eq]
                have e24 : teS σ1 r v y (nI so) (24 + 35 * r) = upd (σ1 (24 + 35 * r)) v y := by
                  unfold teS
                  rw [up_ne (by omega), up_ne (by omega), up_ne (by omega), up_eq]
                rw [e25, e24]
                by_cases e : k = v
                · subst e
                  rw [pk_us, pk_us]
                  exact ⟨so, s1, rfl, s2⟩
                · rw [pk_un e, pk_un e, ec _ (by omega), ec _ (by omega)]
                  exact so1 k (by omega)
              · refine cE_up (σ := σ) (n := n) (by omega) (fun i hi => ?_) (ev1 k hk)
                have : teS σ1 r v y (nI so) (28 + 35 * r + 5 * k + i) = σ1 (28 + 35 * r + 5 * k + i) := by
                  unfold teS
                  rw [up_ne (by omega), up_ne (by omega), up_ne (by omega), up_ne (by omega)]
                rw [this, ec _ (by omega)]
          · repeat refine kX_one rfl ?_
            refine kX_ret (i := .ireturn) (len := 1) rfl (Or.inr rfl) rfl (⟨⟨_, rfl⟩, cAfter_same h⟩)
      · repeat refine kX_one rfl ?_
        refine kX_ret (i := .ireturn) (len := 1) rfl (Or.inr rfl) rfl (⟨⟨_, rfl⟩, cAfter_same h⟩)
  · repeat refine kX_one rfl ?_
    refine kX_ret (i := .ireturn) (len := 1) rfl (Or.inr rfl) rfl (⟨⟨_, rfl⟩, cAfter_same h⟩)
/-- CLAIMS change -/
theorem cJ_cl {σ τ : kS} {n R S C C' : Nat} (h : cJ σ n R S C) (e : ∀ c, c ≠ 13 → c < 163 ∨ 181 ≤ c → τ c = σ c) (e13 : ∀ j, j ≠ 8 → τ 13 j = σ 13 j) (hc : cCl τ C') : cJ τ n R S C' := by
  obtain ⟨h1, h2, h3, h4, h5, h6, h7, h8, h9, h10, h11⟩ := h
  have el : ∀ c, c < 13 → τ c = σ c := fun c hc => e c (by omega) (by omega)
  have eh : ∀ c, 181 ≤ c → τ c = σ c := fun c hc => e c (by omega) (by omega)
  have hg : ∀ z, z < n → τ 8 z = σ 8 z := fun z _ => by rw [el _ (by decide)]
  have hgt : ∀ g, 200 ≤ g → τ 2 g = σ 2 g ∧ τ 3 g = σ 3 g ∧ τ 4 g = σ 4 g ∧ τ 6 g = σ 6 g := fun g _ => by
    rw [el 2 (by decide), el 3 (by decide), el 4 (by decide), el 6 (by decide)]
    exact ⟨rfl, rfl, rfl, rfl⟩
  refine ⟨cT_eq (by rw [el 1 (by decide)]) (el _ (by decide)) (fun u _ => ?_) h1, ⟨h2.1, (e13 _ (by decide)).trans h2.2.1, fun r hr => ?_⟩, cSe_eq hg (e13 _ (by decide)) (e _ (by decide) (by decide)) (e _ (by decide) (by decide)) h3, hc, cKn_eq (e13 _ (by decide)) h5, cKw_eq (by decide) (eh _ (by decide)) (eh _ (by decide)) (eh _ (by decide)) hgt h6, cKw_eq (by decide) (eh _ (by decide)) (eh _ (by decide)) (eh _ (by decide)) hgt h7, cKw_eq (by decide) (eh _ (by decide)) (eh _ (by decide)) (eh _ (by decide)) hgt h8, cRu_eq hg (eh _ (by decide)) (eh _ (by decide)) (eh _ (by decide)) (by rw [eh 186 (by decide)]) (fun g g1 _ => ⟨(hgt g g1).2.1, (hgt g g1).2.2.1⟩) h9, cSr_eq hg (by rw [eh 196 (by decide)]) (eh _ (by decide)) (eh _ (by decide)) (eh _ (by decide)) (by rw [eh 195 (by decide)]) (eh _ (by decide)) h10, cQ_eq (eh _ (by decide)) (eh _ (by decide)) h11⟩
  · rw [el 2 (by decide), el 3 (by decide), el 4 (by decide), el 8 (by decide), el 12 (by decide), el 6 (by decide)]
    exact ⟨rfl, rfl, rfl, rfl, rfl, rfl⟩
  · have hr4 := h2.1
    exact cR1_eq (fun c c1 c2 => e c (by omega) (by omega)) (h2.2.2 r hr)
set_option maxRecDepth 100000 in
set_option maxHeartbeats 4000000 in
theorem mc_newClaim (L : Nat) (xs : Nat → Int32) (d : Nat) (σ : kS) (n R S C : Nat) (b x y z : Int32) (hb : b = 0 ∨ (b = 1 ∧ ∃ v, v < 6 ∧ z = nI v)) (h : cJ σ n R S C) (hC : C < 6) : kXM kT L xs (d + 1) 15 [.ref 13, .int b, .int x, .int y, .int z] σ (fun r σ' => (∃ x, r = some (.int x)) ∧ cAfter σ σ' R) := by
  have hc := h.2.2.2.1
  unfold kXM
  iterate 2 (refine kX_one rfl ?_)
  refine kX_top (hc.2.1) ?_
  iterate 1 (refine kX_one rfl ?_)
  repeat refine kX_one rfl ?_
  refine kX_if (fun q => ?_) (fun q => ?_)
  · iterate 4 (refine kX_one rfl ?_)
    refine kX_top (hc.2.1) ?_
    refine kX_aaldN rfl (rfl) (by decide) (by decide) (by decide) (C) (by first | rfl | decide) (hC) (cl_at hC) ?_
    iterate 3 (refine kX_one rfl ?_)
    refine kX_putN rfl rfl (kT_cl hC) rfl (by rcases hb with rfl | ⟨rfl, -⟩ <;> rfl) rfl ?_
    iterate 2 (refine kX_one rfl ?_)
    refine kX_putN rfl rfl (kT_cl hC) rfl (rfl) rfl ?_
    iterate 2 (refine kX_one rfl ?_)
    refine kX_putN rfl rfl (kT_cl hC) rfl (rfl) rfl ?_
    iterate 2 (refine kX_one rfl ?_)
    refine kX_putN rfl rfl (kT_cl hC) rfl (rfl) rfl ?_
    iterate 2 (refine kX_one rfl ?_)
    refine kX_putN rfl rfl (kT_cl hC) rfl (rfl) rfl ?_
    refine kX_st (va_up σ (163 + 3 * C) (upd (upd (upd (upd (upd (σ (163 + 3 * C)) 0 b) 1 x) 2 y) 3 z) 6 0)) ?_ ?_
    · rw [kup_up, kup_up, kup_up, kup_up]
      simp only [up_eq]
      rfl
    have h13 : va_up σ (163 + 3 * C) (upd (upd (upd (upd (upd (σ (163 + 3 * C)) 0 b) 1 x) 2 y) 3 z) 6 0) 13 = σ 13 := up_ne (by omega)
    have hC0 : va_up σ (163 + 3 * C) (upd (upd (upd (upd (upd (σ (163 + 3 * C)) 0 b) 1 x) 2 y) 3 z) 6 0) (163 + 3 * C) = upd (upd (upd (upd (upd (σ (163 + 3 * C)) 0 b) 1 x) 2 y) 3 z) 6 0 := up_eq
    have hoth : ∀ c, c ≠ 163 + 3 * C → va_up σ (163 + 3 * C) (upd (upd (upd (upd (upd (σ (163 + 3 * C)) 0 b) 1 x) 2 y) 3 z) 6 0) c = σ c := fun c hc => up_ne hc
    generalize va_up σ (163 + 3 * C) (upd (upd (upd (upd (upd (σ (163 + 3 * C)) 0 b) 1 x) 2 y) 3 z) 6 0) = ρ at *
    iterate 3 (refine kX_one rfl ?_)
    refine kX_top (y := nI C) (by rw [h13]; exact hc.2.1) ?_
    iterate 3 (refine kX_one rfl ?_)
    refine kX_st (va_up ρ 13 (upd (ρ 13) 8 (nI (C + 1)))) (by rw [← nI_1]; rfl) ?_
    repeat refine kX_one rfl ?_
    refine kX_ret (i := .ireturn) (len := 1) rfl (Or.inr rfl) rfl ⟨⟨_, rfl⟩, fun c hc => ?_, n, S, C + 1, cJ_cl h (fun c c1 c2 => ?_) (fun j hj => ?_) ⟨by omega, rfl, fun c hc' => ?_⟩⟩
    · rw [up_ne (by omega), hoth c (by omega)]
    · rw [up_ne c1, hoth c (by omega)]
    · show upd (ρ 13) 8 (nI (C + 1)) j = _
      rw [pk_un hj, h13]
    · rw [up_ne (by omega), up_ne (by omega), up_ne (by omega)]
      by_cases e : c = C
      · subst e
        rw [hC0]
        refine ⟨fun hs => ?_, 0, by omega, rfl, fun i hi => absurd hi (Nat.not_lt_zero i)⟩
        rcases hb with rfl | ⟨rfl, v, v1, v2⟩
        · exact absurd rfl hs
        · exact ⟨v, v1, v2⟩
      · rw [hoth _ (by omega), hoth _ (by omega), hoth _ (by omega)]
        exact hc.2.2 c (by omega)
  · have q := qltF q C 6
    omega
set_option maxRecDepth 100000 in
set_option maxHeartbeats 4000000 in
theorem mk_secret (L : Nat) (xs : Nat → Int32) (d : Nat) (σ : kS) (n R S C : Nat) (x y : Int32) (h : cJ σ n R S C) : kXM kT L xs (d + 3) 119 [.ref 0, .int x, .int y] σ (fun r σ' => (∃ x, r = some (.int x)) ∧ cAfter σ σ' R) := by
  have hc := h.2.2.2.1
  have hC6 := hc.1
  unfold kXM
  iterate 4 (refine kX_one rfl ?_)
  refine kX_cal (mc_hasVariable L xs d σ n R x y h.2.1) rfl (Or.inr rfl) rfl rfl rfl (fun r1 σ1 q1 => ?_)
  obtain ⟨rfl, rfl⟩ := q1
  repeat refine kX_one rfl ?_
  refine kX_if (fun q => ?_) (fun q => ?_)
  · obtain ⟨ro, v, -, -, v6, rfl, -⟩ := isB_ne.mp (qne q)
    iterate 3 (refine kX_one rfl ?_)
    refine kX_top (hc.2.1) ?_
    iterate 1 (refine kX_one rfl ?_)
    repeat refine kX_one rfl ?_
    refine kX_if (fun q2 => ?_) (fun q2 => ?_)
    · have q2 := qlt q2 C 6
      iterate 6 (refine kX_one rfl ?_)
      refine kX_cal (mc_newClaim L xs (d + 1) σ n R S C 1 x x (nI v) (Or.inr ⟨rfl, v, v6, rfl⟩) h q2) rfl (Or.inr rfl) rfl rfl rfl (fun r1 σ1 q1 => ?_)
      obtain ⟨⟨z, rfl⟩, hA⟩ := q1
      refine kX_ret (i := .ireturn) (len := 1) rfl (Or.inr rfl) rfl (⟨⟨_, rfl⟩, hA⟩)
    · repeat refine kX_one rfl ?_
      refine kX_ret (i := .ireturn) (len := 1) rfl (Or.inr rfl) rfl (⟨⟨_, rfl⟩, cAfter_same h⟩)
  · repeat refine kX_one rfl ?_
    refine kX_ret (i := .ireturn) (len := 1) rfl (Or.inr rfl) rfl (⟨⟨_, rfl⟩, cAfter_same h⟩)
set_option maxRecDepth 100000 in
set_option maxHeartbeats 4000000 in
theorem mk_agree (L : Nat) (xs : Nat → Int32) (d : Nat) (σ : kS) (n R S C : Nat) (x y z : Int32) (h : cJ σ n R S C) : kXM kT L xs (d + 3) 120 [.ref 0, .int x, .int y, .int z] σ (fun r σ' => (∃ x, r = some (.int x)) ∧ cAfter σ σ' R) := by
  have hc := h.2.2.2.1
  have hC6 := hc.1
  have hR := h.2.1
  unfold kXM
  have k22 : kX kT L xs (d + 3) 120 22 (lv_args 0 [.ref 0, .int x, .int y, .int z]) [] σ (fun r σ' => (∃ x, r = some (.int x)) ∧ cAfter σ σ' R) := by
    repeat refine kX_one rfl ?_
    refine kX_ret (i := .ireturn) (len := 1) rfl (Or.inr rfl) rfl (⟨⟨_, rfl⟩, cAfter_same h⟩)
  have k34 : kX kT L xs (d + 3) 120 34 (lv_args 0 [.ref 0, .int x, .int y, .int z]) [] σ (fun r σ' => (∃ x, r = some (.int x)) ∧ cAfter σ σ' R) := by
    repeat refine kX_one rfl ?_
    refine kX_ret (i := .ireturn) (len := 1) rfl (Or.inr rfl) rfl (⟨⟨_, rfl⟩, cAfter_same h⟩)
  iterate 3 (refine kX_one rfl ?_)
  refine kX_cal (mc_hasRole L xs (d + 1) σ R x hR.1 hR.2.1) rfl (Or.inr rfl) rfl rfl rfl (fun r1 σ1 q1 => ?_)
  obtain ⟨rfl, rfl⟩ := q1
  repeat refine kX_one rfl ?_
  refine kX_if (fun q => ?_) (fun q => ?_)
  · exact k22
  · iterate 3 (refine kX_one rfl ?_)
    refine kX_cal (mc_hasRole L xs (d + 1) σ R y hR.1 hR.2.1) rfl (Or.inr rfl) rfl rfl rfl (fun r1 σ1 q1 => ?_)
    obtain ⟨rfl, rfl⟩ := q1
    repeat refine kX_one rfl ?_
    refine kX_if (fun q2 => ?_) (fun q2 => ?_)
    · repeat refine kX_one rfl ?_
      refine kX_if (fun q3 => ?_) (fun q3 => ?_)
      · exact k34
      · repeat refine kX_one rfl ?_
        refine kX_if (fun q4 => ?_) (fun q4 => ?_)
        · iterate 3 (refine kX_one rfl ?_)
          refine kX_top (hc.2.1) ?_
          iterate 1 (refine kX_one rfl ?_)
          repeat refine kX_one rfl ?_
          refine kX_if (fun q5 => ?_) (fun q5 => ?_)
          · have q5 := qlt q5 C 6
            iterate 6 (refine kX_one rfl ?_)
            refine kX_cal (mc_newClaim L xs (d + 1) σ n R S C 0 x y z (Or.inl rfl) h q5) rfl (Or.inr rfl) rfl rfl rfl (fun r1 σ1 q1 => ?_)
            obtain ⟨⟨z, rfl⟩, hA⟩ := q1
            refine kX_ret (i := .ireturn) (len := 1) rfl (Or.inr rfl) rfl (⟨⟨_, rfl⟩, hA⟩)
          · repeat refine kX_one rfl ?_
            refine kX_ret (i := .ireturn) (len := 1) rfl (Or.inr rfl) rfl (⟨⟨_, rfl⟩, cAfter_same h⟩)
        · exact k34
    · exact k22
