/-! alike: join -/
set_option maxRecDepth 100000 in
set_option maxHeartbeats 4000000 in
theorem mf_tie (L : Nat) (xs : Nat → Int32) (d : Nat) (σ : kS) (c j x y : Nat) (hc : c < 6) (hj : j < 4) (h : σ (163 + 3 * c) 6 = nI j) : kXM kT L xs (d + 1) 39 [.ref (163 + 3 * c), .int (nI x), .int (nI y)] σ (fun q σ' => q = some (.int (nI (j + 1))) ∧ σ' = va_up (va_up (va_up σ (164 + 3 * c) (upd (σ (164 + 3 * c)) j (nI x))) (165 + 3 * c) (upd (σ (165 + 3 * c)) j (nI y))) (163 + 3 * c) (upd (σ (163 + 3 * c)) 6 (nI (j + 1)))) := by
  unfold kXM
  iterate 1 (refine kX_one rfl ?_)
  refine kX_getN rfl rfl (kT_cl hc) rfl ?_
  refine kX_top (h) ?_
  iterate 1 (refine kX_one rfl ?_)
  repeat refine kX_one rfl ?_
  refine kX_if (fun q => ?_) (fun q => ?_)
  · have q := qge q j 4
    omega
  · iterate 1 (refine kX_one rfl ?_)
    refine kX_getN rfl rfl (kT_cl hc) rfl ?_
    iterate 1 (refine kX_one rfl ?_)
    refine kX_getN rfl rfl (kT_cl hc) rfl ?_
    refine kX_top (h) ?_
    iterate 1 (refine kX_one rfl ?_)
    refine kX_iastN rfl ((kT_c1 hc).1) (by decide) (j) (by first | rfl | decide) (hj) ?_
    iterate 1 (refine kX_one rfl ?_)
    refine kX_getN rfl rfl (kT_cl hc) rfl ?_
    iterate 1 (refine kX_one rfl ?_)
    refine kX_getN rfl rfl (kT_cl hc) rfl ?_
    refine kX_top (y := nI j) (by rw [up_ne (by omega)]; exact h) ?_
    iterate 1 (refine kX_one rfl ?_)
    refine kX_iastN rfl ((kT_c1 hc).2) (by decide) (j) (by first | rfl | decide) (hj) ?_
    iterate 2 (refine kX_one rfl ?_)
    refine kX_getN rfl rfl (kT_cl hc) rfl ?_
    refine kX_top (y := nI j) (by rw [up_ne (by omega), up_ne (by omega)]; exact h) ?_
    iterate 2 (refine kX_one rfl ?_)
    refine kX_putN rfl rfl (kT_cl hc) rfl (rfl) rfl ?_
    iterate 1 (refine kX_one rfl ?_)
    refine kX_getN rfl rfl (kT_cl hc) rfl ?_
    refine kX_top (y := nI (j + 1)) (by rw [up_eq]; exact pk_us.trans (nI_1 j)) ?_
    refine kX_ret (i := .ireturn) (len := 1) rfl (Or.inr rfl) rfl ⟨rfl, ?_⟩
    rw [← nI_1]
    funext e
    by_cases e3 : e = 163 + 3 * c
    · subst e3
      rw [up_eq, up_eq, up_ne (by omega), up_ne (by omega)]
      rfl
    · rw [up_ne e3, up_ne e3]
      by_cases e2 : e = 165 + 3 * c
      · subst e2
        rw [up_eq, up_eq, up_ne (by omega)]
      · rw [up_ne e2, up_ne e2]
set_option maxRecDepth 100000 in
set_option maxHeartbeats 4000000 in
theorem mg_joinT (L : Nat) (xs : Nat → Int32) (d : Nat) (σ : kS) (c j : Nat) (k k' : Int32) (hc : c < 6) (hj : j < 4) (e9 : σ 261 c = nI j) (Q : Option Value → kS → Prop) (hQ : Q (some (.int (nI (j + 1)))) (jnS σ c j k k')) : kX kT L xs (d + 1) 174 91 [(0, .ref 232), (1, .int (nI c)), (2, .int k), (3, .int k')] [] σ Q := by
  repeat refine kX_one rfl ?_
  refine kX_ialdV rfl rfl (by decide) (c) (by first | rfl | decide) (by omega) (e9) ?_
  repeat refine kX_one rfl ?_
  refine kX_iastN rfl rfl (by decide) (4 * c + j) (ix4 c j) (by omega) ?_
  repeat refine kX_one rfl ?_
  refine kX_ialdV rfl rfl (by decide) (c) (by first | rfl | decide) (by omega) (e9) ?_
  repeat refine kX_one rfl ?_
  refine kX_iastN rfl rfl (by decide) (4 * c + j) (ix4 c j) (by omega) ?_
  repeat refine kX_one rfl ?_
  refine kX_ialdV rfl rfl (by decide) (c) (by first | rfl | decide) (by omega) (e9) ?_
  repeat refine kX_one rfl ?_
  refine kX_iastN rfl rfl (by decide) (c) (by first | rfl | decide) (by omega) ?_
  repeat refine kX_one rfl ?_
  refine kX_ialdN rfl rfl (by decide) (c) (by first | rfl | decide) (by omega) ?_
  refine kX_top (y := nI (j + 1)) (pk_us.trans (nI_1 j)) ?_
  refine kX_st (jnS σ c j k k') ?_ ?_
  · rw [jnS, nI_succ j]
    rfl
  refine kX_ret (i := .ireturn) (len := 1) rfl (Or.inr rfl) rfl (hQ)
set_option maxRecDepth 100000 in
set_option maxHeartbeats 4000000 in
theorem mg_join30 (L : Nat) (xs : Nat → Int32) (d : Nat) (σ : kS) (c p a j v w : Nat) (y z : Int32) (hc : c < 6) (hp : p < 4) (ha : a < 4) (hv6 : v ≤ 6) (hw6 : w ≤ 6) (hj4 : j ≤ 4) (e2 : σ 258 c = nI p) (e3 : σ 259 c = nI a) (e9 : σ 261 c = nI j) (hv : σ 244 p = nI v) (hw : σ 244 a = nI w) (Q : Option Value → kS → Prop) (hU : ¬ (isN y v ∧ isN z w) → Q (some (.int (-1))) σ) (hF : isN y v ∧ isN z w → j = 4 → Q (some (.int (-4))) σ) (hG : ∀ k k', k < v → y = nI k → k' < w → z = nI k' → j < 4 → Q (some (.int (nI (j + 1)))) (jnS σ c j (nI k) (nI k'))) : kX kT L xs (d + 1) 174 30 [(0, .ref 232), (1, .int (nI c)), (2, .int y), (3, .int z)] [] σ Q := by
  have k78 : ∀ k k', k < v → y = nI k → k' < w → z = nI k' → kX kT L xs (d + 1) 174 78 [(0, .ref 232), (1, .int (nI c)), (2, .int (nI k)), (3, .int (nI k'))] [] σ Q := by
    intro k k' hk ey hk' ez
    repeat refine kX_one rfl ?_
    refine kX_ialdV rfl rfl (by decide) (c) (by first | rfl | decide) (by omega) (e9) ?_
    repeat refine kX_one rfl ?_
    refine kX_if (fun q => ?_) (fun q => ?_)
    · have hj : j ≠ 4 := fun e => qne q (by rw [e]; rfl)
      exact mg_joinT L xs d σ c j (nI k) (nI k') (by omega) (by omega) e9 _ (hG k k' hk ey hk' ez (by omega))
    · have hj : j = 4 := nI_inj (qneF q)
      repeat refine kX_one rfl ?_
      refine kX_ret (i := .ireturn) (len := 1) rfl (Or.inr rfl) rfl (hF ⟨⟨k, hk, ey⟩, k', hk', ez⟩ hj)
  have k53 : ∀ k, k < v → y = nI k → kX kT L xs (d + 1) 174 53 [(0, .ref 232), (1, .int (nI c)), (2, .int (nI k)), (3, .int z)] [] σ Q := by
    intro k hk ey
    repeat refine kX_one rfl ?_
    refine kX_ialdV rfl rfl (by decide) (c) (by first | rfl | decide) (by omega) (e3) ?_
    refine kX_ialdV rfl rfl (by decide) (a) (by first | rfl | decide) (by omega) (hw) ?_
    repeat refine kX_one rfl ?_
    refine kX_cal (mr_in L xs d σ _ _ _) rfl (Or.inr rfl) rfl rfl rfl (fun r1 σ1 q1 => ?_)
    obtain ⟨rfl, rfl⟩ := q1
    rw [isB_dec]
    repeat refine kX_one rfl ?_
    refine kX_if (fun q => ?_) (fun q => ?_)
    · obtain ⟨q1, q2⟩ := isB_ne.mp (qne q)
      obtain ⟨k', hk', ez⟩ := (in_N (n := w) (by omega)).mp ⟨q1, q2⟩
      subst ez
      exact k78 k k' hk ey hk' rfl
    · have q := qneF q
      repeat refine kX_one rfl ?_
      refine kX_ret (i := .ireturn) (len := 1) rfl (Or.inr rfl) rfl (hU (fun e => isB_ne.mpr ((in_N (by omega)).mpr e.2) q))
  repeat refine kX_one rfl ?_
  refine kX_ialdV rfl rfl (by decide) (c) (by first | rfl | decide) (by omega) (e2) ?_
  refine kX_ialdV rfl rfl (by decide) (p) (by first | rfl | decide) (by omega) (hv) ?_
  repeat refine kX_one rfl ?_
  refine kX_cal (mr_in L xs d σ _ _ _) rfl (Or.inr rfl) rfl rfl rfl (fun r1 σ1 q1 => ?_)
  obtain ⟨rfl, rfl⟩ := q1
  rw [isB_dec]
  repeat refine kX_one rfl ?_
  refine kX_if (fun q => ?_) (fun q => ?_)
  · have q := qeq q
    repeat refine kX_one rfl ?_
    refine kX_ret (i := .ireturn) (len := 1) rfl (Or.inr rfl) rfl (hU (fun e => isB_ne.mpr ((in_N (by omega)).mpr e.1) q))
  · obtain ⟨q1, q2⟩ := isB_ne.mp (qeqF q)
    obtain ⟨k, hk, ey⟩ := (in_N (n := v) (by omega)).mp ⟨q1, q2⟩
    subst ey
    exact k53 k hk rfl
set_option maxRecDepth 100000 in
set_option maxHeartbeats 4000000 in
theorem mg_join (L : Nat) (xs : Nat → Int32) (d : Nat) (σ : kS) (n b R S C : Nat) (kl : List Nat) (x y z : Int32) (Q : Option Value → kS → Prop) (h : mI σ n b R S C kl) (hU : ¬ isN x C → Q (some (.int (-1))) σ) (hS : ∀ c, c < C → x = nI c → σ 257 c ≠ 0 → Q (some (.int (-3))) σ) (hV : ∀ c, c < C → x = nI c → σ 257 c = 0 → ¬ (hasV σ R (σ 258 c) y ∧ hasV σ R (σ 259 c) z) → Q (some (.int (-1))) σ) (hF : ∀ c, c < C → x = nI c → σ 257 c = 0 → hasV σ R (σ 258 c) y ∧ hasV σ R (σ 259 c) z → σ 261 c = nI 4 → Q (some (.int (-4))) σ)
    (hN : ∀ c j k k', c < C → x = nI c → σ 257 c = 0 → y = nI k → z = nI k' → hasV σ R (σ 258 c) y → hasV σ R (σ 259 c) z → σ 261 c = nI j → j < 4 → mI (jnS σ c j (nI k) (nI k')) n b R S C kl → Q (some (.int (nI (j + 1)))) (jnS σ c j (nI k) (nI k'))) : kXM kT L xs (d + 1) 174 [.ref 232, .int x, .int y, .int z] σ Q := by
  have h2 := h.2.1
  have hR4 := h2.1
  have h5 := h.2.2.2.2.1
  have hC6 := h5.1
  unfold kXM
  repeat refine kX_one rfl ?_
  refine kX_cal (mr_in L xs d σ _ _ _) rfl (Or.inr rfl) rfl rfl rfl (fun r1 σ1 q1 => ?_)
  obtain ⟨rfl, rfl⟩ := q1
  rw [isB_dec]
  repeat refine kX_one rfl ?_
  refine kX_if (fun q => ?_) (fun q => ?_)
  · obtain ⟨q1, q2⟩ := isB_ne.mp (qne q)
    have q2 : ¬ (σ 232 30 - 1).toInt64 < x.toInt64 := q2
    rw [h5.2.1] at q2
    obtain ⟨c, hc, rfl⟩ := (in_N (by omega)).mp ⟨q1, q2⟩
    obtain ⟨p, a, nn, j, e1, e2, e3, e4, e5, e6, e7, e8, e9, e10⟩ := h5.2.2 c hc
    repeat refine kX_one rfl ?_
    refine kX_baldN rfl rfl (by decide) (c) (by first | rfl | decide) (by omega) ?_
    repeat refine kX_one rfl ?_
    refine kX_if (fun q => ?_) (fun q => ?_)
    · have hs : σ 257 c = 0 := qeq q
      have haR := e5 hs
      obtain ⟨⟨v, hv6, hv⟩, -⟩ := h2.2.2.1 p e1
      obtain ⟨⟨w, hw6, hw⟩, -⟩ := h2.2.2.1 a haR
      have ev : hasV σ R (σ 258 c) y ↔ isN y v := by
        constructor
        · rintro ⟨r, u, r1, r2, u1, rfl⟩
          obtain rfl : p = r := nI_inj (e2.symm.trans r2)
          rw [hv, fN_nI (by omega)] at u1
          exact ⟨u, u1, rfl⟩
        · rintro ⟨u, u1, rfl⟩
          exact ⟨p, u, e1, e2, by rw [hv, fN_nI (by omega)]; exact u1, rfl⟩
      have ew : hasV σ R (σ 259 c) z ↔ isN z w := by
        constructor
        · rintro ⟨r, u, r1, r2, u1, rfl⟩
          obtain rfl : a = r := nI_inj (e3.symm.trans r2)
          rw [hw, fN_nI (by omega)] at u1
          exact ⟨u, u1, rfl⟩
        · rintro ⟨u, u1, rfl⟩
          exact ⟨a, u, haR, e3, by rw [hw, fN_nI (by omega)]; exact u1, rfl⟩
      refine mg_join30 L xs d σ c p a j v w y z (by omega) (by omega) (by omega) hv6 hw6 e8 e2 e3 e9 hv hw _ (fun q => hV c hc rfl hs (by rw [ev, ew]; exact q)) (fun q q2 => hF c hc rfl hs (by rw [ev, ew]; exact q) (by rw [e9, q2])) (fun k k' hk ey hk' ez hj => ?_)
      exact hN c j k k' hc rfl hs ey ez (ev.mpr ⟨k, hk, ey⟩) (ew.mpr ⟨k', hk', ez⟩) e9 hj (mI_jn h hc e9 hj e2 e1 e3 haR (by rw [hv, fN_nI (by omega)]; exact hk) (by rw [hw, fN_nI (by omega)]; exact hk'))
    · have q := qeqF q
      repeat refine kX_one rfl ?_
      refine kX_ret (i := .ireturn) (len := 1) rfl (Or.inr rfl) rfl (hS c hc rfl q)
  · have q := qneF q
    have hq : ¬ isN x C := fun e => by
      refine isB_ne.mpr ?_ q
      show ¬ x.toInt64 < (0 : Int32).toInt64 ∧ ¬ (σ 232 30 - 1).toInt64 < x.toInt64
      rw [h5.2.1]
      exact (in_N (by omega)).mpr e
    repeat refine kX_one rfl ?_
    refine kX_ret (i := .ireturn) (len := 1) rfl (Or.inr rfl) rfl (hU hq)
def tiS (σ : kS) (c j x y : Nat) : kS := va_up (va_up (va_up σ (164 + 3 * c) (upd (σ (164 + 3 * c)) j (nI x))) (165 + 3 * c) (upd (σ (165 + 3 * c)) j (nI y))) (163 + 3 * c) (upd (σ (163 + 3 * c)) 6 (nI (j + 1)))
theorem cJ_ti {σ : kS} {n R S C c j x y : Nat} (h : cJ σ n R S C) (hc : c < C) (hj : j < 4) (j2 : σ (163 + 3 * c) 6 = nI j) (hx : x < 6) (hy : y < 6) : cJ (tiS σ c j x y) n R S C := by
  have hcl := h.2.2.2.1
  have hC6 := hcl.1
  obtain ⟨a1, j', j1, j2', j3⟩ := hcl.2.2 c hc
  obtain rfl : j' = j := nI_inj (j2'.symm.trans j2)
  unfold tiS
  refine cJ_cl h (fun e e1 e2 => ?_) (fun k _ => ?_) ⟨hC6, ?_, fun c' hc' => ?_⟩
  · rw [up_ne (by omega), up_ne (by omega), up_ne (by omega)]
  · rw [up_ne (by omega), up_ne (by omega), up_ne (by omega)]
  · rw [up_ne (by omega), up_ne (by omega), up_ne (by omega)]
    exact hcl.2.1
  · by_cases e : c' = c
    · subst e
      rw [up_eq, up_ne (show 164 + 3 * c' ≠ 163 + 3 * c' by omega), up_ne (show 164 + 3 * c' ≠ 165 + 3 * c' by omega), up_eq, up_ne (show 165 + 3 * c' ≠ 163 + 3 * c' by omega), up_eq]
      refine ⟨a1, j' + 1, by omega, rfl, fun i hi => ?_⟩
      by_cases e : i = j'
      · subst e
        rw [pk_us, pk_us]
        exact ⟨⟨x, hx, rfl⟩, y, hy, rfl⟩
      · rw [pk_un e, pk_un e]
        exact j3 i (by omega)
    · rw [up_ne (show 163 + 3 * c' ≠ 163 + 3 * c by omega), up_ne (show 163 + 3 * c' ≠ 165 + 3 * c by omega), up_ne (show 163 + 3 * c' ≠ 164 + 3 * c by omega), up_ne (show 164 + 3 * c' ≠ 163 + 3 * c by omega), up_ne (show 164 + 3 * c' ≠ 165 + 3 * c by omega), up_ne (show 164 + 3 * c' ≠ 164 + 3 * c by omega), up_ne (show 165 + 3 * c' ≠ 163 + 3 * c by omega), up_ne (show 165 + 3 * c' ≠ 165 + 3 * c by omega), up_ne (show 165 + 3 * c' ≠ 164 + 3 * c by omega)]
      exact hcl.2.2 c' hc'
/-- a pair more is JOINED on both sides -/
theorem bJ_jn {σ : kS} {n b R S C m c j x y : Nat} {kl : List Nat} (h : aJ σ n b R S C kl m) (hc : c < C) (hj : j < 4) (hjo : σ 261 c = nI j) (hx : x < 6) (hy : y < 6) (hI : mI (jnS (tiS σ c j x y) c j (nI x) (nI y)) n b R S C kl) : bJ m (jnS (tiS σ c j x y) c j (nI x) (nI y)) := by
  have hC6 := h.1.2.2.2.2.1.1
  have j2 : σ (163 + 3 * c) 6 = nI j := ((h.2.2.2.2.2.1 c hc).2.2.2.2.1).trans hjo
  have hJ := cJ_ti h.2.1 hc hj j2 hx hy
  obtain ⟨i, -, t, r, s, cc, k, u, f, mm⟩ := h
  have e : ∀ e, e < 163 ∨ 181 ≤ e → tiS σ c j x y e = σ e := fun e he => by
    unfold tiS
    rw [up_ne (by omega), up_ne (by omega), up_ne (by omega)]
  have lo : ∀ e, e < 232 → jnS (tiS σ c j x y) c j (nI x) (nI y) e = tiS σ c j x y e := fun e he => by
    simp only [jnS, va_up]
    repeat rw [if_neg (by omega)]
  have hE : ∀ e, e < 163 ∨ (181 ≤ e ∧ e < 232) → jnS (tiS σ c j x y) c j (nI x) (nI y) e = σ e := fun e1 he => (lo e1 (by omega)).trans (e e1 (by omega))
  have hr : ∀ e1, 232 ≤ e1 → e1 ≠ 262 → e1 ≠ 263 → e1 ≠ 261 → jnS (tiS σ c j x y) c j (nI x) (nI y) e1 = σ e1 := fun e1 c1 c2 c3 c4 => by
    simp only [jnS, va_up]
    rw [if_neg c4, if_neg c3, if_neg c2]
    exact e e1 (by omega)
  have hq : ∀ l : List Nat, l.all (fun c => decide (232 ≤ c ∧ c ≠ 262 ∧ c ≠ 263 ∧ c ≠ 261)) = true → eqC σ (jnS (tiS σ c j x y) c j (nI x) (nI y)) l := fun l hl c hc => by
    have := of_decide_eq_true (List.all_eq_true.mp hl c hc)
    exact hr c this.1 this.2.1 this.2.2.1 this.2.2.2
  have h232 := hr 232 (by decide) (by decide) (by decide) (by decide)
  refine ⟨n, b, R, S, C, kl, hI, cJ_low lo hJ, aT_c (fun c c1 c2 => hE c (by omega)) (hq _ (by decide)) t, aR_c i.1 i.2.1 (fun c c1 c2 => hE c (by omega)) (hq _ (by decide)) r, aS_c i.1.1 i.2.1 i.2.2.1 (hE _ (by decide)) (hE _ (by decide)) (hE _ (by decide)) (hq _ (by decide)) s, fun c' hc' => ?_, aK_eq (by rw [hE 13 (by decide)]) (hE _ (by decide)) k, aU_c (fun c c1 c2 => hE c (by omega)) (fun c c1 c2 => hE c (by omega)) (hE _ (by decide)) (hq _ (by decide)) (by rw [h232]) (by rw [h232]) u, aF_c i.1 i.2.1 i.2.2.1 (fun c c1 c2 => hE c (by omega)) (hq _ (by decide)) (hE _ (by decide)) (hE _ (by decide)) (hE _ (by decide)) (hE _ (by decide)) ⟨by rw [h232], by rw [h232], by rw [h232], by rw [h232]⟩ (hq _ (by decide)) f, aM_eq (Nat.le_refl _) (fun c c1 c2 => hE c (by omega)) mm⟩
  have hCl := i.2.2.2.2.1
  obtain ⟨a1, a2, a3, a4, a5, a6⟩ := cc c' hc'
  have hs : jnS (tiS σ c j x y) c j (nI x) (nI y) 257 = σ 257 := hr _ (by decide) (by decide) (by decide) (by decide)
  have hcB : jnS (tiS σ c j x y) c j (nI x) (nI y) 258 = σ 258 := hr _ (by decide) (by decide) (by decide) (by decide)
  have hcA : jnS (tiS σ c j x y) c j (nI x) (nI y) 259 = σ 259 := hr _ (by decide) (by decide) (by decide) (by decide)
  have hcN : jnS (tiS σ c j x y) c j (nI x) (nI y) 260 = σ 260 := hr _ (by decide) (by decide) (by decide) (by decide)
  have ej : jnS (tiS σ c j x y) c j (nI x) (nI y) 261 = upd (σ 261) c (nI (j + 1)) := by
    show upd (tiS σ c j x y 261) c (nI (j + 1)) = _
    rw [e _ (by decide)]
  have ejB : jnS (tiS σ c j x y) c j (nI x) (nI y) 262 = upd (σ 262) (4 * c + j) (nI x) := by
    show upd (tiS σ c j x y 262) (4 * c + j) (nI x) = _
    rw [e _ (by decide)]
  have ejA : jnS (tiS σ c j x y) c j (nI x) (nI y) 263 = upd (σ 263) (4 * c + j) (nI y) := by
    show upd (tiS σ c j x y 263) (4 * c + j) (nI y) = _
    rw [e _ (by decide)]
  unfold aC1
  rw [hs, hcB, hcA, hcN, ej, ejB, ejA, lo _ (by omega), lo _ (by omega), lo _ (by omega)]
  unfold tiS
  by_cases e0 : c' = c
  · subst e0
    rw [up_eq, up_ne (show 164 + 3 * c' ≠ 163 + 3 * c' by omega), up_ne (show 164 + 3 * c' ≠ 165 + 3 * c' by omega), up_eq, up_ne (show 165 + 3 * c' ≠ 163 + 3 * c' by omega), up_eq, show upd (σ 261) c' (nI (j + 1)) c' = nI (j + 1) from pk_us, fN_nI (by omega)]
    refine ⟨a1, a2, a3, a4, rfl, fun i hi => ?_⟩
    by_cases e1 : i = j
    · subst e1
      rw [pk_us, pk_us, pk_us, pk_us]
      exact ⟨rfl, rfl⟩
    · rw [pk_un e1, pk_un e1, pk_un (by omega), pk_un (by omega)]
      exact a6 i (by rw [hjo, fN_nI (by omega)]; omega)
  · rw [up_ne (show 163 + 3 * c' ≠ 163 + 3 * c by omega), up_ne (show 163 + 3 * c' ≠ 165 + 3 * c by omega), up_ne (show 163 + 3 * c' ≠ 164 + 3 * c by omega), up_ne (show 164 + 3 * c' ≠ 163 + 3 * c by omega), up_ne (show 164 + 3 * c' ≠ 165 + 3 * c by omega), up_ne (show 164 + 3 * c' ≠ 164 + 3 * c by omega), up_ne (show 165 + 3 * c' ≠ 163 + 3 * c by omega), up_ne (show 165 + 3 * c' ≠ 165 + 3 * c by omega), up_ne (show 165 + 3 * c' ≠ 164 + 3 * c by omega), pk_un e0]
    refine ⟨a1, a2, a3, a4, a5, fun i hi => ?_⟩
    have hi4 : i < 4 := by
      obtain ⟨-, -, -, j0, -, -, -, -, -, -, -, q1, q2, -⟩ := hCl.2.2 c' hc'
      rw [q2, fN_nI (by omega)] at hi
      omega
    rw [pk_un (by omega), pk_un (by omega)]
    exact a6 i hi
set_option maxRecDepth 100000 in
set_option maxHeartbeats 4000000 in
theorem bo_join (L : Nat) (xs : Nat → Int32) (d d' m : Nat) (σ : kS) (x y z : Int32) (h : bJ m σ) : kXM kT L xs (d + 3) 121 [.ref 0, .int x, .int y, .int z] σ (fun r τ => ∃ z', r = some (.int z') ∧ kXM kT L xs (d' + 1) 174 [.ref 232, .int x, .int y, .int z] τ (fun r' ω => r' = some (.int z') ∧ bJ m ω)) := by
  have hb := h
  obtain ⟨n, b, R, S, C, kl, h⟩ := h
  have hI := h.1
  have hJ := h.2.1
  have hR := h.2.2.2.1
  have hcl := hJ.2.2.2.1
  have hC6 := hcl.1
  unfold kXM
  iterate 3 (refine kX_one rfl ?_)
  refine kX_cal (mc_hasClaim L xs (d + 1) σ C x hC6 hcl.2.1) rfl (Or.inr rfl) rfl rfl rfl (fun r1 σ1 q1 => ?_)
  obtain ⟨rfl, rfl⟩ := q1
  repeat refine kX_one rfl ?_
  refine kX_if (fun q => ?_) (fun q => ?_)
  · obtain ⟨c, hc, rfl⟩ := isB_ne.mp (qne q)
    have hc6 : c < 6 := by omega
    obtain ⟨a1, j, j1, j2, j3⟩ := hcl.2.2 c hc
    obtain ⟨b1, b2, b3, b4, b5, b6⟩ := h.2.2.2.2.2.1 c hc
    have uni : ∀ c', nI c = nI c' → c' < C → c' = c := fun c' q q2 => (nI_inj q).symm
    iterate 4 (refine kX_one rfl ?_)
    refine kX_aaldN rfl (rfl) (by decide) (by decide) (by decide) (c) (by first | rfl | decide) (hc6) (cl_at hc6) ?_
    iterate 2 (refine kX_one rfl ?_)
    refine kX_getN rfl rfl (kT_cl hc6) rfl ?_
    repeat refine kX_one rfl ?_
    refine kX_if (fun q2 => ?_) (fun q2 => ?_)
    · have hns : σ 257 c = 0 := Classical.byContradiction (fun z => b1.mpr z (qeq q2))
      iterate 3 (refine kX_one rfl ?_)
      refine kX_getN rfl rfl (kT_cl hc6) rfl ?_
      iterate 1 (refine kX_one rfl ?_)
      refine kX_cal (mc_hasVariable L xs d σ n R _ y hJ.2.1) rfl (Or.inr rfl) rfl rfl rfl (fun r1 σ1 q1 => ?_)
      obtain ⟨rfl, rfl⟩ := q1
      have eV := hasV_c (x := σ (163 + 3 * c) 1) (y := y) hI.2.1 hR
      rw [b2] at eV
      have eW := hasV_c (x := σ (163 + 3 * c) 2) (y := z) hI.2.1 hR
      rw [(b4 hns).1] at eW
      rw [b2]
      repeat refine kX_one rfl ?_
      refine kX_if (fun q3 => ?_) (fun q3 => ?_)
      · have q3 : ¬ hasV σ R (σ 258 c) y := fun z => isB_ne.mpr (eV.mpr z) (qeq q3)
        repeat refine kX_one rfl ?_
        refine kX_ret (i := .ireturn) (len := 1) rfl (Or.inr rfl) rfl (⟨_, rfl, mg_join L xs d' σ n b R S C kl _ _ _ _ hI (fun z => absurd ⟨c, hc, rfl⟩ z) (fun c' c1 c2 c3 => absurd hns (by rw [← uni c' c2 c1]; exact c3)) (fun _ _ _ _ _ => ⟨rfl, hb⟩) (fun c' c1 c2 c3 c4 => absurd c4.1 (by rw [uni c' c2 c1]; exact q3)) (fun c' j' k k' c1 c2 c3 _ _ c4 => absurd c4 (by rw [uni c' c2 c1]; exact q3))⟩)
      · have q3 : hasV σ R (σ 258 c) y := eV.mp (isB_ne.mp (qeqF q3))
        iterate 3 (refine kX_one rfl ?_)
        refine kX_getN rfl rfl (kT_cl hc6) rfl ?_
        iterate 1 (refine kX_one rfl ?_)
        refine kX_cal (mc_hasVariable L xs d σ n R _ z hJ.2.1) rfl (Or.inr rfl) rfl rfl rfl (fun r1 σ1 q1 => ?_)
        obtain ⟨rfl, rfl⟩ := q1
        rw [(b4 hns).1]
        repeat refine kX_one rfl ?_
        refine kX_if (fun q4 => ?_) (fun q4 => ?_)
        · have q4 : hasV σ R (σ 259 c) z := eW.mp (isB_ne.mp (qne q4))
          obtain ⟨-, vz, -, -, vz6, hz, -⟩ := eW.mpr q4
          obtain ⟨-, vy, -, -, vy6, hy, -⟩ := eV.mpr q3
          iterate 1 (refine kX_one rfl ?_)
          refine kX_getN rfl rfl (kT_cl hc6) rfl ?_
          refine kX_top (j2) ?_
          iterate 1 (refine kX_one rfl ?_)
          have ej : σ 261 c = nI j := b5.symm.trans j2
          repeat refine kX_one rfl ?_
          refine kX_if (fun q5 => ?_) (fun q5 => ?_)
          · have q5 := qlt q5 j 4
            subst hz hy
            iterate 3 (refine kX_one rfl ?_)
            refine kX_cal (mf_tie L xs (d + 1) σ c j vy vz hc6 q5 j2) rfl (Or.inr rfl) rfl (jcall_v rfl rfl rfl (kT_cl hc6) rfl rfl) rfl (fun r1 σ1 q1 => ?_)
            obtain ⟨rfl, rfl⟩ := q1
            have hi : ∀ e, 232 ≤ e → tiS σ c j vy vz e = σ e := fun e he => by
              unfold tiS
              rw [up_ne (by omega), up_ne (by omega), up_ne (by omega)]
            have hI1 := aJ_hi h hi
            have eB : tiS σ c j vy vz 258 = σ 258 := hi _ (by decide)
            have eA : tiS σ c j vy vz 259 = σ 259 := hi _ (by decide)
            have eS : tiS σ c j vy vz 257 = σ 257 := hi _ (by decide)
            have eJ : tiS σ c j vy vz 261 = σ 261 := hi _ (by decide)
            have eH : ∀ p q, hasV (tiS σ c j vy vz) R p q ↔ hasV σ R p q := fun p q => hasV_hi (hi _ (by decide))
            refine kX_ret (i := .ireturn) (len := 1) rfl (Or.inr rfl) rfl ⟨_, rfl, mg_join L xs d' (tiS σ c j vy vz) n b R S C kl _ _ _ _ hI1 (fun z => absurd ⟨c, hc, rfl⟩ z) (fun c' c1 c2 c3 => ?_) (fun c' c1 c2 c3 c4 => ?_) (fun c' c1 c2 c3 c4 c5 => ?_) (fun c' j' k k' c1 c2 c3 c4 c5 c6 c7 c8 c9 c10 => ?_)⟩
            · rw [eS, uni c' c2 c1] at c3
              exact absurd hns c3
            · rw [eB, eA, eH, eH, uni c' c2 c1] at c4
              exact absurd ⟨q3, q4⟩ c4
            · rw [eJ, uni c' c2 c1, ej] at c5
              have := nI_inj c5
              omega
            · obtain rfl := uni c' c2 c1
              rw [eJ, ej] at c8
              obtain rfl : j = j' := nI_inj c8
              rw [← c4, ← c5] at c10 ⊢
              exact ⟨rfl, bJ_jn h hc q5 ej vy6 vz6 c10⟩
          · have q5 := qltF q5 j 4
            obtain rfl : j = 4 := by omega
            repeat refine kX_one rfl ?_
            refine kX_ret (i := .ireturn) (len := 1) rfl (Or.inr rfl) rfl (⟨_, rfl, mg_join L xs d' σ n b R S C kl _ _ _ _ hI (fun z => absurd ⟨c, hc, rfl⟩ z) (fun c' c1 c2 c3 => absurd hns (by rw [← uni c' c2 c1]; exact c3)) (fun c' c1 c2 c3 c4 => absurd (show hasV σ R (σ 258 c') y ∧ hasV σ R (σ 259 c') z by rw [uni c' c2 c1]; exact ⟨q3, q4⟩) c4) (fun _ _ _ _ _ _ => ⟨rfl, hb⟩) (fun c' j' k k' c1 c2 c3 c4 c5 c6 c7 c8 c9 => by rw [uni c' c2 c1, ej] at c8; have := nI_inj c8; omega)⟩)
        · have q4 : ¬ hasV σ R (σ 259 c) z := fun z => isB_ne.mpr (eW.mpr z) (qneF q4)
          repeat refine kX_one rfl ?_
          refine kX_ret (i := .ireturn) (len := 1) rfl (Or.inr rfl) rfl (⟨_, rfl, mg_join L xs d' σ n b R S C kl _ _ _ _ hI (fun z => absurd ⟨c, hc, rfl⟩ z) (fun c' c1 c2 c3 => absurd hns (by rw [← uni c' c2 c1]; exact c3)) (fun _ _ _ _ _ => ⟨rfl, hb⟩) (fun c' c1 c2 c3 c4 => absurd c4.2 (by rw [uni c' c2 c1]; exact q4)) (fun c' j' k k' c1 c2 c3 _ _ _ c4 => absurd c4 (by rw [uni c' c2 c1]; exact q4))⟩)
    · have hse : σ 257 c ≠ 0 := b1.mp (qeqF q2)
      repeat refine kX_one rfl ?_
      refine kX_ret (i := .ireturn) (len := 1) rfl (Or.inr rfl) rfl (⟨_, rfl, mg_join L xs d' σ n b R S C kl _ _ _ _ hI (fun z => absurd ⟨c, hc, rfl⟩ z) (fun _ _ _ _ => ⟨rfl, hb⟩) (fun c' c1 c2 c3 => absurd c3 (by rw [uni c' c2 c1]; exact hse)) (fun c' c1 c2 c3 => absurd c3 (by rw [uni c' c2 c1]; exact hse)) (fun c' j' k k' c1 c2 c3 => absurd c3 (by rw [uni c' c2 c1]; exact hse))⟩)
  · have q : ¬ isN x C := fun z => isB_ne.mpr z (qneF q)
    repeat refine kX_one rfl ?_
    refine kX_ret (i := .ireturn) (len := 1) rfl (Or.inr rfl) rfl (⟨_, rfl, mg_join L xs d' σ n b R S C kl _ _ _ _ hI (fun _ => ⟨rfl, hb⟩) (fun c' c1 c2 => absurd ⟨c', c1, c2⟩ q) (fun c' c1 c2 => absurd ⟨c', c1, c2⟩ q) (fun c' c1 c2 => absurd ⟨c', c1, c2⟩ q) (fun c' j' k k' c1 c2 => absurd ⟨c', c1, c2⟩ q)⟩)
