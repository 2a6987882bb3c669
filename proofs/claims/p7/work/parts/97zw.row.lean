/-! the class: row -/
def pv : Nat → Int32
  | 0 => -1
  | i + 1 => nI i
theorem pv_sub (q : Nat) : nI q - Int32.ofInt 1 = pv q := by
  cases q with
  | zero => rfl
  | succ i => exact nI_pred i
theorem pv_dec (i : Nat) : pv i = nI i + -1 := by
  rw [← pv_sub, Int32.sub_eq_add_neg]
  rfl
def wnP (σ τ : kS) : Prop := ∀ c, c ≠ 194 → τ c = σ c
set_option maxRecDepth 100000 in
set_option maxHeartbeats 4000000 in
theorem mc_want (L : Nat) (xs : Nat → Int32) (d : Nat) (σ : kS) (n u : Nat) (x : Int32) (h : nB σ 186 200 n u) : kXM kT L xs (d + 2) 57 [.ref 186, .int x] σ (fun r σ' => r = none ∧ wnP σ σ') := by
  unfold kXM
  iterate 2 (refine kX_one rfl ?_)
  refine kX_cal (mc_unn L xs d σ 186 200 n u x h) rfl (Or.inr rfl) rfl rfl rfl (fun r1 σ1 q1 => ?_)
  obtain ⟨rfl, rfl⟩ := q1
  repeat refine kX_one rfl ?_
  refine kX_if (fun q => ?_) (fun q => ?_)
  · refine kX_ret (i := .return_) (len := 1) rfl (Or.inr rfl) rfl (⟨rfl, fun _ _ => rfl⟩)
  · obtain ⟨g, g1, g2, rfl⟩ := isB_ne.mp (qeqF q)
    obtain ⟨i, rfl⟩ : ∃ i, g = 200 + i := ⟨g - 200, by omega⟩
    have hu := h.2.2.1
    iterate 5 (refine kX_one rfl ?_)
    refine kX_top (h.2.2.2.2.1) ?_
    iterate 1 (refine kX_one rfl ?_)
    refine kX_top (y := nI i) ?_ ?_
    · show nI (200 + i) - nI 200 = nI i
      rw [← nI_add, Int32.add_comm, Int32.add_sub_cancel]
    iterate 1 (refine kX_one rfl ?_)
    refine kX_iastN rfl rfl (by decide) (i) (by first | rfl | decide) (by omega) ?_
    refine kX_ret (i := .return_) (len := 1) rfl (Or.inr rfl) rfl (⟨rfl, fun c hc => up_ne hc⟩)
set_option maxRecDepth 100000 in
set_option maxHeartbeats 4000000 in
theorem mc_missingFor (L : Nat) (xs : Nat → Int32) (d : Nat) (σ : kS) (n u : Nat) (x : Int32) (h : nB σ 186 200 n u) : kXM kT L xs (d + 3) 56 [.ref 186, .int x] σ (fun r σ' => (∃ z, r = some (.int z)) ∧ wnP σ σ') := by
  have hu := h.2.2.1
  have hW : ∀ τ, wnP σ τ → nB τ 186 200 n u := fun τ ht => ⟨h.1, h.2.1, h.2.2.1, by rw [ht 1 (by decide)]; exact h.2.2.2.1, by rw [ht 186 (by decide)]; exact h.2.2.2.2.1, by rw [ht 186 (by decide)]; exact h.2.2.2.2.2⟩
  have loop : ∀ q : Nat × Int32 × kS, (q.1 ≤ u ∧ wnP σ q.2.2) → kX kT L xs (d + 3) 56 22 [(3, .int (pv q.1)), (2, .int q.2.1), (0, .ref 186), (1, .int x)] [] q.2.2 (fun r σ' => (∃ z, r = some (.int z)) ∧ wnP σ σ') := by
    refine kX_while (fun q : Nat × Int32 × kS => [(3, .int (pv q.1)), (2, .int q.2.1), (0, .ref 186), (1, .int x)]) (fun q => q.2.2) _ (fun q => q.1) ?_
    rintro ⟨q, m, τ⟩ ⟨i1, i2⟩ ih
    dsimp only at i1 i2 ih ⊢
    cases q with
    | zero =>
      show kX kT L xs (d + 3) 56 22 [(3, .int (-1)), (2, .int m), (0, .ref 186), (1, .int x)] [] τ _
      repeat refine kX_one rfl ?_
      refine kX_ret (i := .ireturn) (len := 1) rfl (Or.inr rfl) rfl (⟨⟨_, rfl⟩, i2⟩)
    | succ i =>
      show kX kT L xs (d + 3) 56 22 [(3, .int (nI i)), (2, .int m), (0, .ref 186), (1, .int x)] [] τ _
      have k75 : ∀ m' τ', wnP σ τ' → kX kT L xs (d + 3) 56 75 [(2, .int m'), (3, .int (nI i)), (0, .ref 186), (1, .int x)] [] τ' (fun r σ' => (∃ z, r = some (.int z)) ∧ wnP σ σ') := by
        intro m' τ' ht
        iterate 2 (refine kX_one rfl ?_)
        have := ih (i, m', τ') ⟨by omega, ht⟩ (by simp only; omega)
        dsimp only at this
        rw [pv_dec] at this
        exact kX_lv _ rfl rfl rfl this
      repeat refine kX_one rfl ?_
      refine kX_ifF (decide_eq_false (nI_pos (by omega))) ?_
      iterate 3 (refine kX_one rfl ?_)
      refine kX_ialdN rfl rfl (by decide) (i) (by first | rfl | decide) (by omega) ?_
      repeat refine kX_one rfl ?_
      refine kX_if (fun q => ?_) (fun q => ?_)
      · exact kX_lv _ rfl rfl rfl (k75 m τ i2)
      · have hst := (hW τ i2).2.2.2.2.1
        iterate 7 (refine kX_one rfl ?_)
        refine kX_top (hst) ?_
        iterate 2 (refine kX_one rfl ?_)
        refine kX_top (y := nI (200 + i)) (nI_add 200 i) ?_
        refine kX_ialdN rfl rfl (by decide) (200 + i) (by first | rfl | decide) (by omega) ?_
        refine kX_cal (mc_want L xs d τ n u _ (hW τ i2)) rfl (Or.inr rfl) rfl rfl rfl (fun r1 τ1 q1 => ?_)
        obtain ⟨rfl, w1⟩ := q1
        have i3 : wnP σ τ1 := fun c hc => (w1 c hc).trans (i2 c hc)
        have hst := (hW τ1 i3).2.2.2.2.1
        iterate 6 (refine kX_one rfl ?_)
        refine kX_top (hst) ?_
        iterate 2 (refine kX_one rfl ?_)
        refine kX_top (y := nI (200 + i)) (nI_add 200 i) ?_
        refine kX_ialdN rfl rfl (by decide) (200 + i) (by first | rfl | decide) (by omega) ?_
        refine kX_cal (mc_want L xs d τ1 n u _ (hW τ1 i3)) rfl (Or.inr rfl) rfl rfl rfl (fun r1 τ2 q1 => ?_)
        obtain ⟨rfl, w2⟩ := q1
        exact kX_lv _ rfl rfl rfl (k75 _ τ2 (fun c hc => (w2 c hc).trans (i3 c hc)))
  unfold kXM
  iterate 3 (refine kX_one rfl ?_)
  refine kX_cal (kX_fill (T := kT) L xs (d + 1) 0 σ (a := 194) (n := 576) (g0 := fun _ => 0) rfl (by decide)) rfl (Or.inr rfl) rfl rfl rfl (fun r1 σ1 q1 => ?_)
  obtain ⟨rfl, rfl⟩ := q1
  generalize hτ : va_up σ 194 (fun j => if j < 576 then 0 else σ 194 j) = τ
  have i2 : wnP σ τ := fun c hc => by
    rw [← hτ]
    exact up_ne hc
  iterate 2 (refine kX_one rfl ?_)
  refine kX_cal (mc_want L xs d τ n u _ (hW τ i2)) rfl (Or.inr rfl) rfl rfl rfl (fun r1 τ1 q1 => ?_)
  obtain ⟨rfl, w1⟩ := q1
  have i3 : wnP σ τ1 := fun c hc => (w1 c hc).trans (i2 c hc)
  iterate 4 (refine kX_one rfl ?_)
  refine kX_top ((hW τ1 i3).2.2.2.2.2) ?_
  iterate 2 (refine kX_one rfl ?_)
  refine kX_top (y := pv u) (pv_sub u) ?_
  iterate 1 (refine kX_one rfl ?_)
  exact kX_lv _ rfl rfl rfl (loop (u, 0, τ1) ⟨Nat.le_refl _, i3⟩)
theorem cKc_up {σ τ : kS} {n m : Nat} {c : Int32} (hm : n ≤ m) (e : ∀ z, z < n → τ 8 z = σ 8 z) (h : cKc σ n c) : cKc τ m c := by
  rcases h with q | ⟨z, z1, z2, z3⟩ | q
  · exact Or.inl q
  · exact Or.inr (Or.inl ⟨z, by omega, z2, by rw [e z z1]; exact z3⟩)
  · exact Or.inr (Or.inr q)
theorem cKc_GC {σ : kS} {n : Nat} {c : Int32} (hn : n ≤ 200) (h : cKc σ n c) : cG σ n c ∧ cCh n c := by
  refine ⟨fun z z1 z2 => ?_, ?_⟩
  · rcases h with q | ⟨w, w1, w2, w3⟩ | ⟨w, w1, w2, w3⟩
    · exact absurd (z2.symm.trans q) (nI_m1 (by omega))
    · obtain rfl : z = w := nI_inj (z2.symm.trans w2)
      exact w3
    · have := nI_inj (z2.symm.trans w3)
      omega
  · rcases h with q | ⟨w, w1, w2, w3⟩ | ⟨w, w1, w2, w3⟩
    · exact Or.inl q
    · exact Or.inr ⟨w, by omega, w2, Or.inl w1⟩
    · exact Or.inr ⟨w, by omega, w3, Or.inr w1⟩
/-- what is kept while numbers are given -/
def gN (σ : kS) (n u : Nat) : Prop := nB σ 186 200 n u ∧ cKe σ 186 200 u ∧ cKg σ n 200 u ∧ cT σ n
theorem gN_gr {σ τ : kS} {n m u : Nat} (h : gN σ n u) (hG : cGr σ τ n) (hm : n ≤ m) (hT : cT τ m) : gN τ m u := by
  obtain ⟨h1, h2, h3, h4⟩ := h
  have e : ∀ c, 13 ≤ c → τ c = σ c := fun c hc => hG.1 c (fun q => by have := tC_lt q; omega)
  refine ⟨⟨h1.1, hT.1, h1.2.2.1, hT.2.1, by rw [e 186 (by decide)]; exact h1.2.2.2.2.1, by rw [e 186 (by decide)]; exact h1.2.2.2.2.2⟩, cKe_eq (by decide) (e _ (by decide)) hG.2.2 h2, fun g g1 g2 => ?_, hT⟩
  rw [(hG.2.2 g g1).2.1, (hG.2.2 g g1).2.2.1]
  exact ⟨cKc_up hm hG.2.1 (h3 g g1 g2).1, cKc_up hm hG.2.1 (h3 g g1 g2).2⟩
set_option maxRecDepth 100000 in
set_option maxHeartbeats 4000000 in
theorem mc_giveNumber (L : Nat) (xs : Nat → Int32) (u : Nat) : ∀ (m d dd : Nat) (σ : kS) (n : Nat) (x : Int32), dd + m = 49 → gN σ n u → kXM kT L xs (d + m + 5) 58 [.ref 186, .int x, .int (nI dd)] σ (fun r τ => ∃ y n', r = some (.int y) ∧ n ≤ n' ∧ cGr σ τ n ∧ cT τ n' ∧ (cKc σ n x → cKc τ n' y)) := by
  intro m
  induction m with
  | zero =>
    intro d dd σ n x hdd h
    obtain rfl : dd = 49 := by omega
    unfold kXM
    iterate 2 (refine kX_one rfl ?_)
    refine kX_cal (mc_unn L xs (d + 3) σ 186 200 n u x h.1) rfl (Or.inr rfl) rfl rfl rfl (fun r1 σ1 q1 => ?_)
    obtain ⟨rfl, rfl⟩ := q1
    repeat refine kX_one rfl ?_
    refine kX_if (fun q => ?_) (fun q => ?_)
    · repeat refine kX_one rfl ?_
      refine kX_ret (i := .ireturn) (len := 1) rfl (Or.inr rfl) rfl (⟨x, n, rfl, Nat.le_refl _, cGr_refl σ n, h.2.2.2, id⟩)
    · repeat refine kX_one rfl ?_
      refine kX_ret (i := .ireturn) (len := 1) rfl (Or.inr rfl) rfl (⟨x, n, rfl, Nat.le_refl _, cGr_refl σ n, h.2.2.2, id⟩)
  | succ m IH =>
    intro d dd σ n x hdd h
    have hu := h.1.2.2.1
    unfold kXM
    iterate 2 (refine kX_one rfl ?_)
    refine kX_cal (mc_unn L xs (d + m + 4) σ 186 200 n u x h.1) rfl (Or.inr rfl) rfl rfl rfl (fun r1 σ1 q1 => ?_)
    obtain ⟨rfl, rfl⟩ := q1
    repeat refine kX_one rfl ?_
    refine kX_if (fun q => ?_) (fun q => ?_)
    · repeat refine kX_one rfl ?_
      refine kX_ret (i := .ireturn) (len := 1) rfl (Or.inr rfl) rfl (⟨x, n, rfl, Nat.le_refl _, cGr_refl σ n, h.2.2.2, id⟩)
    · obtain ⟨g, g1, g2, rfl⟩ := isB_ne.mp (qeqF q)
      repeat refine kX_one rfl ?_
      refine kX_if (fun q2 => ?_) (fun q2 => ?_)
      · iterate 5 (refine kX_one rfl ?_)
        refine kX_ialdN rfl rfl (by decide) (g) (by first | rfl | decide) (by omega) ?_
        iterate 3 (refine kX_one rfl ?_)
        refine kX_top (y := nI (dd + 1)) (nI_1 dd) ?_
        refine kX_cal (IH d (dd + 1) σ n _ (by omega) h) rfl (Or.inr rfl) rfl rfl rfl (fun r1 τ1 q1 => ?_)
        obtain ⟨y1, n1, rfl, hn1, G1, T1, c1⟩ := q1
        have c1 := c1 (h.2.2.1 g g1 g2).1
        have h1 := gN_gr h G1 hn1 T1
        iterate 6 (refine kX_one rfl ?_)
        refine kX_ialdN rfl rfl (by decide) (g) (by first | rfl | decide) (by omega) ?_
        iterate 3 (refine kX_one rfl ?_)
        refine kX_top (y := nI (dd + 1)) (nI_1 dd) ?_
        refine kX_cal (IH d (dd + 1) τ1 n1 _ (by omega) h1) rfl (Or.inr rfl) rfl rfl rfl (fun r1 τ2 q1 => ?_)
        obtain ⟨y2, n2, rfl, hn2, G2, T2, c2⟩ := q1
        have c2 := c2 (h1.2.2.1 g g1 g2).2
        have h2 := gN_gr h1 G2 hn2 T2
        have c1 : cKc τ2 n2 y1 := cKc_up hn2 G2.2.1 c1
        obtain ⟨k, k4, k9, hk⟩ := (h2.2.1.2 g g1 g2).2
        have G12 : cGr σ τ2 n := cGr_trans G1 G2 hn1
        have hn20 := T2.1
        obtain ⟨a1, b1⟩ := cKc_GC hn20 c1
        obtain ⟨a2, b2⟩ := cKc_GC hn20 c2
        iterate 7 (refine kX_one rfl ?_)
        refine kX_ialdV rfl rfl (by decide) (g) (by first | rfl | decide) (by omega) (hk) ?_
        iterate 2 (refine kX_one rfl ?_)
        refine kX_cal (mc_find L xs (d + m + 3) τ2 n2 (nI k) y1 y2 T2) rfl (Or.inr rfl) rfl rfl rfl (fun r1 σ1 q1 => ?_)
        obtain ⟨hq, rfl⟩ := q1
        rcases hq with rfl | ⟨t, ⟨t1, -⟩, rfl, t2, t3, t4⟩
        · iterate 10 (refine kX_one rfl ?_)
          refine kX_ialdV rfl rfl (by decide) (g) (by first | rfl | decide) (by omega) (hk) ?_
          iterate 2 (refine kX_one rfl ?_)
          refine kX_cal (mc_newCompound L xs (d + m + 1) τ2 n2 k y1 y2 T2 k4 k9 b1 b2 (fun z => absurd ⟨a1, a2⟩ z)) rfl (Or.inr rfl) rfl rfl rfl (fun r1 ω q1 => ?_)
          rcases q1 with ⟨-, rfl, rfl⟩ | ⟨hlt, rfl, e1, e2, e3⟩
          · refine kX_ret (i := .ireturn) (len := 1) rfl (Or.inr rfl) rfl (⟨_, n2, rfl, by omega, G12, T2, fun _ => Or.inl rfl⟩)
          · refine kX_ret (i := .ireturn) (len := 1) rfl (Or.inr rfl) rfl (⟨_, n2 + 1, rfl, by omega, cGr_trans G12 e2 (by omega), e1, fun _ => Or.inr (Or.inl ⟨n2, by omega, rfl, e3 ⟨a1, a2⟩⟩)⟩)
        · iterate 3 (refine kX_one rfl ?_)
          repeat refine kX_one rfl ?_
          refine kX_if (fun q3 => ?_) (fun q3 => ?_)
          · exact absurd (qeq q3) (nI_m1 (by omega))
          · have hgt : τ2 8 t = 1 := by
              refine ((T2.2.2.2 t t1).2.2.2.2.2.1 (by rw [t2]; exact nI_ne (by omega))).mpr ?_
              rw [t3, t4]
              exact ⟨fun z z1 z2 => a1 z (by omega) z2, fun z z1 z2 => a2 z (by omega) z2⟩
            repeat refine kX_one rfl ?_
            refine kX_ret (i := .ireturn) (len := 1) rfl (Or.inr rfl) rfl (⟨_, n2, rfl, by omega, G12, T2, fun _ => Or.inr (Or.inl ⟨t, t1, rfl, hgt⟩)⟩)
      · repeat refine kX_one rfl ?_
        refine kX_ret (i := .ireturn) (len := 1) rfl (Or.inr rfl) rfl (⟨_, n, rfl, Nat.le_refl _, cGr_refl σ n, h.2.2.2, id⟩)
set_option maxRecDepth 100000 in
set_option maxHeartbeats 4000000 in
theorem mc_numbered (L : Nat) (xs : Nat → Int32) (d : Nat) (σ : kS) (n R S C u g : Nat) (h : cJ σ n R S C) (hW : nW σ 186 200 n u) (hg : g < 1928) : kXM kT L xs (d + 55) 143 [.ref 0, .ref 186, .int (nI g)] σ (fun r σ' => (∃ x, r = some (.int x)) ∧ cAfter σ σ' R) := by
  unfold kXM
  iterate 5 (refine kX_one rfl ?_)
  refine kX_cal (mc_missingFor L xs (d + 51) σ n u _ hW.1) rfl (Or.inr rfl) rfl rfl rfl (fun r1 τ q1 => ?_)
  obtain ⟨⟨z, rfl⟩, w1⟩ := q1
  have hP : nP σ τ 186 := ⟨fun c hc => w1 c (by omega), w1 _ (by decide), fun j _ _ => by rw [w1 186 (by decide)], by
    unfold nR
    rw [w1 186 (by decide), w1 (186 + 2) (by decide)]
    exact hW.2.1⟩
  have hJ := cJ_P h hW hP
  have hW2 := nW_P hW hP
  have hHi : cHi σ τ := fun c hc => w1 c (by omega)
  repeat refine kX_one rfl ?_
  refine kX_if (fun q => ?_) (fun q => ?_)
  · iterate 4 (refine kX_one rfl ?_)
    refine kX_ialdN rfl rfl (by decide) (g) (by first | rfl | decide) (by omega) ?_
    repeat refine kX_one rfl ?_
    refine kX_if (fun q2 => ?_) (fun q2 => ?_)
    · iterate 3 (refine kX_one rfl ?_)
      refine kX_cal (mc_giveNumber L xs u 49 d 0 τ n _ rfl ⟨hW2.1, hW2.2.2.1, hW2.2.2.2.1, hW2.2.2.2.2⟩) rfl (Or.inr rfl) rfl rfl rfl (fun r1 ω q1 => ?_)
      obtain ⟨y, n', rfl, n1, G, T, -⟩ := q1
      refine kX_ret (i := .ireturn) (len := 1) rfl (Or.inr rfl) rfl (⟨⟨_, rfl⟩, cHi_trans hHi (cGr_hi G), n', S, C, cJ_gr hJ G n1 T⟩)
    · repeat refine kX_one rfl ?_
      refine kX_ret (i := .ireturn) (len := 1) rfl (Or.inr rfl) rfl (⟨⟨_, rfl⟩, hHi, n, S, C, hJ⟩)
  · repeat refine kX_one rfl ?_
    refine kX_ret (i := .ireturn) (len := 1) rfl (Or.inr rfl) rfl (⟨⟨_, rfl⟩, hHi, n, S, C, hJ⟩)
set_option maxRecDepth 100000 in
set_option maxHeartbeats 4000000 in
theorem mk_row (L : Nat) (xs : Nat → Int32) (d : Nat) (σ : kS) (n R S C : Nat) (x y : Int32) (h : cJ σ n R S C) : kXM kT L xs (d + 56) 127 [.ref 0, .int x, .int y] σ (fun r σ' => (∃ x, r = some (.int x)) ∧ cAfter σ σ' R) := by
  unfold kXM
  repeat refine kX_one rfl ?_
  refine kX_if (fun q => ?_) (fun q => ?_)
  · repeat refine kX_one rfl ?_
    refine kX_ret (i := .ireturn) (len := 1) rfl (Or.inr rfl) rfl (⟨⟨_, rfl⟩, cAfter_same h⟩)
  · have q : ¬ y < 0 := of_decide_eq_false q
    obtain ⟨j, hj, rfl⟩ := nI_of q
    repeat refine kX_one rfl ?_
    refine kX_if (fun q2 => ?_) (fun q2 => ?_)
    · have q2 := qle q2 j 4
      repeat refine kX_one rfl ?_
      refine kX_if (fun q3 => ?_) (fun q3 => ?_)
      · have hon : σ 181 8 ≠ 0 := qne q3
        iterate 2 (refine kX_one rfl ?_)
        refine kX_cal (mc_intruder L xs d σ n R S C h hon) rfl (Or.inr rfl) rfl rfl rfl (fun r1 τ q1 => ?_)
        obtain ⟨rfl, i1, i2, ⟨u, i3⟩, -⟩ := q1
        have hA : cAfter σ τ R := ⟨i1, n, S, C, i2⟩
        obtain ⟨ln, l1, l2, l3⟩ := i3.2.1
        iterate 1 (refine kX_one rfl ?_)
        repeat refine kX_one rfl ?_
        refine kX_if (fun q4 => ?_) (fun q4 => ?_)
        · repeat refine kX_one rfl ?_
          refine kX_ret (i := .ireturn) (len := 1) rfl (Or.inr rfl) rfl (⟨⟨_, rfl⟩, hA⟩)
        · have q4 : ¬ x < 0 := of_decide_eq_false q4
          obtain ⟨i, hi, rfl⟩ := nI_of q4
          iterate 3 (refine kX_one rfl ?_)
          refine kX_top (l2) ?_
          repeat refine kX_one rfl ?_
          refine kX_if (fun q5 => ?_) (fun q5 => ?_)
          · have q5 := qlt q5 i ln
            obtain ⟨g, g1, g2⟩ := l3 i q5
            iterate 3 (refine kX_one rfl ?_)
            refine kX_ialdV rfl rfl (by decide) (i) (by first | rfl | decide) (by omega) (g2) ?_
            have : j = 0 ∨ j = 1 ∨ j = 2 ∨ j = 3 ∨ j = 4 := by omega
            rcases this with rfl | rfl | rfl | rfl | rfl
            · iterate 7 (refine kX_one rfl ?_)
              refine kX_ialdN rfl rfl (by decide) (g) (by first | rfl | decide) (by omega) ?_
              refine kX_ret (i := .ireturn) (len := 1) rfl (Or.inr rfl) rfl (⟨⟨_, rfl⟩, hA⟩)
            · iterate 7 (refine kX_one rfl ?_)
              refine kX_ialdN rfl rfl (by decide) (g) (by first | rfl | decide) (by omega) ?_
              refine kX_ret (i := .ireturn) (len := 1) rfl (Or.inr rfl) rfl (⟨⟨_, rfl⟩, hA⟩)
            · iterate 6 (refine kX_one rfl ?_)
              refine kX_ialdN rfl rfl (by decide) (i) (by first | rfl | decide) (by omega) ?_
              refine kX_ret (i := .ireturn) (len := 1) rfl (Or.inr rfl) rfl (⟨⟨_, rfl⟩, hA⟩)
            · iterate 6 (refine kX_one rfl ?_)
              refine kX_ialdN rfl rfl (by decide) (i) (by first | rfl | decide) (by omega) ?_
              refine kX_cal (mc_orNone L xs (d + 54) τ _) rfl (Or.inr rfl) rfl rfl rfl (fun r1 σ1 q1 => ?_)
              obtain ⟨rfl, rfl⟩ := q1
              refine kX_ret (i := .ireturn) (len := 1) rfl (Or.inr rfl) rfl (⟨⟨_, rfl⟩, hA⟩)
            · iterate 6 (refine kX_one rfl ?_)
              refine kX_cal (mc_numbered L xs d τ n R S C u g i2 i3 g1) rfl (Or.inr rfl) rfl rfl rfl (fun r1 ω q1 => ?_)
              obtain ⟨⟨z, rfl⟩, hB1, hB2⟩ := q1
              refine kX_ret (i := .ireturn) (len := 1) rfl (Or.inr rfl) rfl (⟨⟨_, rfl⟩, cHi_trans i1 hB1, hB2⟩)
          · repeat refine kX_one rfl ?_
            refine kX_ret (i := .ireturn) (len := 1) rfl (Or.inr rfl) rfl (⟨⟨_, rfl⟩, hA⟩)
      · repeat refine kX_one rfl ?_
        refine kX_ret (i := .ireturn) (len := 1) rfl (Or.inr rfl) rfl (⟨⟨_, rfl⟩, cAfter_same h⟩)
    · repeat refine kX_one rfl ?_
      refine kX_ret (i := .ireturn) (len := 1) rfl (Or.inr rfl) rfl (⟨⟨_, rfl⟩, cAfter_same h⟩)
