/-! the class: choose, first, next -/
theorem ev_b (r k i : Nat) (hr : r < 4) (hk : k < 6) (hi : i < 5) : 28 + 35 * r + 5 * k + i < 163 := by omega
set_option maxRecDepth 100000 in
set_option maxHeartbeats 4000000 in
theorem mc_choose (L : Nat) (xs : Nat → Int32) (d : Nat) (σ : kS) (n r k j so c o p s : Nat) (h : cO σ n) (hr4 : r < 4) (hk6 : k < 6) (hj : j < 6) (hso : so < 4) (hso2 : σ (28 + 35 * r + 5 * k + 2) j = nI so) (hp : p < 6) (hp2 : σ (28 + 35 * r + 5 * k + 1) j = nI p) (hc : σ 228 so = nI c) (hc2 : c ≤ 200) (ho : o < c) (hs : s < 4) (hv : σ 222 3 = nI (7 * s + 1)) : kXM kT L xs (d + 1) 34 [.ref 222, .ref (28 + 35 * r + 5 * k), .int (nI j), .int (nI o)] σ (fun q σ' => q = none ∧ ∃ z, z < n ∧ σ 8 z = 1 ∧ σ' = va_up (va_up σ 229 (upd (σ 229) j (nI o))) 202 (upd (σ 202) (7 * s + 1 + p) (nI z))) := by
  have b1 := ev_b r k 1 hr4 hk6 (by decide)
  have b2 := ev_b r k 2 hr4 hk6 (by decide)
  obtain ⟨c', a1, a2, a3⟩ := h so hso
  obtain rfl : c = c' := nI_inj (hc.symm.trans a2)
  obtain ⟨z, z1, z2, z3⟩ := a3 o ho
  unfold kXM
  iterate 4 (refine kX_one rfl ?_)
  refine kX_iastN rfl rfl (by decide) (j) (by first | rfl | decide) (hj) ?_
  have e202 : va_up σ 229 (upd (σ 229) j (nI o)) 202 = σ 202 := rfl
  have ee : ∀ e, e ≠ 229 → va_up σ 229 (upd (σ 229) j (nI o)) e = σ e := fun e he => up_ne he
  generalize va_up σ 229 (upd (σ 229) j (nI o)) = ρ at *
  iterate 4 (refine kX_one rfl ?_)
  refine kX_top (y := nI (7 * s + 1)) (by rw [ee 222 (by decide)]; exact hv) ?_
  iterate 1 (refine kX_one rfl ?_)
  refine kX_getN rfl rfl (kT_ev hr4 hk6) rfl ?_
  iterate 1 (refine kX_one rfl ?_)
  refine kX_ialdV rfl (kT_e1 hr4 hk6 (Or.inl rfl)) (by decide) (j) (by first | rfl | decide) (hj) ((congrFun (ee _ (by omega)) j).trans hp2) ?_
  iterate 1 (refine kX_one rfl ?_)
  refine kX_top (y := nI (7 * s + 1 + p)) (nI_add (7 * s + 1) p) ?_
  iterate 3 (refine kX_one rfl ?_)
  refine kX_getN rfl rfl (kT_ev hr4 hk6) rfl ?_
  iterate 1 (refine kX_one rfl ?_)
  refine kX_ialdV rfl (kT_e1 hr4 hk6 (Or.inr rfl)) (by decide) (j) (by first | rfl | decide) (hj) ((congrFun (ee _ (by omega)) j).trans hso2) ?_
  refine kX_aaldN rfl (rfl) (by decide) (by decide) (by decide) (so) (by first | rfl | decide) (hso) (op_at hso) ?_
  iterate 1 (refine kX_one rfl ?_)
  refine kX_ialdV rfl (kT_op hso) (by decide) (o) (by first | rfl | decide) (by omega) ((congrFun (ee _ (by omega)) o).trans z2) ?_
  refine kX_iastN rfl rfl (by decide) (7 * s + 1 + p) (by first | rfl | decide) (by omega) ?_
  refine kX_ret (i := .return_) (len := 1) rfl (Or.inr rfl) rfl ⟨rfl, z, z1, z3, ?_⟩
  rw [e202]
/-- only the way has changed -/
def fF (σ τ : kS) : Prop := ∀ c, c ≠ 222 → c ≠ 229 → c ≠ 202 → τ c = σ c
def cHo (τ : kS) (a m : Nat) : Prop := ∀ j, j < m → ∃ so c o, so < 4 ∧ o < c ∧ c ≤ 200 ∧ τ (a + 2) j = nI so ∧ τ 228 so = nI c ∧ τ 229 j = nI o
def wyP (σ τ : kS) (n S s a m : Nat) : Prop := fF σ τ ∧ τ 222 3 = nI (7 * s + 1) ∧ cHo τ a m ∧ cV σ n S (τ 202) 0
theorem cHo_set {τ : kS} {a m j so c o : Nat} {f : Nat → Int32} (h : cHo τ a m) (ha : a + 2 < 200) (hso : so < 4) (hso2 : τ (a + 2) j = nI so) (hc : τ 228 so = nI c) (hc2 : c ≤ 200) (ho : o < c) : ∀ m', (m' = m ∨ m' = j + 1 ∧ j = m) → cHo (va_up (va_up τ 229 (upd (τ 229) j (nI o))) 202 f) a m' := by
  intro m' hm i hi
  by_cases e : i = j
  · subst e
    refine ⟨so, c, o, hso, ho, hc2, ?_, ?_, ?_⟩
    · rw [up_ne (by omega), up_ne (by omega)]
      exact hso2
    · rw [up_ne (by decide), up_ne (by decide)]
      exact hc
    · rw [up_ne (by decide), up_eq, pk_us]
  · obtain ⟨so', c', o', a1, a2, a3, a4, a5, a6⟩ := h i (by omega)
    refine ⟨so', c', o', a1, a2, a3, ?_, ?_, ?_⟩
    · rw [up_ne (by omega), up_ne (by omega)]
      exact a4
    · rw [up_ne (by decide), up_ne (by decide)]
      exact a5
    · rw [up_ne (by decide), up_eq, pk_un e]
      exact a6
theorem cV_set {σ : kS} {n S s p z : Nat} {A : Nat → Int32} (h : cV σ n S A 0) (hz : z < n) (hg : σ 8 z = 1) : cV σ n S (upd A (7 * s + 1 + p) (nI z)) 0 := fun s' k hs' hk => by
  by_cases e : 0 + 7 * s' + 1 + k = 7 * s + 1 + p
  · rw [e, pk_us]
    exact Or.inr ⟨z, hz, rfl, hg⟩
  · rw [pk_un e]
    exact h s' k hs' hk
set_option maxRecDepth 100000 in
set_option maxHeartbeats 4000000 in
theorem mc_first (L : Nat) (xs : Nat → Int32) (d : Nat) (σ : kS) (n S r k s m : Nat) (h : cO σ n) (hr4 : r < 4) (hk6 : k < 6) (hE : cE σ n (28 + 35 * r + 5 * k)) (hm : σ (28 + 35 * r + 5 * k) 4 = nI m) (hm6 : m ≤ 6) (hW : cW σ (28 + 35 * r + 5 * k) m) (hs : s < 4) (hV : cV σ n S (σ 202) 0) : kXM kT L xs (d + 2) 32 [.ref 222, .ref (28 + 35 * r + 5 * k), .int (nI s)] σ (fun q σ' => (∃ f, f ≤ 24 ∧ q = some (.int (nI f))) ∧ wyP σ σ' n S s (28 + 35 * r + 5 * k) m) := by
  have b0 := ev_b r k 0 hr4 hk6 (by decide)
  have b1 := ev_b r k 1 hr4 hk6 (by decide)
  have b2 := ev_b r k 2 hr4 hk6 (by decide)
  obtain ⟨t, mm, qq, t1, m6, -, t2, m2, -, bd, -⟩ := hE
  obtain rfl : mm = m := nI_inj (m2.symm.trans hm)
  have loop : ∀ q : Nat × kS, (q.1 ≤ mm ∧ wyP σ q.2 n S s (28 + 35 * r + 5 * k) q.1) → kX kT L xs (d + 2) 32 12 [(3, .int (nI q.1)), (0, .ref 222), (1, .ref (28 + 35 * r + 5 * k)), (2, .int (nI s))] [] q.2 (fun q σ' => (∃ f, f ≤ 24 ∧ q = some (.int (nI f))) ∧ wyP σ σ' n S s (28 + 35 * r + 5 * k) mm) := by
    refine kX_while (fun q : Nat × kS => [(3, .int (nI q.1)), (0, .ref 222), (1, .ref (28 + 35 * r + 5 * k)), (2, .int (nI s))]) (fun q => q.2) _ (fun q => mm - q.1) ?_
    rintro ⟨j, τ⟩ ⟨j1, j2, j3, j4, j5⟩ ih
    dsimp only at j1 j2 j3 j4 j5 ih ⊢
    iterate 2 (refine kX_one rfl ?_)
    refine kX_getN rfl rfl (kT_ev hr4 hk6) rfl ?_
    refine kX_top (y := nI mm) (by rw [j2 _ (by omega) (by omega) (by omega)]; exact m2) ?_
    repeat refine kX_one rfl ?_
    refine kX_if (fun q => ?_) (fun q => ?_)
    · have q := qge q j mm
      obtain rfl : j = mm := by omega
      repeat refine kX_one rfl ?_
      refine kX_ret (i := .ireturn) (len := 1) rfl (Or.inr rfl) rfl (⟨⟨0, by decide, rfl⟩, j2, j3, j4, j5⟩)
    · have q := qgeF q j mm
      have hj6 : j < 6 := by omega
      obtain ⟨⟨p, p1, p2⟩, -⟩ := bd j q
      obtain ⟨so, c, w1, w2, w3, w4, w5⟩ := hW j q
      have hOt : cO τ n := cO_eq (fun z _ => by rw [j2 8 (by decide) (by decide) (by decide)]) (fun e e1 e2 => j2 e (by omega) (by omega) (by omega)) h
      have x1 : τ (28 + 35 * r + 5 * k + 2) j = nI so := by rw [j2 _ (by omega) (by omega) (by omega)]; exact w4
      have x2 : τ (28 + 35 * r + 5 * k + 1) j = nI p := by rw [j2 _ (by omega) (by omega) (by omega)]; exact p2
      have x3 : τ 228 so = nI c := by rw [j2 _ (by decide) (by decide) (by decide)]; exact w5
      iterate 4 (refine kX_one rfl ?_)
      refine kX_cal (mc_choose L xs d τ n r k j so c 0 p s hOt hr4 hk6 hj6 w1 x1 p1 x2 x3 w3 w2 hs j3) rfl (Or.inr rfl) rfl rfl rfl (fun r1 ω q1 => ?_)
      obtain ⟨rfl, z, z1, z2, rfl⟩ := q1
      iterate 2 (refine kX_one rfl ?_)
      have := ih (j + 1, va_up (va_up τ 229 (upd (τ 229) j (nI 0))) 202 (upd (τ 202) (7 * s + 1 + p) (nI z))) ⟨q, fun e e1 e2 e3 => (up_ne e3).trans ((up_ne e2).trans (j2 e e1 e2 e3)), j3, cHo_set j4 (by omega) w1 x1 x3 w3 w2 (j + 1) (Or.inr ⟨rfl, rfl⟩), cV_set j5 z1 (by rw [← j2 8 (by decide) (by decide) (by decide)]; exact z2)⟩ (by simp only; omega)
      dsimp only at this
      rw [← nI_1] at this
      exact kX_lv _ rfl rfl rfl this
  unfold kXM
  iterate 6 (refine kX_one rfl ?_)
  refine kX_top (y := nI (7 * s + 1)) (ix7z s) ?_
  iterate 3 (refine kX_one rfl ?_)
  exact kX_lv _ rfl rfl rfl (loop (0, va_up σ 222 (upd (σ 222) 3 (nI (7 * s + 1)))) ⟨Nat.zero_le _, fun e e1 _ _ => up_ne e1, rfl, fun j hj => absurd hj (Nat.not_lt_zero j), hV⟩)
set_option maxRecDepth 100000 in
set_option maxHeartbeats 4000000 in
theorem mc_next (L : Nat) (xs : Nat → Int32) (d : Nat) (σ : kS) (n S r k s m : Nat) (h : cO σ n) (hr4 : r < 4) (hk6 : k < 6) (hE : cE σ n (28 + 35 * r + 5 * k)) (hm : σ (28 + 35 * r + 5 * k) 4 = nI m) (hm6 : m ≤ 6) (hs : s < 4) (hW : wyP σ σ n S s (28 + 35 * r + 5 * k) m) : kXM kT L xs (d + 2) 33 [.ref 222, .ref (28 + 35 * r + 5 * k)] σ (fun q σ' => (∃ f, f ≤ 24 ∧ q = some (.int (nI f))) ∧ wyP σ σ' n S s (28 + 35 * r + 5 * k) m) := by
  have b0 := ev_b r k 0 hr4 hk6 (by decide)
  have b1 := ev_b r k 1 hr4 hk6 (by decide)
  have b2 := ev_b r k 2 hr4 hk6 (by decide)
  have b4 := ev_b r k 4 hr4 hk6 (by decide)
  obtain ⟨t, mm, qq, t1, m6, -, t2, m2, -, bd, -⟩ := hE
  obtain rfl : mm = m := nI_inj (m2.symm.trans hm)
  have loop : ∀ q : Nat × kS, (q.1 ≤ mm ∧ wyP σ q.2 n S s (28 + 35 * r + 5 * k) mm) → kX kT L xs (d + 2) 33 7 [(2, .int (pv q.1)), (0, .ref 222), (1, .ref (28 + 35 * r + 5 * k))] [] q.2 (fun q σ' => (∃ f, f ≤ 24 ∧ q = some (.int (nI f))) ∧ wyP σ σ' n S s (28 + 35 * r + 5 * k) mm) := by
    refine kX_while (fun q : Nat × kS => [(2, .int (pv q.1)), (0, .ref 222), (1, .ref (28 + 35 * r + 5 * k))]) (fun q => q.2) _ (fun q => q.1) ?_
    rintro ⟨q, τ⟩ ⟨j1, j2, j3, j4, j5⟩ ih
    dsimp only at j1 j2 j3 j4 j5 ih ⊢
    cases q with
    | zero =>
      show kX kT L xs (d + 2) 33 7 [(2, .int (-1)), (0, .ref 222), (1, .ref (28 + 35 * r + 5 * k))] [] τ _
      repeat refine kX_one rfl ?_
      refine kX_ret (i := .ireturn) (len := 1) rfl (Or.inr rfl) rfl (⟨⟨0, by decide, rfl⟩, j2, j3, j4, j5⟩)
    | succ j =>
      show kX kT L xs (d + 2) 33 7 [(2, .int (nI j)), (0, .ref 222), (1, .ref (28 + 35 * r + 5 * k))] [] τ _
      have hj : j < mm := by omega
      have hj6 : j < 6 := by omega
      obtain ⟨⟨p, p1, p2⟩, -, f, f1, f2⟩ := bd j hj
      obtain ⟨so, c, o, w1, w2, w3, w4, w5, w6⟩ := j4 j hj
      have hOt : cO τ n := cO_eq (fun z _ => by rw [j2 8 (by decide) (by decide) (by decide)]) (fun e e1 e2 => j2 e (by omega) (by omega) (by omega)) h
      have x2 : τ (28 + 35 * r + 5 * k + 1) j = nI p := by rw [j2 _ (by omega) (by omega) (by omega)]; exact p2
      repeat refine kX_one rfl ?_
      refine kX_ifF (decide_eq_false (nI_pos (by omega))) ?_
      iterate 3 (refine kX_one rfl ?_)
      refine kX_ialdV rfl rfl (by decide) (j) (by first | rfl | decide) (hj6) (w6) ?_
      iterate 2 (refine kX_one rfl ?_)
      refine kX_top (y := nI (o + 1)) (nI_1 o) ?_
      iterate 3 (refine kX_one rfl ?_)
      refine kX_getN rfl rfl (kT_ev hr4 hk6) rfl ?_
      iterate 1 (refine kX_one rfl ?_)
      refine kX_ialdV rfl (kT_e1 hr4 hk6 (Or.inr rfl)) (by decide) (j) (by first | rfl | decide) (hj6) (w4) ?_
      refine kX_ialdV rfl rfl (by decide) (so) (by first | rfl | decide) (w1) (w5) ?_
      repeat refine kX_one rfl ?_
      refine kX_if (fun q => ?_) (fun q => ?_)
      · iterate 4 (refine kX_one rfl ?_)
        refine kX_cal (mc_choose L xs d τ n r k j so c 0 p s hOt hr4 hk6 hj6 w1 w4 p1 x2 w5 w3 (by omega) hs j3) rfl (Or.inr rfl) rfl rfl rfl (fun r1 ω q1 => ?_)
        obtain ⟨rfl, z, z1, z2, rfl⟩ := q1
        iterate 2 (refine kX_one rfl ?_)
        have := ih (j, va_up (va_up τ 229 (upd (τ 229) j (nI 0))) 202 (upd (τ 202) (7 * s + 1 + p) (nI z))) ⟨by omega, fun e e1 e2 e3 => (up_ne e3).trans ((up_ne e2).trans (j2 e e1 e2 e3)), j3, cHo_set j4 (by omega) w1 w4 w5 w3 (by omega) mm (Or.inl rfl), cV_set j5 z1 (by rw [← j2 8 (by decide) (by decide) (by decide)]; exact z2)⟩ (by simp only; omega)
        dsimp only at this
        rw [pv_dec] at this
        exact kX_lv _ rfl rfl rfl this
      · have q := qgeF q (o + 1) c
        iterate 6 (refine kX_one rfl ?_)
        refine kX_ialdV rfl rfl (by decide) (j) (by first | rfl | decide) (hj6) (w6) ?_
        iterate 2 (refine kX_one rfl ?_)
        refine kX_top (y := nI (o + 1)) (nI_1 o) ?_
        refine kX_cal (mc_choose L xs d τ n r k j so c (o + 1) p s hOt hr4 hk6 hj6 w1 w4 p1 x2 w5 w3 q hs j3) rfl (Or.inr rfl) rfl rfl rfl (fun r1 ω q1 => ?_)
        obtain ⟨rfl, z, z1, z2, rfl⟩ := q1
        have hF : fF σ (va_up (va_up τ 229 (upd (τ 229) j (nI (o + 1)))) 202 (upd (τ 202) (7 * s + 1 + p) (nI z))) := fun e e1 e2 e3 => by rw [up_ne e3, up_ne e2]; exact j2 e e1 e2 e3
        have hH := cHo_set (f := upd (τ 202) (7 * s + 1 + p) (nI z)) j4 (by omega) w1 w4 w5 w3 q mm (Or.inl rfl)
        have hVV := cV_set (s := s) (p := p) j5 z1 (by rw [← j2 8 (by decide) (by decide) (by decide)]; exact z2)
        iterate 1 (refine kX_one rfl ?_)
        refine kX_getN rfl rfl (kT_ev hr4 hk6) rfl ?_
        iterate 3 (refine kX_one rfl ?_)
        refine kX_top (y := nI (j + 1)) (nI_1 j) ?_
        refine kX_ialdV rfl ((kT_e3 hr4 hk6).2) (by decide) (j + 1) (by first | rfl | decide) (by omega) ((congrFun (hF _ (by omega) (by omega) (by omega)) (j + 1)).trans f2) ?_
        refine kX_ret (i := .ireturn) (len := 1) rfl (Or.inr rfl) rfl (⟨⟨f, f1, rfl⟩, hF, j3, hH, hVV⟩)
  unfold kXM
  iterate 1 (refine kX_one rfl ?_)
  refine kX_getN rfl rfl (kT_ev hr4 hk6) rfl ?_
  refine kX_top (m2) ?_
  iterate 2 (refine kX_one rfl ?_)
  refine kX_top (y := pv mm) (pv_sub mm) ?_
  iterate 1 (refine kX_one rfl ?_)
  exact kX_lv _ rfl rfl rfl (loop (mm, σ) ⟨Nat.le_refl _, hW⟩)
