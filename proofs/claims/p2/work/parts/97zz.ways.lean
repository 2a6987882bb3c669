section
/-! the class: choose, first, next -/
theorem ev_b (r k i : Nat) (hr : r < 4) (hk : k < 6) (hi : i < 5) : 28 + 35 * r + 5 * k + i < 163 := by omega
set_option maxRecDepth 100000 in
set_option maxHeartbeats 4000000 in
theorem mc_choose (L : Nat) (xs : Nat → Int32) (d : Nat) (σ : kS) (n r k j so c o p s : Nat) (h : cO σ n) (hr4 : r < 4) (hk6 : k < 6) (hj : j < 6) (hso : so < 4) (hso2 : σ (28 + 35 * r + 5 * k + 2) j = nI so) (hp : p < 6) (hp2 : σ (28 + 35 * r + 5 * k + 1) j = nI p) (hc : σ 228 so = nI c) (hc2 : c ≤ 200) (ho : o < c) (hs : s < 4) (hv : σ 222 3 = nI (7 * s + 1)) : kXM kT L xs (d + 1) 34 [.ref 222, .ref (28 + 35 * r + 5 * k), .int (nI j), .int (nI o)] σ (fun q σ' => q = none ∧ ∃ z, z < n ∧ σ 8 z = 1 ∧ σ' = va_up (va_up σ 229 (upd (σ 229) j (nI o))) 202 (upd (σ 202) (7 * s + 1 + p) (nI z))) := by
  have b1 := ev_b r k 1 hr4 hk6 (by decide)
  have b2 := ev_b r k 2 hr4 hk6 (by decide)
  obtain ⟨c', a1, a2, a3⟩ := h so hso
  obtain rfl : c = c' := nI_inj (hc.symm.trans a2)
  obtain ⟨z, z1, z2, z3⟩ := a3 o ho
  unfold kXM
  iterate 4 (refine kX_one rfl ?_)
  refine kX_iastN rfl rfl (by decide) (j) (by first | rfl | decide) (hj) ?_
  have e202 : va_up σ 229 (upd (σ 229) j (nI o)) 202 = σ 202 := rfl
  have ee : ∀ e, e ≠ 229 → va_up σ 229 (upd (σ 229) j (nI o)) e = σ e := fun e he => up_ne he
  generalize va_up σ 229 (upd (σ 229) j (nI o)) = ρ at *
  iterate 4 (refine kX_one rfl ?_)
  refine kX_top (y := nI (7 * s + 1)) (by rw [ee 222 (by decide)]; exact hv) ?_
  iterate 1 (refine kX_one rfl ?_)
  refine kX_getN rfl rfl (kT_ev hr4 hk6) rfl ?_
  iterate 1 (refine kX_one rfl ?_)
  refine kX_ialdV rfl (kT_e1 hr4 hk6 (Or.inl rfl)) (by decide) (j) (by first | rfl | decide) (hj) ((congrFun (ee _ (by omega)) j).trans hp2) ?_
  iterate 1 (refine kX_one rfl ?_)
  refine kX_top (y := nI (7 * s + 1 + p)) (nI_add (7 * s + 1) p) ?_
  iterate 3 (refine kX_one rfl ?_)
  refine kX_getN rfl rfl (kT_ev hr4 hk6) rfl ?_
  iterate 1 (refine kX_one rfl ?_)
  refine kX_ialdV rfl (kT_e1 hr4 hk6 (Or.inr rfl)) (by decide) (j) (by first | rfl | decide) (hj) ((congrFun (ee _ (by omega)) j).trans hso2) ?_
  refine kX_aaldN rfl (rfl) (by decide) (by decide) (by decide) (so) (by first | rfl | decide) (hso) (op_at hso) ?_
  iterate 1 (refine kX_one rfl ?_)
  refine kX_ialdV rfl (kT_op hso) (by decide) (o) (by first | rfl | decide) (by omega) ((congrFun (ee _ (by omega)) o).trans z2) ?_
  refine kX_iastN rfl rfl (by decide) (7 * s + 1 + p) (by first | rfl | decide) (by omega) ?_
  refine kX_ret (i := .return_) (len := 1) rfl (Or.inr rfl) rfl ⟨rfl, z, z1, z3, ?_⟩
  rw [e202]
/-- only the way has changed -/
def fF (σ τ : kS) : Prop := ∀ c, c ≠ 222 → c ≠ 229 → c ≠ 202 → τ c = σ c
def cHo (τ : kS) (a m : Nat) : Prop := ∀ j, j < m → ∃ so c o, so < 4 ∧ o < c ∧ c ≤ 200 ∧ τ (a + 2) j = nI so ∧ τ 228 so = nI c ∧ τ 229 j = nI o
def wyP (σ τ : kS) (n S s a m : Nat) : Prop := fF σ τ ∧ τ 222 3 = nI (7 * s + 1) ∧ cHo τ a m ∧ cV σ n S (τ 202) 0
theorem cHo_set {τ : kS} {a m j so c o : Nat} {f : Nat → Int32} (h : cHo τ a m) (ha : a + 2 < 200) (hso : so < 4) (hso2 : τ (a + 2) j = nI so) (hc : τ 228 so = nI c) (hc2 : c ≤ 200) (ho : o < c) : ∀ m', (m' = m ∨ m' = j + 1 ∧ j = m) → cHo (va_up (va_up τ 229 (upd (τ 229) j (nI o))) 202 f) a m' := by
  intro m' hm i hi
  by_cases e : i = j
  · subst e
    refine ⟨so, c, o, hso, ho, hc2, ?_, ?_, ?_⟩
    · rw [up_ne (by omega), up_ne (by omega)]
      exact hso2
    · rw [up_ne (by decide), up_ne (by decide)]
      exact hc
    · rw [up_ne (by decide), up_eq, pk_us]
  · obtain ⟨so', c', o', a1, a2, a3, a4, a5, a6⟩ := h i (by omega)
    refine ⟨so', c', o', a1, a2, a3, ?_, ?_, ?_⟩
    · rw [up_ne (by omega), up_ne (by omega)]
      exact a4
    · rw [up_ne (by decide), up_ne (by decide)]
      exact a5
    · rw [up_ne (by decide), up_eq, pk_un e]
      exact a6
theorem cV_set {σ : kS} {n S s p z : Nat} {A : Nat → Int32} (h : cV σ n S A 0) (hz : z < n) (hg : σ 8 z = 1) : cV σ n S (upd A (7 * s + 1 + p) (nI z)) 0 := fun s' k hs' hk => by
  by_cases e : 0 + 7 * s' + 1 + k = 7 * s + 1 + p
  · rw [e, pk_us]
    exact Or.inr ⟨z, hz, rfl, hg⟩
  · rw [pk_un e]
    exact h s' k hs' hk
set_option maxRecDepth 100000 in
set_option maxHeartbeats 4000000 in
theorem mc_first (L : Nat) (xs : Nat → Int32) (d : Nat) (σ : kS) (n S r k s m : Nat) (h : cO σ n) (hr4 : r < 4) (hk6 : k < 6) (hE : cE σ n (28 + 35 * r + 5 * k)) (hm : σ (28 + 35 * r + 5 * k) 4 = nI m) (hm6 : m ≤ 6) (hW : cW σ (28 + 35 * r + 5 * k) m) (hs : s < 4) (hV : cV σ n S (σ 202) 0) : kXM kT L xs (d + 2) 32 [.ref 222, .ref (28 + 35 * r + 5 * k), .int (nI s)] σ (fun q σ' => (∃ f, f ≤ 24 ∧ q = some (.int (nI f))) ∧ wyP σ σ' n S s (28 + 35 * r + 5 * k) m) := by
  have b0 := ev_b r k 0 hr4 hk6 (by decide)
  have b1 := ev_b r k 1 hr4 hk6 (by decide)
  have b2 := ev_b r k 2 hr4 hk6 (by decide)
  obtain ⟨t, mm, qq, t1, m6, -, t2, m2, -, bd, -⟩ := hE
  obtain rfl : mm = m := nI_inj (m2.symm.trans hm)
  have loop : ∀ q : Nat × kS, (q.1 ≤ mm ∧ wyP σ q.2 n S s (28 + 35 * r + 5 * k) q.1) → kX kT L xs (d + 2) 32 12 [(3, .int (nI q.1)), (0, .ref 222), (1, .ref (28 + 35 * r + 5 * k)), (2, .int (nI s))] [] q.2 (fun q σ' => (∃ f, f ≤ 24 ∧ q = some (.int (nI f))) ∧ wyP σ σ' n S s (28 + 35 * r + 5 * k) mm) := by
    refine kX_while (fun q : Nat × kS => [(3, .int (nI q.1)), (0, .ref 222), (1, .ref (28 + 35 * r + 5 * k)), (2, .int (nI s))]) (fun q => q.2) _ (fun q => mm - q.1) ?_
    rintro ⟨j, τ⟩ ⟨j1, j2, j3, j4, j5⟩ ih
    dsimp only at j1 j2 j3 j4 j5 ih ⊢
    iterate 2 (refine kX_one rfl ?_)
    refine kX_getN rfl rfl (kT_ev hr4 hk6) rfl ?_
    refine kX_top (y := nI mm) (by rw [j2 _ (by omega) (by omega) (by omega)]; exact m2) ?_
    repeat refine kX_one rfl ?_
    refine kX_if (fun q => ?_) (fun q => ?_)
    · have q := qge q j mm
      obtain rfl : j = mm := by omega
      repeat refine kX_one rfl ?_
      refine kX_ret (i := .ireturn) (len := 1) rfl (Or.inr rfl) rfl (⟨⟨0, by decide, rfl⟩, j2, j3, j4, j5⟩)
    · have q := qgeF q j mm
      have hj6 : j < 6 := by omega
      obtain ⟨⟨p, p1, p2⟩, -⟩ := bd j q
      obtain ⟨so, c, w1, w2, w3, w4, w5⟩ := hW j q
      have hOt : cO τ n := cO_eq (fun z _ => by rw [j2 8 (by decide) (by decide) (by decide)]) (fun e e1 e2 => j2 e (by omega) (by omega) (by omega)) h
      have x1 : τ (28 + 35 * r + 5 * k + 2) j = nI so := by rw [j2 _ (by omega) (by omega) (by omega)]; exact w4
      have x2 : τ (28 + 35 * r + 5 * k + 1) j = nI p := by rw [j2 _ (by omega) (by omega) (by omega)]; exact p2
      have x3 : τ 228 so = nI c := by rw [j2 _ (by decide) (by decide) (by decide)]; exact w5
      iterate 4 (refine kX_one rfl ?_)
      refine kX_cal (mc_choose L xs d τ n r k j so c 0 p s hOt hr4 hk6 hj6 w1 x1 p1 x2 x3 w3 w2 hs j3) rfl (Or.inr rfl) rfl rfl rfl (fun r1 ω q1 => ?_)
      obtain ⟨rfl, z, z1, z2, rfl⟩ := q1
      iterate 2 (refine kX_one rfl ?_)
      have := ih (j + 1, va_up (va_up τ 229 (upd (τ 229) j (nI 0))) 202 (upd (τ 202) (7 * s + 1 + p) (nI z))) ⟨q, fun e e1 e2 e3 => (up_ne e3).trans ((up_ne e2).trans (j2 e e1 e2 e3)), j3, cHo_set j4 (by omega) w1 x1 x3 w3 w2 (j + 1) (Or.inr ⟨rfl, rfl⟩), cV_set j5 z1 (by rw [← j2 8 (by decide) (by decide) (by decide)]; exact z2)⟩ (by simp only; omega)
      dsimp only at this
      rw [← nI_1] at this
      exact kX_lv _ rfl rfl rfl this
  unfold kXM
  iterate 6 (refine kX_one rfl ?_)
  refine kX_top (y := nI (7 * s + 1)) (ix7z s) ?_
  iterate 3 (refine kX_one rfl ?_)
  exact kX_lv _ rfl rfl rfl (loop (0, va_up σ 222 (upd (σ 222) 3 (nI (7 * s + 1)))) ⟨Nat.zero_le _, fun e e1 _ _ => up_ne e1, rfl, fun j hj => absurd hj (Nat.not_lt_zero j), hV⟩)
set_option maxRecDepth 100000 in
set_option maxHeartbeats 4000000 in
theorem mc_next (L : Nat) (xs : Nat → Int32) (d : Nat) (σ : kS) (n S r k s m : Nat) (h : cO σ n) (hr4 : r < 4) (hk6 : k < 6) (hE : cE σ n (28 + 35 * r + 5 * k)) (hm : σ (28 + 35 * r + 5 * k) 4 = nI m) (hm6 : m ≤ 6) (hs : s < 4) (hW : wyP σ σ n S s (28 + 35 * r + 5 * k) m) : kXM kT L xs (d + 2) 33 [.ref 222, .ref (28 + 35 * r + 5 * k)] σ (fun q σ' => (∃ f, f ≤ 24 ∧ q = some (.int (nI f))) ∧ wyP σ σ' n S s (28 + 35 * r + 5 * k) m) := by
  have b0 := ev_b r k 0 hr4 hk6 (by decide)
  have b1 := ev_b r k 1 hr4 hk6 (by decide)
  have b2 := ev_b r k 2 hr4 hk6 (by decide)
  have b4 := ev_b r k 4 hr4 hk6 (by decide)
  obtain ⟨t, mm, qq, t1, m6, -, t2, m2, -, bd, -⟩ := hE
  obtain rfl : mm = m := nI_inj (m2.symm.trans hm)
  have loop : ∀ q : Nat × kS, (q.1 ≤ mm ∧ wyP σ q.2 n S s (28 + 35 * r + 5 * k) mm) → kX kT L xs (d + 2) 33 7 [(2, .int (pv q.1)), (0, .ref 222), (1, .ref (28 + 35 * r + 5 * k))] [] q.2 (fun q σ' => (∃ f, f ≤ 24 ∧ q = some (.int (nI f))) ∧ wyP σ σ' n S s (28 + 35 * r + 5 * k) mm) := by
    refine kX_while (fun q : Nat × kS => [(2, .int (pv q.1)), (0, .ref 222), (1, .ref (28 + 35 * r + 5 * k))]) (fun q => q.2) _ (fun q => q.1) ?_
    rintro ⟨q, τ⟩ ⟨j1, j2, j3, j4, j5⟩ ih
    dsimp only at j1 j2 j3 j4 j5 ih ⊢
    cases q with
    | zero =>
      show kX kT L xs (d + 2) 33 7 [(2, .int (-1)), (0, .ref 222), (1, .ref (28 + 35 * r + 5 * k))] [] τ _
      repeat refine kX_one rfl ?_
      refine kX_ret (i := .ireturn) (len := 1) rfl (Or.inr rfl) rfl (⟨⟨0, by decide, rfl⟩, j2, j3, j4, j5⟩)
    | succ j =>
      show kX kT L xs (d + 2) 33 7 [(2, .int (nI j)), (0, .ref 222), (1, .ref (28 + 35 * r + 5 * k))] [] τ _
      have hj : j < mm := by omega
      have hj6 : j < 6 := by omega
      obtain ⟨⟨p, p1, p2⟩, -, f, f1, f2⟩ := bd j hj
      obtain ⟨so, c, o, w1, w2, w3, w4, w5, w6⟩ := j4 j hj
      have hOt : cO τ n := cO_eq (fun z _ => by rw [j2 8 (by decide) (by decide) (by decide)]) (fun e e1 e2 => j2 e (by omega) (by omega) (by omega)) h
      have x2 : τ (28 + 35 * r + 5 * k + 1) j = nI p := by rw [j2 _ (by omega) (by omega) (by omega)]; exact p2
      repeat refine kX_one rfl ?_
      refine kX_ifF (decide_eq_false (nI_pos (by omega))) ?_
      iterate 3 (refine kX_one rfl ?_)
      refine kX_ialdV rfl rfl (by decide) (j) (by first | rfl | decide) (hj6) (w6) ?_
      iterate 2 (refine kX_one rfl ?_)
      refine kX_top (y := nI (o + 1)) (nI_1 o) ?_
      iterate 3 (refine kX_one rfl ?_)
      refine kX_getN rfl rfl (kT_ev hr4 hk6) rfl ?_
      iterate 1 (refine kX_one rfl ?_)
      refine kX_ialdV rfl (kT_e1 hr4 hk6 (Or.inr rfl)) (by decide) (j) (by first | rfl | decide) (hj6) (w4) ?_
      refine kX_ialdV rfl rfl (by decide) (so) (by first | rfl | decide) (w1) (w5) ?_
      repeat refine kX_one rfl ?_
      refine kX_if (fun q => ?_) (fun q => ?_)
      · iterate 4 (refine kX_one rfl ?_)
        refine kX_cal (mc_choose L xs d τ n r k j so c 0 p s hOt hr4 hk6 hj6 w1 w4 p1 x2 w5 w3 (by omega) hs j3) rfl (Or.inr rfl) rfl rfl rfl (fun r1 ω q1 => ?_)
        obtain ⟨rfl, z, z1, z2, rfl⟩ := q1
        iterate 2 (refine kX_one rfl ?_)
        have := ih (j, va_up (va_up τ 229 (upd (τ 229) j (nI 0))) 202 (upd (τ 202) (7 * s + 1 + p) (nI z))) ⟨by omega, fun e e1 e2 e3 => (up_ne e3).trans ((up_ne e2).trans (j2 e e1 e2 e3)), j3, cHo_set j4 (by omega) w1 w4 w5 w3 (by omega) mm (Or.inl rfl), cV_set j5 z1 (by rw [← j2 8 (by decide) (by decide) (by decide)]; exact z2)⟩ (by simp only; omega)
        dsimp only at this
        rw [pv_dec] at this
        exact kX_lv _ rfl rfl rfl this
      · have q := qgeF q (o + 1) c
        iterate 6 (refine kX_one rfl ?_)
        refine kX_ialdV rfl rfl (by decide) (j) (by first | rfl | decide) (hj6) (w6) ?_
        iterate 2 (refine kX_one rfl ?_)
        refine kX_top (y := nI (o + 1)) (nI_1 o) ?_
        refine kX_cal (mc_choose L xs d τ n r k j so c (o + 1) p s hOt hr4 hk6 hj6 w1 w4 p1 x2 w5 w3 q hs j3) rfl (Or.inr rfl) rfl rfl rfl (fun r1 ω q1 => ?_)
        obtain ⟨rfl, z, z1, z2, rfl⟩ := q1
        have hF : fF σ (va_up (va_up τ 229 (upd (τ 229) j (nI (o + 1)))) 202 (upd (τ 202) (7 * s + 1 + p) (nI z))) := fun e e1 e2 e3 => by rw [up_ne e3, up_ne e2]; exact j2 e e1 e2 e3
        have hH := cHo_set (f := upd (τ 202) (7 * s + 1 + p) (nI z)) j4 (by omega) w1 w4 w5 w3 q mm (Or.inl rfl)
        have hVV := cV_set (s := s) (p := p) j5 z1 (by rw [← j2 8 (by decide) (by decide) (by decide)]; exact z2)
        iterate 1 (refine kX_one rfl ?_)
        refine kX_getN rfl rfl (kT_ev hr4 hk6) rfl ?_
        iterate 3 (refine kX_one rfl ?_)
        refine kX_top (y := nI (j + 1)) (nI_1 j) ?_
        refine kX_ialdV rfl ((kT_e3 hr4 hk6).2) (by decide) (j + 1) (by first | rfl | decide) (by omega) ((congrFun (hF _ (by omega) (by omega) (by omega)) (j + 1)).trans f2) ?_
        refine kX_ret (i := .ireturn) (len := 1) rfl (Or.inr rfl) rfl (⟨⟨f, f1, rfl⟩, hF, j3, hH, hVV⟩)
  unfold kXM
  iterate 1 (refine kX_one rfl ?_)
  refine kX_getN rfl rfl (kT_ev hr4 hk6) rfl ?_
  refine kX_top (m2) ?_
  iterate 2 (refine kX_one rfl ?_)
  refine kX_top (y := pv mm) (pv_sub mm) ?_
  iterate 1 (refine kX_one rfl ?_)
  exact kX_lv _ rfl rfl rfl (loop (mm, σ) ⟨Nat.le_refl _, hW⟩)
end
section
/-! the class: a way is weighed -/
theorem cKw_of {σ : kS} {K st n u : Nat} (h1 : nB σ K st n u) (h2 : nR σ K) (h3 : cKe σ K st u) : cKw σ K st := by
  obtain ⟨ln, a1, a2, a3⟩ := h2
  exact ⟨h1.2.2.2.2.1, u, ln, h1.2.2.1, a1, h1.2.2.2.2.2, a2, a3, h3⟩
theorem cKw_P {σ τ : kS} {K st n : Nat} (hK : isK K st) (hT : cT σ n) (h : cKw σ K st) (hP : nP σ τ K) : cKw τ K st := by
  obtain ⟨u, h1, h2, h3⟩ := cKw_n hK hT h
  have hb := isK_b hK
  refine cKw_of (nB_P h1 hP) hP.2.2.2 (cKe_eq (by omega) hP.2.1 (fun g _ => ?_) h3)
  rw [hP.1 2 (by omega), hP.1 3 (by omega), hP.1 4 (by omega), hP.1 6 (by omega)]
  exact ⟨rfl, rfl, rfl, rfl⟩
set_option maxRecDepth 100000 in
set_option maxHeartbeats 4000000 in
theorem mc_qValueOf (L : Nat) (xs : Nat → Int32) (d : Nat) (σ : kS) (n u s t : Nat) (hT : cT σ n) (ht : t < n) (hs : s < 4) (hv : σ 222 3 = nI (7 * s + 1)) (hB : nB σ 204 776 n u) (he : cKe σ 204 776 u) : kXM kT L xs (d + 3) 36 [.ref 222, .int (nI t)] σ (fun r σ' => (∃ x, r = some (.int x) ∧ (x = -1 → σ 8 t = 0)) ∧ σ = σ') := by
  have hn := hT.1
  unfold kXM
  iterate 4 (refine kX_one rfl ?_)
  refine kX_baldN rfl rfl (by decide) (t) (by first | rfl | decide) (by omega) ?_
  repeat refine kX_one rfl ?_
  refine kX_if (fun q => ?_) (fun q => ?_)
  · have hg0 : σ 8 t = 0 := qeq q
    have k87 : ∀ X Y v : Int32, kX kT L xs (d + 3) 36 87 [(3, .int v), (2, .int X), (0, .ref 222), (1, .int (nI t))] [.int Y] σ (fun r σ' => (∃ x, r = some (.int x) ∧ (x = -1 → σ 8 t = 0)) ∧ σ = σ') := by
      intro X Y v
      have k105 : kX kT L xs (d + 3) 36 105 [(4, .int Y), (3, .int v), (2, .int X), (0, .ref 222), (1, .int (nI t))] [] σ (fun r σ' => (∃ x, r = some (.int x) ∧ (x = -1 → σ 8 t = 0)) ∧ σ = σ') := by
        iterate 11 (refine kX_one rfl ?_)
        refine kX_ialdN rfl rfl (by decide) (t) (by first | rfl | decide) (by omega) ?_
        iterate 2 (refine kX_one rfl ?_)
        refine kX_cal (mc_kFind L xs d σ 204 776 n u _ _ _ hB he hT) rfl (Or.inr rfl) rfl rfl rfl (fun r1 σ1 q1 => ?_)
        obtain ⟨hq, rfl⟩ := q1
        rcases hq with rfl | ⟨z, -, rfl, -⟩ | ⟨z, -, -, rfl⟩
        · repeat refine kX_one rfl ?_
          refine kX_ret (i := .ireturn) (len := 1) rfl (Or.inr rfl) rfl (⟨⟨_, rfl, fun _ => hg0⟩, rfl⟩)
        · repeat refine kX_one rfl ?_
          refine kX_ret (i := .ireturn) (len := 1) rfl (Or.inr rfl) rfl (⟨⟨_, rfl, fun _ => hg0⟩, rfl⟩)
        · repeat refine kX_one rfl ?_
          refine kX_ret (i := .ireturn) (len := 1) rfl (Or.inr rfl) rfl (⟨⟨_, rfl, fun _ => hg0⟩, rfl⟩)
      iterate 1 (refine kX_one rfl ?_)
      repeat refine kX_one rfl ?_
      refine kX_if (fun q => ?_) (fun q => ?_)
      · repeat refine kX_one rfl ?_
        refine kX_ret (i := .ireturn) (len := 1) rfl (Or.inr rfl) rfl (⟨⟨_, rfl, fun _ => hg0⟩, rfl⟩)
      · repeat refine kX_one rfl ?_
        refine kX_if (fun q => ?_) (fun q => ?_)
        · exact kX_lv _ rfl rfl rfl k105
        · repeat refine kX_one rfl ?_
          refine kX_if (fun q => ?_) (fun q => ?_)
          · repeat refine kX_one rfl ?_
            refine kX_ret (i := .ireturn) (len := 1) rfl (Or.inr rfl) rfl (⟨⟨_, rfl, fun _ => hg0⟩, rfl⟩)
          · exact kX_lv _ rfl rfl rfl k105
    iterate 4 (refine kX_one rfl ?_)
    refine kX_ialdN rfl rfl (by decide) (t) (by first | rfl | decide) (by omega) ?_
    repeat refine kX_one rfl ?_
    refine kX_if (fun q2 => ?_) (fun q2 => ?_)
    · obtain ⟨x, x1, x2, hy⟩ := cT_open hT ht hg0 (qne q2)
      iterate 6 (refine kX_one rfl ?_)
      refine kX_ialdV rfl rfl (by decide) (t) (by first | rfl | decide) (by omega) (x2) ?_
      refine kX_ialdN rfl rfl (by decide) (x) (by first | rfl | decide) (by omega) ?_
      iterate 5 (refine kX_one rfl ?_)
      rcases hy with ⟨y, y1, y2⟩ | ⟨y2, -⟩
      · refine kX_ialdV rfl rfl (by decide) (t) (by first | rfl | decide) (by omega) (y2) ?_
        iterate 1 (refine kX_one rfl ?_)
        repeat refine kX_one rfl ?_
        refine kX_if (fun q3 => ?_) (fun q3 => ?_)
        · iterate 3 (refine kX_one rfl ?_)
          refine kX_ialdN rfl rfl (by decide) (y) (by first | rfl | decide) (by omega) ?_
          exact kX_lv _ rfl rfl rfl (k87 _ _ _)
        · exact absurd (qneF q3) (nI_m1 (by omega))
      · refine kX_ialdV rfl rfl (by decide) (t) (by first | rfl | decide) (by omega) (y2) ?_
        iterate 6 (refine kX_one rfl ?_)
        exact kX_lv _ rfl rfl rfl (k87 _ _ _)
    · obtain ⟨-, p, p1, p2⟩ := (hT.2.2.2 t ht).2.2.2.2.1 (qneF q2)
      iterate 4 (refine kX_one rfl ?_)
      refine kX_top (hv) ?_
      iterate 4 (refine kX_one rfl ?_)
      refine kX_ialdV rfl rfl (by decide) (t) (by first | rfl | decide) (by omega) (p2) ?_
      iterate 1 (refine kX_one rfl ?_)
      refine kX_top (y := nI (7 * s + 1 + p)) (nI_add (7 * s + 1) p) ?_
      refine kX_ialdN rfl rfl (by decide) (7 * s + 1 + p) (by first | rfl | decide) (by omega) ?_
      refine kX_ret (i := .ireturn) (len := 1) rfl (Or.inr rfl) rfl (⟨⟨_, rfl, fun _ => hg0⟩, rfl⟩)
  · repeat refine kX_one rfl ?_
    refine kX_ret (i := .ireturn) (len := 1) rfl (Or.inr rfl) rfl (⟨⟨_, rfl, fun e => absurd e (nI_m1 (by omega))⟩, rfl⟩)
set_option maxRecDepth 100000 in
set_option maxHeartbeats 4000000 in
theorem mc_canCompose (L : Nat) (xs : Nat → Int32) (d : Nat) (σ : kS) (n u t : Nat) (hT : cT σ n) (ht : t < n) (hg0 : σ 8 t = 0) (hB : nB σ 204 776 n u) (hcan : ∀ j, j < 200 → σ 231 j = 0 ∨ σ 231 j = 1) : kXM kT L xs (d + 2) 37 [.ref 222, .int (nI t)] σ (fun r σ' => (r = some (.int 0) ∨ r = some (.int 1)) ∧ σ = σ') := by
  have hn := hT.1
  obtain ⟨k, k9, hk⟩ := (hT.2.2.2 t ht).1
  unfold kXM
  by_cases hk3 : k ≤ 3
  · iterate 4 (refine kX_one rfl ?_)
    refine kX_ialdN rfl rfl (by decide) (t) (by first | rfl | decide) (by omega) ?_
    iterate 5 (refine kX_one rfl ?_)
    refine kX_ialdN rfl rfl (by decide) (t) (by first | rfl | decide) (by omega) ?_
    iterate 5 (refine kX_one rfl ?_)
    refine kX_ialdV rfl rfl (by decide) (t) (by first | rfl | decide) (by omega) (hk) ?_
    have : k = 0 ∨ k = 1 ∨ k = 2 ∨ k = 3 := by omega
    rcases this with rfl | rfl | rfl | rfl
    · repeat refine kX_one rfl ?_
      refine kX_ret (i := .ireturn) (len := 1) rfl (Or.inr rfl) rfl (⟨Or.inl rfl, rfl⟩)
    · repeat refine kX_one rfl ?_
      refine kX_ret (i := .ireturn) (len := 1) rfl (Or.inr rfl) rfl (⟨Or.inl rfl, rfl⟩)
    · repeat refine kX_one rfl ?_
      refine kX_ret (i := .ireturn) (len := 1) rfl (Or.inr rfl) rfl (⟨Or.inl rfl, rfl⟩)
    · repeat refine kX_one rfl ?_
      refine kX_ret (i := .ireturn) (len := 1) rfl (Or.inr rfl) rfl (⟨Or.inl rfl, rfl⟩)
  · obtain ⟨x, x1, x2, hy⟩ := cT_open hT ht hg0 (by rw [hk]; exact nI_ne (b := 3) (by omega))
    have hy' : k ≠ 7 → k ≠ 9 → ∃ y, y < t ∧ σ 4 t = nI y := fun a b => by
      rcases hy with hy | ⟨-, z | z⟩
      · exact hy
      · exact absurd (nI_inj (hk.symm.trans z)) a
      · exact absurd (nI_inj (hk.symm.trans z)) b
    have hx200 : x < 200 := by omega
    iterate 4 (refine kX_one rfl ?_)
    refine kX_ialdV rfl rfl (by decide) (t) (by first | rfl | decide) (by omega) (x2) ?_
    iterate 5 (refine kX_one rfl ?_)
    have : k = 4 ∨ k = 5 ∨ k = 6 ∨ k = 7 ∨ k = 8 ∨ k = 9 := by omega
    rcases this with rfl | rfl | rfl | rfl | rfl | rfl
    · obtain ⟨y, y1, y2⟩ := hy' (by decide) (by decide)
      refine kX_ialdV rfl rfl (by decide) (t) (by first | rfl | decide) (by omega) (y2) ?_
      iterate 5 (refine kX_one rfl ?_)
      refine kX_ialdV rfl rfl (by decide) (t) (by first | rfl | decide) (by omega) (hk) ?_
      iterate 4 (refine kX_one rfl ?_)
      refine kX_baldN rfl rfl (by decide) (x) (by first | rfl | decide) (by omega) ?_
      repeat refine kX_one rfl ?_
      refine kX_if (fun q => ?_) (fun q => ?_)
      · repeat refine kX_one rfl ?_
        refine kX_ret (i := .ireturn) (len := 1) rfl (Or.inr rfl) rfl (⟨Or.inl rfl, rfl⟩)
      · iterate 3 (refine kX_one rfl ?_)
        refine kX_baldN rfl rfl (by decide) (y) (by first | rfl | decide) (by omega) ?_
        repeat refine kX_one rfl ?_
        refine kX_if (fun q => ?_) (fun q => ?_)
        · repeat refine kX_one rfl ?_
          refine kX_ret (i := .ireturn) (len := 1) rfl (Or.inr rfl) rfl (⟨Or.inl rfl, rfl⟩)
        · repeat refine kX_one rfl ?_
          refine kX_ret (i := .ireturn) (len := 1) rfl (Or.inr rfl) rfl (⟨Or.inr rfl, rfl⟩)
    · obtain ⟨y, y1, y2⟩ := hy' (by decide) (by decide)
      refine kX_ialdV rfl rfl (by decide) (t) (by first | rfl | decide) (by omega) (y2) ?_
      iterate 5 (refine kX_one rfl ?_)
      refine kX_ialdV rfl rfl (by decide) (t) (by first | rfl | decide) (by omega) (hk) ?_
      iterate 4 (refine kX_one rfl ?_)
      refine kX_baldN rfl rfl (by decide) (x) (by first | rfl | decide) (by omega) ?_
      repeat refine kX_one rfl ?_
      refine kX_if (fun q => ?_) (fun q => ?_)
      · repeat refine kX_one rfl ?_
        refine kX_ret (i := .ireturn) (len := 1) rfl (Or.inr rfl) rfl (⟨Or.inl rfl, rfl⟩)
      · iterate 3 (refine kX_one rfl ?_)
        refine kX_baldN rfl rfl (by decide) (y) (by first | rfl | decide) (by omega) ?_
        repeat refine kX_one rfl ?_
        refine kX_if (fun q => ?_) (fun q => ?_)
        · repeat refine kX_one rfl ?_
          refine kX_ret (i := .ireturn) (len := 1) rfl (Or.inr rfl) rfl (⟨Or.inl rfl, rfl⟩)
        · repeat refine kX_one rfl ?_
          refine kX_ret (i := .ireturn) (len := 1) rfl (Or.inr rfl) rfl (⟨Or.inr rfl, rfl⟩)
    · refine kX_ialdN rfl rfl (by decide) (t) (by first | rfl | decide) (by omega) ?_
      iterate 5 (refine kX_one rfl ?_)
      refine kX_ialdV rfl rfl (by decide) (t) (by first | rfl | decide) (by omega) (hk) ?_
      iterate 4 (refine kX_one rfl ?_)
      rcases hcan x hx200 with e | e
      · refine kX_baldV rfl rfl (by decide) x (by rfl) (by omega) e ?_
        refine kX_ret (i := .ireturn) (len := 1) rfl (Or.inr rfl) rfl (⟨Or.inl rfl, rfl⟩)
      · refine kX_baldV rfl rfl (by decide) x (by rfl) (by omega) e ?_
        refine kX_ret (i := .ireturn) (len := 1) rfl (Or.inr rfl) rfl (⟨Or.inr rfl, rfl⟩)
    · refine kX_ialdN rfl rfl (by decide) (t) (by first | rfl | decide) (by omega) ?_
      iterate 5 (refine kX_one rfl ?_)
      refine kX_ialdV rfl rfl (by decide) (t) (by first | rfl | decide) (by omega) (hk) ?_
      iterate 6 (refine kX_one rfl ?_)
      refine kX_ialdN rfl rfl (by decide) (x) (by first | rfl | decide) (by omega) ?_
      refine kX_cal (mc_hasPriv L xs d σ 204 776 n u _ hB) rfl (Or.inr rfl) rfl rfl rfl (fun r1 σ1 q1 => ?_)
      obtain ⟨hq, rfl⟩ := q1
      rcases hq with rfl | rfl
      · refine kX_ret (i := .ireturn) (len := 1) rfl (Or.inr rfl) rfl (⟨Or.inl rfl, rfl⟩)
      · refine kX_ret (i := .ireturn) (len := 1) rfl (Or.inr rfl) rfl (⟨Or.inr rfl, rfl⟩)
    · obtain ⟨y, y1, y2⟩ := hy' (by decide) (by decide)
      refine kX_ialdV rfl rfl (by decide) (t) (by first | rfl | decide) (by omega) (y2) ?_
      iterate 5 (refine kX_one rfl ?_)
      refine kX_ialdV rfl rfl (by decide) (t) (by first | rfl | decide) (by omega) (hk) ?_
      iterate 4 (refine kX_one rfl ?_)
      refine kX_baldN rfl rfl (by decide) (x) (by first | rfl | decide) (by omega) ?_
      repeat refine kX_one rfl ?_
      refine kX_if (fun q => ?_) (fun q => ?_)
      · repeat refine kX_one rfl ?_
        refine kX_ret (i := .ireturn) (len := 1) rfl (Or.inr rfl) rfl (⟨Or.inl rfl, rfl⟩)
      · iterate 5 (refine kX_one rfl ?_)
        refine kX_ialdN rfl rfl (by decide) (y) (by first | rfl | decide) (by omega) ?_
        refine kX_cal (mc_hasPriv L xs d σ 204 776 n u _ hB) rfl (Or.inr rfl) rfl rfl rfl (fun r1 σ1 q1 => ?_)
        obtain ⟨hq, rfl⟩ := q1
        rcases hq with rfl | rfl
        · repeat refine kX_one rfl ?_
          refine kX_ret (i := .ireturn) (len := 1) rfl (Or.inr rfl) rfl (⟨Or.inl rfl, rfl⟩)
        · repeat refine kX_one rfl ?_
          refine kX_ret (i := .ireturn) (len := 1) rfl (Or.inr rfl) rfl (⟨Or.inr rfl, rfl⟩)
    · refine kX_ialdN rfl rfl (by decide) (t) (by first | rfl | decide) (by omega) ?_
      iterate 5 (refine kX_one rfl ?_)
      refine kX_ialdV rfl rfl (by decide) (t) (by first | rfl | decide) (by omega) (hk) ?_
      iterate 4 (refine kX_one rfl ?_)
      rcases hcan x hx200 with e | e
      · refine kX_baldV rfl rfl (by decide) x (by rfl) (by omega) e ?_
        refine kX_ret (i := .ireturn) (len := 1) rfl (Or.inr rfl) rfl (⟨Or.inl rfl, rfl⟩)
      · refine kX_baldV rfl rfl (by decide) x (by rfl) (by omega) e ?_
        refine kX_ret (i := .ireturn) (len := 1) rfl (Or.inr rfl) rfl (⟨Or.inr rfl, rfl⟩)
def wgP (σ τ : kS) : Prop := (∀ c, c < 204 ∨ 213 ≤ c → c ≠ 230 → c ≠ 231 → τ c = σ c) ∧ cKw τ 204 776 ∧ ∀ j, j < 200 → τ 231 j = 0 ∨ τ 231 j = 1
theorem cT_wg {σ τ : kS} {n : Nat} (h : wgP σ τ) (hT : cT σ n) : cT τ n := cT_eq (by rw [h.1 1 (by decide) (by decide) (by decide)]) (h.1 _ (by decide) (by decide) (by decide)) (fun u _ => ⟨by rw [h.1 2 (by decide) (by decide) (by decide)], by rw [h.1 3 (by decide) (by decide) (by decide)], by rw [h.1 4 (by decide) (by decide) (by decide)], by rw [h.1 8 (by decide) (by decide) (by decide)], by rw [h.1 12 (by decide) (by decide) (by decide)], by rw [h.1 6 (by decide) (by decide) (by decide)]⟩) hT
theorem wg_is {σ τ : kS} {f : Nat → Int32} (h : wgP σ τ) : wgP σ (va_up τ 230 f) := ⟨fun c a b e => (up_ne b).trans (h.1 c a b e), h.2.1, h.2.2⟩
theorem wg_can {σ τ : kS} {t : Nat} {x : Int32} (h : wgP σ τ) (hx : x = 0 ∨ x = 1) : wgP σ (va_up τ 231 (upd (τ 231) t x)) := ⟨fun c a b e => (up_ne e).trans (h.1 c a b e), h.2.1, fun j hj => by
  rw [up_eq]
  by_cases e : j = t
  · subst e
    rw [pk_us]
    exact hx
  · rw [pk_un e]
    exact h.2.2 j hj⟩
set_option maxRecDepth 100000 in
set_option maxHeartbeats 4000000 in
theorem mc_weigh (L : Nat) (xs : Nat → Int32) (d : Nat) (σ : kS) (n r k s f : Nat) (hT : cT σ n) (hr4 : r < 4) (hk6 : k < 6) (hE : cE σ n (28 + 35 * r + 5 * k)) (hf : f ≤ 24) (hs : s < 4) (hv : σ 222 3 = nI (7 * s + 1)) (hw : wgP σ σ) : kXM kT L xs (d + 52) 35 [.ref 222, .ref (28 + 35 * r + 5 * k), .int (nI f)] σ (fun q σ' => (q = some (.int 0) ∨ q = some (.int 1)) ∧ wgP σ σ') := by
  have hK : isK 204 776 := Or.inr (Or.inl ⟨rfl, rfl⟩)
  have hn := hT.1
  have b0 : 28 + 35 * r + 5 * k < 163 := ev_b r k 0 hr4 hk6 (by decide)
  have b3 := ev_b r k 3 hr4 hk6 (by decide)
  obtain ⟨t, mm, qq, t1, -, q24, t2, -, q2, -, pt⟩ := hE
  have loop : ∀ q : Nat × kS, (q.1 ≤ 24 ∧ wgP σ q.2) → kX kT L xs (d + 52) 35 2 [(3, .int (nI q.1)), (0, .ref 222), (1, .ref (28 + 35 * r + 5 * k)), (2, .int (nI f))] [] q.2 (fun q σ' => (q = some (.int 0) ∨ q = some (.int 1)) ∧ wgP σ σ') := by
    refine kX_while (fun q : Nat × kS => [(3, .int (nI q.1)), (0, .ref 222), (1, .ref (28 + 35 * r + 5 * k)), (2, .int (nI f))]) (fun q => q.2) _ (fun q => 24 - q.1) ?_
    rintro ⟨i, τ⟩ ⟨i1, i2⟩ ih
    dsimp only at i1 i2 ih ⊢
    have ee : ∀ c, c < 163 → τ c = σ c := fun c hc => i2.1 c (by omega) (by omega) (by omega)
    iterate 2 (refine kX_one rfl ?_)
    refine kX_getN rfl rfl (kT_ev hr4 hk6) rfl ?_
    refine kX_top (y := nI qq) (by rw [ee _ b0]; exact q2) ?_
    repeat refine kX_one rfl ?_
    refine kX_if (fun q => ?_) (fun q => ?_)
    · iterate 3 (refine kX_one rfl ?_)
      refine kX_getN rfl rfl (kT_ev hr4 hk6) rfl ?_
      refine kX_top (y := nI t) (by rw [ee _ b0]; exact t2) ?_
      rcases i2.2.2 t (by omega) with e | e
      · refine kX_baldV rfl rfl (by decide) t (by rfl) (by omega) e ?_
        refine kX_ret (i := .ireturn) (len := 1) rfl (Or.inr rfl) rfl (⟨Or.inl rfl, i2⟩)
      · refine kX_baldV rfl rfl (by decide) t (by rfl) (by omega) e ?_
        refine kX_ret (i := .ireturn) (len := 1) rfl (Or.inr rfl) rfl (⟨Or.inr rfl, i2⟩)
    · have q := qgeF q i qq
      obtain ⟨tp, p1, p2⟩ := pt i q
      have hTt := cT_wg i2 hT
      obtain ⟨u, hB, hR, he⟩ := cKw_n hK hTt i2.2.1
      have hvt : τ 222 3 = nI (7 * s + 1) := by rw [i2.1 222 (by decide) (by decide) (by decide)]; exact hv
      have k73 : ∀ τ', wgP σ τ' → kX kT L xs (d + 52) 35 73 [(3, .int (nI i)), (0, .ref 222), (1, .ref (28 + 35 * r + 5 * k)), (2, .int (nI f))] [] τ' (fun q σ' => (q = some (.int 0) ∨ q = some (.int 1)) ∧ wgP σ σ') := by
        intro τ' ht
        iterate 2 (refine kX_one rfl ?_)
        have := ih (i + 1, τ') ⟨by simp only; omega, ht⟩ (by simp only; omega)
        dsimp only at this
        rw [← nI_1] at this
        exact kX_lv _ rfl rfl rfl this
      iterate 1 (refine kX_one rfl ?_)
      refine kX_getN rfl rfl (kT_ev hr4 hk6) rfl ?_
      iterate 1 (refine kX_one rfl ?_)
      refine kX_ialdV rfl ((kT_e3 hr4 hk6).1) (by decide) (i) (by first | rfl | decide) (by omega) ((congrFun (ee _ b3) i).trans p2) ?_
      iterate 6 (refine kX_one rfl ?_)
      refine kX_cal (mc_qValueOf L xs (d + 48) τ n u s tp hTt p1 hs hvt hB he) rfl (Or.inr rfl) rfl rfl rfl (fun r1 σ1 q1 => ?_)
      obtain ⟨⟨x, rfl, hx⟩, rfl⟩ := q1
      refine kX_iastN rfl rfl (by decide) (tp) (by first | rfl | decide) (by omega) ?_
      have j2 : wgP σ (va_up τ 230 (upd (τ 230) tp x)) := wg_is i2
      have hT1 := cT_wg j2 hT
      have hB1 : nB (va_up τ 230 (upd (τ 230) tp x)) 204 776 n u := hB
      have hR1 : nR (va_up τ 230 (upd (τ 230) tp x)) 204 := hR
      have hx1 : va_up τ 230 (upd (τ 230) tp x) 230 tp = x := by rw [up_eq, pk_us]
      have hg1 : x = -1 → va_up τ 230 (upd (τ 230) tp x) 8 tp = 0 := hx
      generalize va_up τ 230 (upd (τ 230) tp x) = ω at *
      iterate 6 (refine kX_one rfl ?_)
      refine kX_ialdV rfl rfl (by decide) tp (by rfl) (by omega) hx1 ?_
      repeat refine kX_one rfl ?_
      refine kX_if (fun q3 => ?_) (fun q3 => ?_)
      · iterate 2 (refine kX_one rfl ?_)
        refine kX_cal (mc_canCompose L xs (d + 49) ω n u tp hT1 p1 (hg1 (qeq q3)) hB1 j2.2.2) rfl (Or.inr rfl) rfl rfl rfl (fun r1 σ1 q1 => ?_)
        obtain ⟨hq, rfl⟩ := q1
        rcases hq with rfl | rfl
        · refine kX_bastN rfl rfl (by decide) (tp) (by first | rfl | decide) (by omega) (Or.inl rfl) ?_
          exact kX_lv _ rfl rfl rfl (k73 _ (wg_can j2 (Or.inl rfl)))
        · refine kX_bastN rfl rfl (by decide) (tp) (by first | rfl | decide) (by omega) (Or.inr rfl) ?_
          exact kX_lv _ rfl rfl rfl (k73 _ (wg_can j2 (Or.inr rfl)))
      · iterate 5 (refine kX_one rfl ?_)
        refine kX_ialdN rfl rfl (by decide) (tp) (by first | rfl | decide) (by omega) ?_
        iterate 1 (refine kX_one rfl ?_)
        refine kX_cal (mc_canMake L xs 204 776 n u 49 d 0 ω _ rfl hB1 hR1) rfl (Or.inr rfl) rfl rfl rfl (fun r1 ρ q1 => ?_)
        obtain ⟨hq, hP⟩ := q1
        have j3 : wgP σ ρ := ⟨fun c a b e => (hP.1 c (by omega)).trans (j2.1 c a b e), cKw_P hK hT1 j2.2.1 hP, fun j hj => by
          rw [hP.1 231 (by decide)]
          exact j2.2.2 j hj⟩
        rcases hq with rfl | rfl
        · iterate 1 (refine kX_one rfl ?_)
          refine kX_bastN rfl rfl (by decide) (tp) (by first | rfl | decide) (by omega) (Or.inl rfl) ?_
          exact kX_lv _ rfl rfl rfl (k73 _ (wg_can j3 (Or.inl rfl)))
        · iterate 1 (refine kX_one rfl ?_)
          refine kX_bastN rfl rfl (by decide) (tp) (by first | rfl | decide) (by omega) (Or.inr rfl) ?_
          exact kX_lv _ rfl rfl rfl (k73 _ (wg_can j3 (Or.inr rfl)))
  unfold kXM
  iterate 2 (refine kX_one rfl ?_)
  exact kX_lv _ rfl rfl rfl (loop (f, σ) ⟨hf, hw⟩)
end
section
/-! the class: the search -/
def sF (σ τ : kS) : Prop := (∀ c, c < 195 ∨ 232 ≤ c → c ≠ 2 → c ≠ 3 → c ≠ 4 → c ≠ 5 → c ≠ 6 → τ c = σ c) ∧ ∀ j, j < 776 → τ 2 j = σ 2 j ∧ τ 3 j = σ 3 j ∧ τ 4 j = σ 4 j ∧ τ 6 j = σ 6 j
theorem sF_trans {σ τ ρ : kS} (h1 : sF σ τ) (h2 : sF τ ρ) : sF σ ρ := ⟨fun c a1 a2 a3 a4 a5 a6 => (h2.1 c a1 a2 a3 a4 a5 a6).trans (h1.1 c a1 a2 a3 a4 a5 a6), fun j hj => ⟨(h2.2 j hj).1.trans (h1.2 j hj).1, (h2.2 j hj).2.1.trans (h1.2 j hj).2.1, (h2.2 j hj).2.2.1.trans (h1.2 j hj).2.2.1, (h2.2 j hj).2.2.2.trans (h1.2 j hj).2.2.2⟩⟩
theorem sF_of {σ τ : kS} (e : ∀ c, c < 195 ∨ 232 ≤ c → τ c = σ c) : sF σ τ := ⟨fun c a1 _ _ _ _ _ => e c a1, fun j _ => by
  rw [e 2 (by decide), e 3 (by decide), e 4 (by decide), e 6 (by decide)]
  exact ⟨rfl, rfl, rfl, rfl⟩⟩
theorem sF_13 {σ τ : kS} (h : sF σ τ) (c : Nat) (h1 : 13 ≤ c) (h2 : c < 195) : τ c = σ c := h.1 c (Or.inl h2) (by omega) (by omega) (by omega) (by omega) (by omega)
theorem sF_g {σ τ : kS} (h : sF σ τ) : τ 8 = σ 8 := h.1 _ (by decide) (by decide) (by decide) (by decide) (by decide) (by decide)
theorem cT_sF {σ τ : kS} {n : Nat} (h : sF σ τ) (hT : cT σ n) : cT τ n := by
  have hn := hT.1
  exact cT_eq (by rw [h.1 1 (by decide) (by decide) (by decide) (by decide) (by decide) (by decide)]) (h.1 _ (by decide) (by decide) (by decide) (by decide) (by decide) (by decide)) (fun u hu => ⟨(h.2 u (by omega)).1, (h.2 u (by omega)).2.1, (h.2 u (by omega)).2.2.1, by rw [sF_g h], by rw [h.1 12 (by decide) (by decide) (by decide) (by decide) (by decide) (by decide)], (h.2 u (by omega)).2.2.2⟩) hT
def cSn (τ : kS) (n S N : Nat) : Prop := N ≤ 600 ∧ τ 196 5 = nI N ∧ (∀ i, i < N → cV τ n S (τ 197) (28 * i)) ∧ (∀ i, 0 < i → i < N → (∃ j, j < i ∧ τ 198 i = nI j) ∧ ∃ s, s < S ∧ τ 199 i = nI s) ∧ (τ 195 9 = -1 ∨ (0 < N ∧ ∃ ln, ln ≤ 24 ∧ τ 195 9 = nI ln ∧ ∀ k, k < ln → ∃ s, s < S ∧ τ 203 k = nI s))
theorem cSn_eq {σ τ : kS} {n S N : Nat} (e : ∀ z, z < n → τ 8 z = σ 8 z) (e1 : τ 196 = σ 196) (e2 : τ 197 = σ 197) (e3 : τ 198 = σ 198) (e4 : τ 199 = σ 199) (e5 : τ 195 9 = σ 195 9) (e6 : τ 203 = σ 203) (h : cSn σ n S N) : cSn τ n S N := by
  obtain ⟨a1, a2, a3, a4, a5⟩ := h
  refine ⟨a1, by rw [e1]; exact a2, fun i hi => ?_, by rw [e3, e4]; exact a4, by rw [e5, e6]; exact a5⟩
  rw [e2]
  exact cV_eq e (a3 i hi)
def sI (σ τ : kS) (n S N : Nat) : Prop := sF σ τ ∧ cKw τ 204 776 ∧ cKw τ 213 1352 ∧ cSn τ n S N ∧ cQ τ ∧ cO τ n
/-- only the draft, the way, and fields of the search have changed -/
theorem sI_eq {σ τ ω : kS} {n S N : Nat} (h : sI σ τ n S N) (e : ∀ c, c ≠ 195 → c ≠ 202 → c ≠ 222 → c ≠ 229 → c ≠ 230 → c ≠ 231 → ω c = τ c) (el : ω 195 9 = τ 195 9) (hq : cQ ω) : sI σ ω n S N := by
  obtain ⟨h1, h2, h3, h4, h5, h6⟩ := h
  have e' : ∀ c, c < 195 ∨ (195 < c ∧ c < 202) ∨ (202 < c ∧ c < 222) ∨ (222 < c ∧ c < 229) ∨ 231 < c → ω c = τ c := fun c hc => e c (by omega) (by omega) (by omega) (by omega) (by omega) (by omega)
  have hg : ∀ z, z < n → ω 8 z = τ 8 z := fun z _ => by rw [e' _ (by decide)]
  have hgt : ∀ g, 200 ≤ g → ω 2 g = τ 2 g ∧ ω 3 g = τ 3 g ∧ ω 4 g = τ 4 g ∧ ω 6 g = τ 6 g := fun g _ => by
    rw [e' 2 (by decide), e' 3 (by decide), e' 4 (by decide), e' 6 (by decide)]
    exact ⟨rfl, rfl, rfl, rfl⟩
  exact ⟨sF_trans h1 (sF_of (fun c hc => e' c (by omega))), cKw_eq (by decide) (e' _ (by decide)) (e' _ (by decide)) (e' _ (by decide)) hgt h2, cKw_eq (by decide) (e' _ (by decide)) (e' _ (by decide)) (e' _ (by decide)) hgt h3, cSn_eq hg (e' _ (by decide)) (e' _ (by decide)) (e' _ (by decide)) (e' _ (by decide)) el (e' _ (by decide)) h4, hq, cO_eq hg (fun c c1 c2 => e' c (by omega)) h6⟩
/-- an intruder's cells have changed -/
theorem sI_K {σ τ ω : kS} {n S N K st : Nat} (h : sI σ τ n S N) (hK : (K = 204 ∧ st = 776) ∨ (K = 213 ∧ st = 1352)) (hF : nF τ ω K st) (hk : cKw ω K st) : sI σ ω n S N := by
  obtain ⟨h1, h2, h3, h4, h5, h6⟩ := h
  have hc : ∀ c, 7 ≤ c → c < 204 ∨ 222 ≤ c → ω c = τ c := fun c a b => hF.1 c (by omega) (by omega) (by omega) (by omega) (by omega) (by omega)
  have hg : ∀ z, z < n → ω 8 z = τ 8 z := fun z _ => by rw [hc _ (by decide) (by decide)]
  have hs : sF τ ω := ⟨fun c a1 a2 a3 a4 a5 a6 => hF.1 c (by omega) a2 a3 a4 a5 a6, fun j hj => hF.2 j (by omega)⟩
  refine ⟨sF_trans h1 hs, ?_, ?_, cSn_eq hg (hc _ (by decide) (by decide)) (hc _ (by decide) (by decide)) (hc _ (by decide) (by decide)) (hc _ (by decide) (by decide)) (by rw [hc 195 (by decide) (by decide)]) (hc _ (by decide) (by decide)) h4, cQ_eq (hc _ (by decide) (by decide)) (hc _ (by decide) (by decide)) h5, cO_eq hg (fun c c1 c2 => hc c (by omega) (by omega)) h6⟩
  · rcases hK with ⟨rfl, rfl⟩ | ⟨rfl, rfl⟩
    · exact hk
    · exact cKw_eq2 (hF.1 _ (by decide) (by decide) (by decide) (by decide) (by decide) (by decide)) (hF.1 _ (by decide) (by decide) (by decide) (by decide) (by decide) (by decide)) (hF.1 _ (by decide) (by decide) (by decide) (by decide) (by decide) (by decide)) (fun g g1 g2 => hF.2 g (by omega)) h2
  · rcases hK with ⟨rfl, rfl⟩ | ⟨rfl, rfl⟩
    · exact cKw_eq2 (hF.1 _ (by decide) (by decide) (by decide) (by decide) (by decide) (by decide)) (hF.1 _ (by decide) (by decide) (by decide) (by decide) (by decide) (by decide)) (hF.1 _ (by decide) (by decide) (by decide) (by decide) (by decide) (by decide)) (fun g g1 g2 => hF.2 g (by omega)) h3
    · exact hk
def tpI (f : Nat → Int32) (l : Nat) : Nat → Nat
  | 0 => l
  | i + 1 => fN (f (tpI f l i))
set_option maxRecDepth 100000 in
set_option maxHeartbeats 4000000 in
theorem mc_tracePath (L : Nat) (xs : Nat → Int32) (d : Nat) (τ : kS) (S N l : Nat) (hN : N ≤ 600) (hl : l < N) (hp : ∀ i, 0 < i → i < N → (∃ j, j < i ∧ τ 198 i = nI j) ∧ ∃ s, s < S ∧ τ 199 i = nI s) : kXM kT L xs (d + 1) 85 [.ref 195, .int (nI l)] τ (fun r ω => r = none ∧ (∀ c, c ≠ 195 → c ≠ 203 → ω c = τ c) ∧ ∃ ln, ln ≤ 24 ∧ ω 195 9 = nI ln ∧ ∀ k, k < ln → ∃ s, s < S ∧ ω 203 k = nI s) := by
  have k30 : ∀ i, i ≤ 24 → (∀ j, j < i → 0 < tpI (τ 198) l j ∧ tpI (τ 198) l j < N) → ∀ lv, nk lv = true → ([(0, .ref 195), (1, .int (nI l)), (2, .int (nI i))] : jL).map (fun q => jl lv q.1) = ([(0, .ref 195), (1, .int (nI l)), (2, Value.int (nI i))] : jL).map (fun q => some q.2) → kX kT L xs (d + 1) 85 30 lv [] τ (fun r ω => r = none ∧ (∀ c, c ≠ 195 → c ≠ 203 → ω c = τ c) ∧ ∃ ln, ln ≤ 24 ∧ ω 195 9 = nI ln ∧ ∀ k, k < ln → ∃ s, s < S ∧ ω 203 k = nI s) := by
    intro i hi hch lv hk hlv
    refine kX_lv _ hk rfl hlv ?_
    have loop : ∀ q : Nat × (Nat → Int32), (q.1 ≤ i ∧ ∀ j, q.1 ≤ j → j < i → ∃ s, s < S ∧ q.2 j = nI s) → kX kT L xs (d + 1) 85 42 [(4, .int (pv q.1)), (3, .int (nI (tpI (τ 198) l (i - q.1)))), (0, .ref 195)] [] (va_up (va_up τ 195 (upd (τ 195) 9 (nI i))) 203 q.2) (fun r ω => r = none ∧ (∀ c, c ≠ 195 → c ≠ 203 → ω c = τ c) ∧ ∃ ln, ln ≤ 24 ∧ ω 195 9 = nI ln ∧ ∀ k, k < ln → ∃ s, s < S ∧ ω 203 k = nI s) := by
      refine kX_while (fun q : Nat × (Nat → Int32) => [(4, .int (pv q.1)), (3, .int (nI (tpI (τ 198) l (i - q.1)))), (0, .ref 195)]) (fun q => va_up (va_up τ 195 (upd (τ 195) 9 (nI i))) 203 q.2) _ (fun q => q.1) ?_
      rintro ⟨q, A⟩ ⟨j1, j2⟩ ih
      dsimp only at j1 j2 ih ⊢
      cases q with
      | zero =>
        show kX kT L xs (d + 1) 85 42 [(4, .int (-1)), (3, .int (nI (tpI (τ 198) l (i - 0)))), (0, .ref 195)] [] _ _
        iterate 2 (refine kX_one rfl ?_)
        refine kX_ret (i := .return_) (len := 1) rfl (Or.inr rfl) rfl (⟨rfl, fun c c1 c2 => by rw [up_ne c2, up_ne c1], i, hi, rfl, fun k hk => j2 k (Nat.zero_le _) hk⟩)
      | succ k =>
        show kX kT L xs (d + 1) 85 42 [(4, .int (nI k)), (3, .int (nI (tpI (τ 198) l (i - (k + 1))))), (0, .ref 195)] [] _ _
        obtain ⟨s1, s2⟩ := hch (i - (k + 1)) (by omega)
        have hnx : tpI (τ 198) l (i - k) = fN (τ 198 (tpI (τ 198) l (i - (k + 1)))) := by
          rw [show i - k = i - (k + 1) + 1 by omega]
          rfl
        generalize tpI (τ 198) l (i - (k + 1)) = s at *
        obtain ⟨⟨j, y1, y2⟩, m, m1, m2⟩ := hp s s1 s2
        have hj : tpI (τ 198) l (i - k) = j := by
          rw [hnx, y2]
          exact fN_nI (by omega)
        repeat refine kX_one rfl ?_
        refine kX_ifF (decide_eq_false (nI_pos (by omega))) ?_
        iterate 7 (refine kX_one rfl ?_)
        refine kX_ialdV rfl rfl (by decide) (s) (by first | rfl | decide) (by omega) (m2) ?_
        refine kX_iastN rfl rfl (by decide) (k) (by first | rfl | decide) (by omega) ?_
        iterate 4 (refine kX_one rfl ?_)
        refine kX_ialdV rfl rfl (by decide) (s) (by first | rfl | decide) (by omega) (y2) ?_
        iterate 3 (refine kX_one rfl ?_)
        have := ih (k, upd A k (nI m)) ⟨by simp only; omega, fun j' a b => by
          simp only
          by_cases e : j' = k
          · subst e
            exact ⟨m, m1, pk_us⟩
          · rw [pk_un e]
            exact j2 j' (by simp only at a; omega) b⟩ (by simp only; omega)
        dsimp only at this
        rw [pv_dec, hj] at this
        refine kX_to _ _ rfl rfl rfl ?_ this
        funext c; unfold  va_up; repeat' split
        all_goals first | rfl | omega | (subst_vars; rfl) | (funext j; unfold upd; repeat' split; all_goals first | rfl | omega | (subst_vars; rfl))
    iterate 8 (refine kX_one rfl ?_)
    refine kX_top (y := pv i) (pv_sub i) ?_
    iterate 1 (refine kX_one rfl ?_)
    have := loop (i, τ 203) ⟨Nat.le_refl _, fun j a b => by simp only at a; omega⟩
    dsimp only at this
    rw [Nat.sub_self] at this
    refine kX_to _ _ rfl rfl rfl ?_ this
    funext c; unfold  va_up; repeat' split
    all_goals first | rfl | omega | (subst_vars; rfl) | (funext j; unfold upd; repeat' split; all_goals first | rfl | omega | (subst_vars; rfl))
  have loop : ∀ q : Nat, (q ≤ 24 ∧ tpI (τ 198) l q < N ∧ ∀ j, j < q → 0 < tpI (τ 198) l j ∧ tpI (τ 198) l j < N) → kX kT L xs (d + 1) 85 4 [(2, .int (nI q)), (3, .int (nI (tpI (τ 198) l q))), (0, .ref 195), (1, .int (nI l))] [] τ (fun r ω => r = none ∧ (∀ c, c ≠ 195 → c ≠ 203 → ω c = τ c) ∧ ∃ ln, ln ≤ 24 ∧ ω 195 9 = nI ln ∧ ∀ k, k < ln → ∃ s, s < S ∧ ω 203 k = nI s) := by
    refine kX_while (fun q => [(2, .int (nI q)), (3, .int (nI (tpI (τ 198) l q))), (0, .ref 195), (1, .int (nI l))]) (fun _ => τ) _ (fun q => 24 - q) ?_
    rintro i ⟨i1, i2, i3⟩ ih
    repeat refine kX_one rfl ?_
    refine kX_if (fun q => ?_) (fun q => ?_)
    · exact k30 i i1 i3 _ rfl rfl
    · have q := qleF q (tpI (τ 198) l i) 0
      repeat refine kX_one rfl ?_
      refine kX_if (fun q2 => ?_) (fun q2 => ?_)
      · exact k30 i i1 i3 _ rfl rfl
      · have q2 := qgeF q2 i 24
        obtain ⟨⟨j, y1, y2⟩, -⟩ := hp _ q i2
        have hj : tpI (τ 198) l (i + 1) = j := by
          show fN (τ 198 (tpI (τ 198) l i)) = j
          rw [y2]
          exact fN_nI (by omega)
        iterate 5 (refine kX_one rfl ?_)
        refine kX_ialdV rfl rfl (by decide) (tpI (τ 198) l i) (by first | rfl | decide) (by omega) (y2) ?_
        iterate 2 (refine kX_one rfl ?_)
        have := ih (i + 1) ⟨q2, by rw [hj]; omega, fun j' hj' => by
          by_cases e : j' = i
          · subst e
            exact ⟨q, i2⟩
          · exact i3 j' (by omega)⟩ (by omega)
        rw [hj, ← nI_1] at this
        exact kX_lv _ rfl rfl rfl this
  unfold kXM
  iterate 4 (refine kX_one rfl ?_)
  exact kX_lv _ rfl rfl rfl (loop 0 ⟨by decide, hl, fun j hj => absurd hj (Nat.not_lt_zero j)⟩)
end
section
/-! the class: reach -/
set_option maxRecDepth 100000 in
set_option maxHeartbeats 4000000 in
theorem mc_allDone (L : Nat) (xs : Nat → Int32) (d : Nat) (σ : kS) (n R S C A M base : Nat) (g0 : Nat → Int32) (hB : cB σ n R S C) (hA : kT[A]? = some (.inl (0, M, .inl g0))) (hM : M ≤ 100000) (hbm : base + 28 ≤ M) : kXM kT L xs (d + 3) 20 [.ref 13, .ref A, .int (nI base)] σ (fun q σ' => (q = some (.int 0) ∨ q = some (.int 1)) ∧ σ = σ') := by
  obtain ⟨hRo, ⟨hS4, hSc, hSr⟩, -⟩ := hB
  have loop : ∀ q : Nat, q ≤ S → kX kT L xs (d + 3) 20 2 [(3, .int (nI q)), (0, .ref 13), (1, .ref A), (2, .int (nI base))] [] σ (fun q σ' => (q = some (.int 0) ∨ q = some (.int 1)) ∧ σ = σ') := by
    refine kX_while (fun q => [(3, .int (nI q)), (0, .ref 13), (1, .ref A), (2, .int (nI base))]) (fun _ => σ) _ (fun q => S - q) ?_
    intro i i1 ih
    iterate 3 (refine kX_one rfl ?_)
    refine kX_top (hSc) ?_
    repeat refine kX_one rfl ?_
    refine kX_if (fun q => ?_) (fun q => ?_)
    · repeat refine kX_one rfl ?_
      refine kX_ret (i := .ireturn) (len := 1) rfl (Or.inr rfl) rfl (⟨Or.inr rfl, rfl⟩)
    · have q := qgeF q i S
      iterate 4 (refine kX_one rfl ?_)
      refine kX_cal (mc_hasDoneAll L xs d σ n R S A M base i g0 hRo hS4 hSr q hA hM hbm) rfl (Or.inr rfl) rfl rfl rfl (fun r1 σ1 q1 => ?_)
      obtain ⟨hq, rfl⟩ := q1
      rcases hq with rfl | rfl
      · repeat refine kX_one rfl ?_
        refine kX_ret (i := .ireturn) (len := 1) rfl (Or.inr rfl) rfl (⟨Or.inl rfl, rfl⟩)
      · iterate 3 (refine kX_one rfl ?_)
        have := ih (i + 1) (by omega) (by omega)
        rw [← nI_1] at this
        exact kX_lv _ rfl rfl rfl this
  unfold kXM
  iterate 2 (refine kX_one rfl ?_)
  exact kX_lv _ rfl rfl rfl (loop 0 (Nat.zero_le _))
set_option maxRecDepth 100000 in
set_option maxHeartbeats 4000000 in
theorem mc_hasSecrets (L : Nat) (xs : Nat → Int32) (d : Nat) (σ : kS) (C : Nat) (hC : cCl σ C) : kXM kT L xs (d + 1) 23 [.ref 13] σ (fun q σ' => (q = some (.int 0) ∨ q = some (.int 1)) ∧ σ = σ') := by
  obtain ⟨hC6, hCc, -⟩ := hC
  have loop : ∀ q : Nat, q ≤ C → kX kT L xs (d + 1) 23 2 [(1, .int (nI q)), (0, .ref 13)] [] σ (fun q σ' => (q = some (.int 0) ∨ q = some (.int 1)) ∧ σ = σ') := by
    refine kX_while (fun q => [(1, .int (nI q)), (0, .ref 13)]) (fun _ => σ) _ (fun q => C - q) ?_
    intro i i1 ih
    iterate 3 (refine kX_one rfl ?_)
    refine kX_top (hCc) ?_
    repeat refine kX_one rfl ?_
    refine kX_if (fun q => ?_) (fun q => ?_)
    · repeat refine kX_one rfl ?_
      refine kX_ret (i := .ireturn) (len := 1) rfl (Or.inr rfl) rfl (⟨Or.inl rfl, rfl⟩)
    · have q := qgeF q i C
      have hi6 : i < 6 := by omega
      iterate 3 (refine kX_one rfl ?_)
      refine kX_aaldN rfl (rfl) (by decide) (by decide) (by decide) (i) (by first | rfl | decide) (hi6) (cl_at hi6) ?_
      refine kX_getN rfl rfl (kT_cl hi6) rfl ?_
      repeat refine kX_one rfl ?_
      refine kX_if (fun q2 => ?_) (fun q2 => ?_)
      · iterate 2 (refine kX_one rfl ?_)
        have := ih (i + 1) (by omega) (by omega)
        rw [← nI_1] at this
        exact kX_lv _ rfl rfl rfl this
      · repeat refine kX_one rfl ?_
        refine kX_ret (i := .ireturn) (len := 1) rfl (Or.inr rfl) rfl (⟨Or.inr rfl, rfl⟩)
  unfold kXM
  iterate 2 (refine kX_one rfl ?_)
  exact kX_lv _ rfl rfl rfl (loop 0 (Nat.zero_le _))
theorem cB_sI {σ τ : kS} {n R S C N : Nat} (h : cJ σ n R S C) (hs : sI σ τ n S N) : cB τ n R S C := cB_eq (fun c c1 c2 => sF_13 hs.1 c c1 (by omega)) (cB_of h)
/-- the STATE is new -/
theorem sI_add {σ τ ω : kS} {n S N : Nat} {f s : Int32} (h : sI σ τ n S N) (hV : cV τ n S (τ 202) 0) (hA : stA τ ω N f s) (hN : N < 600) (hfs : 0 < N → (∃ j, j < N ∧ f = nI j) ∧ ∃ s', s' < S ∧ s = nI s') (hS4 : S ≤ 4) : sI σ ω n S (N + 1) := by
  obtain ⟨h1, h2, h3, h4, h5, h6⟩ := h
  obtain ⟨a1, a2, a3, a4, a5⟩ := hA
  have hg : ∀ z, z < n → ω 8 z = τ 8 z := fun z _ => by rw [a1 _ (by decide)]
  have hgt : ∀ g, 200 ≤ g → ω 2 g = τ 2 g ∧ ω 3 g = τ 3 g ∧ ω 4 g = τ 4 g ∧ ω 6 g = τ 6 g := fun g _ => by
    rw [a1 2 (by decide), a1 3 (by decide), a1 4 (by decide), a1 6 (by decide)]
    exact ⟨rfl, rfl, rfl, rfl⟩
  refine ⟨sF_trans h1 (sF_of (fun c hc => a1 c (by omega))), cKw_eq (by decide) (a1 _ (by decide)) (a1 _ (by decide)) (a1 _ (by decide)) hgt h2, cKw_eq (by decide) (a1 _ (by decide)) (a1 _ (by decide)) (a1 _ (by decide)) hgt h3, ?_, cQ_eq (a1 _ (by decide)) (a1 _ (by decide)) h5, cO_eq hg (fun c c1 c2 => a1 c (by omega)) h6⟩
  obtain ⟨b1, b2, b3, b4, b5⟩ := h4
  refine ⟨by omega, a5, fun i hi => ?_, fun i i1 i2 => ?_, ?_⟩
  · by_cases e : i = N
    · subst e
      intro s' k hs' hk
      have := hV s' k hs' hk
      rw [a2, va_cpy, if_pos (by omega), show 0 + (28 * i + 7 * s' + 1 + k - 28 * i) = 0 + 7 * s' + 1 + k by omega]
      rcases this with q | ⟨z, z1, z2, z3⟩
      · exact Or.inl q
      · exact Or.inr ⟨z, z1, z2, by rw [hg z z1]; exact z3⟩
    · have := cV_eq hg (b3 i (by omega))
      intro s' k hs' hk
      rw [a2, va_cpy, if_neg (by omega)]
      exact this s' k hs' hk
  · rw [a3, a4]
    by_cases e : i = N
    · subst e
      rw [pk_us, pk_us]
      exact hfs i1
    · rw [pk_un e, pk_un e]
      exact b4 i i1 (by omega)
  · rw [a1 195 (by decide), a1 203 (by decide)]
    rcases b5 with q | ⟨q, z⟩
    · exact Or.inl q
    · exact Or.inr ⟨by omega, z⟩
/-- what reach keeps -/
def reP (τ ω : kS) : Prop := ω 202 = τ 202 ∧ ∀ c, 222 ≤ c → ω c = τ c
set_option maxRecDepth 100000 in
set_option maxHeartbeats 4000000 in
theorem mc_reach (L : Nat) (xs : Nat → Int32) (d : Nat) (σ τ : kS) (n R S C N K st : Nat) (f s : Int32) (h : cJ σ n R S C) (hI : sI σ τ n S N) (hV : cV τ n S (τ 202) 0) (hfs : 0 < N → (∃ j, j < N ∧ f = nI j) ∧ ∃ s', s' < S ∧ s = nI s') (hK : (K = 204 ∧ st = 776) ∨ (K = 213 ∧ st = 1352)) : kXM kT L xs (d + 54) 84 [.ref 195, .int f, .int s, .ref K] τ (fun r ω => r = none ∧ reP τ ω ∧ ∃ N', N ≤ N' ∧ sI σ ω n S N') := by
  have hS4 := h.2.2.1.1
  have hT := h.1
  have hK' : isK K st := Or.inr hK
  obtain ⟨c1, c2, c3, c4, c5⟩ := hI.2.2.2.1
  unfold kXM
  iterate 3 (refine kX_one rfl ?_)
  refine kX_top (c2) ?_
  repeat refine kX_one rfl ?_
  refine kX_if (fun q => ?_) (fun q => ?_)
  · have q := qlt q N 600
    iterate 8 (refine kX_one rfl ?_)
    refine kX_cal (mc_stAdd L xs (d + 51) τ _ f s N q c2) rfl (Or.inr rfl) rfl rfl rfl (fun r1 τ1 q1 => ?_)
    obtain ⟨rfl, hA⟩ := q1
    have hI1 := sI_add hI hV hA q hfs hS4
    have hP1 : reP τ τ1 := ⟨hA.1 202 (by decide), fun c hc => hA.1 c (by omega)⟩
    have loop : ∀ q : Nat × kS, (q.1 ≤ C ∧ sI σ q.2 n S (N + 1) ∧ reP τ q.2) → kX kT L xs (d + 54) 84 65 [(4, .int (nI q.1)), (0, .ref 195), (3, .ref K)] [] q.2 (fun r ω => r = none ∧ reP τ ω ∧ ∃ N', N ≤ N' ∧ sI σ ω n S N') := by
      refine kX_while (fun q : Nat × kS => [(4, .int (nI q.1)), (0, .ref 195), (3, .ref K)]) (fun q => q.2) _ (fun q => C - q.1) ?_
      rintro ⟨i, ω⟩ ⟨i1, i2, i3⟩ ih
      dsimp only at i1 i2 i3 ih ⊢
      have hBt := cB_sI h i2
      have hC6 := hBt.2.2.1
      iterate 4 (refine kX_one rfl ?_)
      refine kX_top (hBt.2.2.2.1) ?_
      repeat refine kX_one rfl ?_
      refine kX_if (fun q => ?_) (fun q => ?_)
      · refine kX_ret (i := .return_) (len := 1) rfl (Or.inr rfl) rfl (⟨rfl, i3, N + 1, by omega, i2⟩)
      · have q := qgeF q i C
        repeat refine kX_one rfl ?_
        refine kX_if (fun q2 => ?_) (fun q2 => ?_)
        · refine kX_ret (i := .return_) (len := 1) rfl (Or.inr rfl) rfl (⟨rfl, i3, N + 1, by omega, i2⟩)
        · have hTo := cT_sF i2.1 hT
          have hkw : cKw ω K st := by
            rcases hK with ⟨rfl, rfl⟩ | ⟨rfl, rfl⟩
            · exact i2.2.1
            · exact i2.2.2.1
          obtain ⟨u, hB, hR, he⟩ := cKw_n hK' hTo hkw
          have k123 : ∀ ρ, sI σ ρ n S (N + 1) → reP τ ρ → kX kT L xs (d + 54) 84 123 [(4, .int (nI i)), (0, .ref 195), (3, .ref K)] [] ρ (fun r ω => r = none ∧ reP τ ω ∧ ∃ N', N ≤ N' ∧ sI σ ω n S N') := by
            intro ρ r1 r2
            iterate 2 (refine kX_one rfl ?_)
            have := ih (i + 1, ρ) ⟨q, r1, r2⟩ (by simp only; omega)
            dsimp only at this
            rw [← nI_1] at this
            exact kX_lv _ rfl rfl rfl this
          iterate 7 (refine kX_one rfl ?_)
          refine kX_cal (mc_breaks L xs d ω n R S C 202 28 0 i K st u (fun _ => 0) hBt q rfl (by decide) (by decide) hB hR) rfl (Or.inr rfl) rfl rfl rfl (fun r1 ρ q1 => ?_)
          obtain ⟨hq, hP⟩ := q1
          have hKb := isK_b hK'
          have j2 : sI σ ρ n S (N + 1) := sI_K i2 hK (nF_P hK' hP) (cKw_P hK' hTo hkw hP)
          have j3 : reP τ ρ := ⟨(hP.1 202 (by omega)).trans i3.1, fun c hc => (hP.1 c (by omega)).trans (i3.2 c hc)⟩
          rcases hq with rfl | rfl
          · iterate 1 (refine kX_one rfl ?_)
            exact k123 ρ j2 j3
          · iterate 6 (refine kX_one rfl ?_)
            have x2 : sI σ (va_up ρ 195 (upd (ρ 195) 12 (Int32.ofInt 1 + nI i))) n S (N + 1) := sI_eq j2 (fun c a _ _ _ _ _ => up_ne a) rfl j2.2.2.2.2.1
            have x3 : reP τ (va_up ρ 195 (upd (ρ 195) 12 (Int32.ofInt 1 + nI i))) := ⟨j3.1, fun c hc => (up_ne (by omega)).trans (j3.2 c hc)⟩
            refine kX_st (va_up ρ 195 (upd (ρ 195) 12 (Int32.ofInt 1 + nI i))) rfl ?_
            generalize va_up ρ 195 (upd (ρ 195) 12 (Int32.ofInt 1 + nI i)) = π at *
            iterate 4 (refine kX_one rfl ?_)
            refine kX_top (x2.2.2.2.1.2.1) ?_
            iterate 2 (refine kX_one rfl ?_)
            refine kX_top (y := nI N) (nI_pred N) ?_
            refine kX_cal (mc_tracePath L xs (d + 52) π S (N + 1) N (by omega) (by omega) x2.2.2.2.1.2.2.2.1) rfl (Or.inr rfl) rfl rfl rfl (fun r1 κ q1 => ?_)
            obtain ⟨rfl, t1, t2⟩ := q1
            obtain ⟨y1, y2, y3, ⟨z1, z2, z3, z4, -⟩, y5, y6⟩ := x2
            have e' : ∀ c, c < 195 ∨ (195 < c ∧ c < 203) ∨ 203 < c → κ c = π c := fun c hc => t1 c (by omega) (by omega)
            have hg : ∀ z, z < n → κ 8 z = π 8 z := fun z _ => by rw [e' _ (by decide)]
            have hgt : ∀ g, 200 ≤ g → κ 2 g = π 2 g ∧ κ 3 g = π 3 g ∧ κ 4 g = π 4 g ∧ κ 6 g = π 6 g := fun g _ => by
              rw [e' 2 (by decide), e' 3 (by decide), e' 4 (by decide), e' 6 (by decide)]
              exact ⟨rfl, rfl, rfl, rfl⟩
            have hIκ : sI σ κ n S (N + 1) := by
              refine ⟨sF_trans y1 (sF_of (fun c hc => e' c (by omega))), cKw_eq (by decide) (e' _ (by decide)) (e' _ (by decide)) (e' _ (by decide)) hgt y2, cKw_eq (by decide) (e' _ (by decide)) (e' _ (by decide)) (e' _ (by decide)) hgt y3, ⟨z1, by rw [e' 196 (by decide)]; exact z2, fun i hi => ?_, ?_, Or.inr ⟨by omega, t2⟩⟩, cQ_eq (e' _ (by decide)) (e' _ (by decide)) y5, cO_eq hg (fun c c1 c2 => e' c (by omega)) y6⟩
              · rw [e' 197 (by decide)]
                exact cV_eq hg (z3 i hi)
              · rw [e' 198 (by decide), e' 199 (by decide)]
                exact z4
            exact kX_lv _ rfl rfl rfl (k123 κ hIκ ⟨(e' 202 (by decide)).trans x3.1, fun c hc => (e' c (by omega)).trans (x3.2 c hc)⟩)
    iterate 5 (refine kX_one rfl ?_)
    refine kX_cal (mc_allDone L xs (d + 50) τ1 n R S C 202 28 0 (fun _ => 0) (cB_sI h hI1) rfl (by decide) (by decide)) rfl (Or.inr rfl) rfl rfl rfl (fun r1 σ1 q1 => ?_)
    obtain ⟨hq, rfl⟩ := q1
    rcases hq with rfl | rfl
    · iterate 3 (refine kX_one rfl ?_)
      exact kX_lv _ rfl rfl rfl (loop (0, τ1) ⟨Nat.zero_le _, hI1, hP1⟩)
    · iterate 9 (refine kX_one rfl ?_)
      have x2 : sI σ (va_up τ1 195 (upd (τ1 195) 11 (τ1 195 11 + Int32.ofInt 1))) n S (N + 1) := sI_eq hI1 (fun c a _ _ _ _ _ => up_ne a) rfl hI1.2.2.2.2.1
      have x3 : reP τ (va_up τ1 195 (upd (τ1 195) 11 (τ1 195 11 + Int32.ofInt 1))) := ⟨hP1.1, fun c hc => (up_ne (by omega)).trans (hP1.2 c hc)⟩
      exact kX_lv _ rfl rfl rfl (loop (0, va_up τ1 195 (upd (τ1 195) 11 (τ1 195 11 + Int32.ofInt 1))) ⟨Nat.zero_le _, x2, x3⟩)
  · iterate 3 (refine kX_one rfl ?_)
    refine kX_ret (i := .return_) (len := 1) rfl (Or.inr rfl) rfl ⟨rfl, ⟨rfl, fun c hc => up_ne (by omega)⟩, N, Nat.le_refl _, sI_eq hI (fun c a _ _ _ _ _ => up_ne a) rfl hI.2.2.2.2.1⟩
end
section
/-! the class: tryWays -/
theorem cHo_eq {τ ω : kS} {a m : Nat} (e1 : ω (a + 2) = τ (a + 2)) (e2 : ω 228 = τ 228) (e3 : ω 229 = τ 229) (h : cHo τ a m) : cHo ω a m := by
  unfold cHo
  rw [e1, e2, e3]
  exact h
theorem sI_wy {σ τ ω : kS} {n S N s a m : Nat} (h : sI σ τ n S N) (hw : wyP τ ω n S s a m) (hs : s < 4) : sI σ ω n S N := sI_eq h (fun c _ b1 b2 b3 _ _ => hw.1 c b2 b3 b1) (by rw [hw.1 195 (by decide) (by decide) (by decide)]) ⟨by
  rw [hw.1 231 (by decide) (by decide) (by decide)]
  exact h.2.2.2.2.1.1, 7 * s + 1, by omega, hw.2.1⟩
theorem sI_wg {σ τ ω : kS} {n S N : Nat} (h : sI σ τ n S N) (hw : wgP τ ω) : sI σ ω n S N := by
  obtain ⟨h1, h2, h3, h4, h5, h6⟩ := h
  have e' : ∀ c, c < 204 ∨ (213 ≤ c ∧ c < 230) ∨ 231 < c → ω c = τ c := fun c hc => hw.1 c (by omega) (by omega) (by omega)
  have hg : ∀ z, z < n → ω 8 z = τ 8 z := fun z _ => by rw [e' _ (by decide)]
  have hgt : ∀ g, 200 ≤ g → ω 2 g = τ 2 g ∧ ω 3 g = τ 3 g ∧ ω 4 g = τ 4 g ∧ ω 6 g = τ 6 g := fun g _ => by
    rw [e' 2 (by decide), e' 3 (by decide), e' 4 (by decide), e' 6 (by decide)]
    exact ⟨rfl, rfl, rfl, rfl⟩
  exact ⟨sF_trans h1 (sF_of (fun c hc => e' c (by omega))), hw.2.1, cKw_eq (by decide) (e' _ (by decide)) (e' _ (by decide)) (e' _ (by decide)) hgt h3, cSn_eq hg (e' _ (by decide)) (e' _ (by decide)) (e' _ (by decide)) (e' _ (by decide)) (by rw [e' 195 (by decide)]) (e' _ (by decide)) h4, ⟨hw.2.2, by rw [e' 222 (by decide)]; exact h5.2⟩, cO_eq hg (fun c c1 c2 => e' c (by omega)) h6⟩
theorem lw_lt {j : Nat} {w : Int64} {x : Int32} (hj : j < 2147483648) (q : jcmp .ge (lg_cmp (nI j).toInt64 w) 0 = false) (hle : w ≤ x.toInt64) : j < w.toInt.toNat ∧ j + 1 < 2147483648 ∧ w ≠ 0 := by
  have q : ¬ (0 ≤ lg_cmp (nI j).toInt64 w) := of_decide_eq_false q
  rw [lg_cmp_ge, Int64.le_iff_toInt_le, Int32.toInt_toInt64, nI_toInt hj] at q
  rw [Int64.le_iff_toInt_le, Int32.toInt_toInt64] at hle
  have hx := Int32.toInt_lt x
  refine ⟨by omega, by omega, fun e => ?_⟩
  rw [e] at q
  have : (0 : Int64).toInt = 0 := rfl
  omega
theorem lw_le {w v : Int64} (q : jcmp .le (lg_cmp w v) 0 = true) : w ≤ v := by
  have q : lg_cmp w v ≤ 0 := of_decide_eq_true q
  unfold lg_cmp at q
  by_cases e : w > v
  · rw [if_pos e] at q
    exact absurd q (by decide)
  · rw [Int64.le_iff_toInt_le]
    have e : ¬ v < w := e
    rw [Int64.lt_iff_toInt_lt] at e
    omega
set_option maxRecDepth 100000 in
set_option maxHeartbeats 4000000 in
theorem mc_tryWays (L : Nat) (xs : Nat → Int32) (d : Nat) (σ τ : kS) (n R S C N i s r k : Nat) (h : cJ σ n R S C) (hI : sI σ τ n S N) (hV : cV τ n S (τ 202) 0) (hi : i < N) (hs : s < S) (hr4 : r < 4) (hk6 : k < 6) (hE : cE σ n (28 + 35 * r + 5 * k)) : kXM kT L xs (d + 55) 83 [.ref 195, .int (nI i), .int (nI s), .ref (28 + 35 * r + 5 * k)] τ (fun q ω => q = none ∧ ∃ N', N ≤ N' ∧ sI σ ω n S N') := by
  have hS4 := h.2.2.1.1
  have hs4 : s < 4 := by omega
  have hT := h.1
  have b4 := ev_b r k 4 hr4 hk6 (by decide)
  have hEo : ∀ {ω : kS} {N'}, sI σ ω n S N' → cE ω n (28 + 35 * r + 5 * k) := fun hw => cE_up (Nat.le_refl _) (fun j hj => sF_13 hw.1 _ (by omega) (by omega)) hE
  obtain ⟨t, m, qq, t1, m6, q24, t2, m2, -⟩ := hE
  have hmo : ∀ {ω : kS} {N'}, sI σ ω n S N' → ω (28 + 35 * r + 5 * k) 4 = nI m := fun hw => by rw [sF_13 hw.1 _ (by omega) (by omega)]; exact m2
  have hev2 : ∀ {ω ρ : kS} {N' N''}, sI σ ω n S N' → sI σ ρ n S N'' → ρ (28 + 35 * r + 5 * k + 2) = ω (28 + 35 * r + 5 * k + 2) := fun hw hp => by rw [sF_13 hw.1 _ (by omega) (by omega), sF_13 hp.1 _ (by omega) (by omega)]
  unfold kXM
  iterate 3 (refine kX_one rfl ?_)
  refine kX_cal (mc_waysOf L xs (d + 53) τ n r k hI.2.2.2.2.2 hr4 hk6 (hEo hI)) rfl (Or.inr rfl) rfl rfl rfl (fun r1 σ1 q1 => ?_)
  obtain ⟨⟨w, rfl, hw⟩, rfl⟩ := q1
  iterate 8 (refine kX_one rfl ?_)
  repeat refine kX_one rfl ?_
  refine kX_if (fun q => ?_) (fun q => ?_)
  · have hle := lw_le q
    generalize (Int16.ofInt 20000).toInt32 - τ 195 10 = x at *
    have loop : ∀ q : Nat × kS × Nat, (q.1 < 2147483648 ∧ sI σ q.2.1 n S q.2.2 ∧ N ≤ q.2.2 ∧ cV q.2.1 n S (q.2.1 202) 0 ∧ (w ≠ 0 → cW q.2.1 (28 + 35 * r + 5 * k) m) ∧ (q.1 ≠ 0 → q.2.1 222 3 = nI (7 * s + 1) ∧ cHo q.2.1 (28 + 35 * r + 5 * k) m)) → kX kT L xs (d + 55) 83 54 [(6, .int (nI q.1)), (4, .long w), (0, .ref 195), (1, .int (nI i)), (2, .int (nI s)), (3, .ref (28 + 35 * r + 5 * k))] [] q.2.1 (fun q ω => q = none ∧ ∃ N', N ≤ N' ∧ sI σ ω n S N') := by
      refine kX_while (fun q : Nat × kS × Nat => [(6, .int (nI q.1)), (4, .long w), (0, .ref 195), (1, .int (nI i)), (2, .int (nI s)), (3, .ref (28 + 35 * r + 5 * k))]) (fun q => q.2.1) _ (fun q => w.toInt.toNat - q.1) ?_
      rintro ⟨j, ω, N1⟩ ⟨j0, j1, j2, j3, j4, j5⟩ ih
      dsimp only at j0 j1 j2 j3 j4 j5 ih ⊢
      repeat refine kX_one rfl ?_
      refine kX_if (fun q => ?_) (fun q => ?_)
      · refine kX_ret (i := .return_) (len := 1) rfl (Or.inr rfl) rfl (⟨rfl, N1, j2, j1⟩)
      · obtain ⟨l1, l2, l3⟩ := lw_lt j0 q hle
        repeat refine kX_one rfl ?_
        refine kX_if (fun q2 => ?_) (fun q2 => ?_)
        · refine kX_ret (i := .return_) (len := 1) rfl (Or.inr rfl) rfl (⟨rfl, N1, j2, j1⟩)
        · have k138 : ∀ ρ N2, sI σ ρ n S N2 → N ≤ N2 → cV ρ n S (ρ 202) 0 → cW ρ (28 + 35 * r + 5 * k) m → ρ 222 3 = nI (7 * s + 1) → cHo ρ (28 + 35 * r + 5 * k) m → ∀ lv, nk lv = true → ([(6, .int (nI j)), (4, .long w), (0, .ref 195), (1, .int (nI i)), (2, .int (nI s)), (3, .ref (28 + 35 * r + 5 * k))] : jL).map (fun q => jl lv q.1) = ([(6, .int (nI j)), (4, .long w), (0, .ref 195), (1, .int (nI i)), (2, .int (nI s)), (3, Value.ref (28 + 35 * r + 5 * k))] : jL).map (fun q => some q.2) → kX kT L xs (d + 55) 83 138 lv [] ρ (fun q ω => q = none ∧ ∃ N', N ≤ N' ∧ sI σ ω n S N') := by
            intro ρ N2 r1 r2 r3 r4 r5 r6 lv hk hlv
            refine kX_lv _ hk rfl hlv ?_
            iterate 2 (refine kX_one rfl ?_)
            have := ih (j + 1, ρ, N2) ⟨l2, r1, r2, r3, fun _ => r4, fun _ => ⟨r5, r6⟩⟩ (by simp only; omega)
            dsimp only at this
            rw [← nI_1] at this
            exact kX_lv _ rfl rfl rfl this
          have hWo := j4 l3
          have k95 : ∀ ρ f, f ≤ 24 → wyP ω ρ n S s (28 + 35 * r + 5 * k) m → kX kT L xs (d + 55) 83 95 [(6, .int (nI j)), (4, .long w), (0, .ref 195), (1, .int (nI i)), (2, .int (nI s)), (3, .ref (28 + 35 * r + 5 * k))] [.int (nI f)] ρ (fun q ω => q = none ∧ ∃ N', N ≤ N' ∧ sI σ ω n S N') := by
            intro ρ f hf hy
            have hIr := sI_wy j1 hy hs4
            have hgr : ∀ z, z < n → ρ 8 z = ω 8 z := fun z _ => by rw [hy.1 _ (by decide) (by decide) (by decide)]
            have hVr : cV ρ n S (ρ 202) 0 := cV_eq hgr hy.2.2.2
            have hWr : cW ρ (28 + 35 * r + 5 * k) m := by
              unfold cW
              rw [hev2 j1 hIr, hy.1 228 (by decide) (by decide) (by decide)]
              exact hWo
            iterate 5 (refine kX_one rfl ?_)
            refine kX_cal (mc_weigh L xs (d + 2) ρ n r k s f (cT_sF hIr.1 hT) hr4 hk6 (hEo hIr) hf hs4 hy.2.1 ⟨fun _ _ _ _ => rfl, hIr.2.1, hIr.2.2.2.2.1.1⟩) rfl (Or.inr rfl) rfl rfl rfl (fun r1 π q1 => ?_)
            obtain ⟨hq, hg⟩ := q1
            have hIp := sI_wg hIr hg
            have hgp : ∀ z, z < n → π 8 z = ρ 8 z := fun z _ => by rw [hg.1 _ (by decide) (by decide) (by decide)]
            have hVp : cV π n S (π 202) 0 := by
              rw [hg.1 202 (by decide) (by decide) (by decide)]
              exact cV_eq hgp hVr
            have hWp : cW π (28 + 35 * r + 5 * k) m := by
              unfold cW
              rw [hev2 hIr hIp, hg.1 228 (by decide) (by decide) (by decide)]
              exact hWr
            have hvp : π 222 3 = nI (7 * s + 1) := by
              rw [hg.1 222 (by decide) (by decide) (by decide)]
              exact hy.2.1
            have hHp : cHo π (28 + 35 * r + 5 * k) m := cHo_eq (hev2 hIr hIp) (hg.1 _ (by decide) (by decide) (by decide)) (hg.1 _ (by decide) (by decide) (by decide)) hy.2.2.1
            rcases hq with rfl | rfl
            · iterate 1 (refine kX_one rfl ?_)
              exact k138 π N1 hIp j2 hVp hWp hvp hHp _ rfl rfl
            · iterate 7 (refine kX_one rfl ?_)
              refine kX_cal (mc_stHas L xs (d + 52) π _ N1 hIp.2.2.2.1.1 hIp.2.2.2.1.2.1) rfl (Or.inr rfl) rfl rfl rfl (fun r1 σ1 q1 => ?_)
              obtain ⟨hq, rfl⟩ := q1
              rcases hq with rfl | rfl
              · iterate 6 (refine kX_one rfl ?_)
                refine kX_cal (mc_reach L xs d σ π n R S C N1 204 776 (nI i) (nI s) h hIp hVp (fun _ => ⟨⟨i, by omega, rfl⟩, s, hs, rfl⟩) (Or.inl ⟨rfl, rfl⟩)) rfl (Or.inr rfl) rfl rfl rfl (fun r1 κ q1 => ?_)
                obtain ⟨rfl, hre, N2, n2, hIk⟩ := q1
                refine k138 κ N2 hIk (by omega) ?_ ?_ ?_ ?_ _ rfl rfl
                · rw [hre.1]
                  exact cV_eq (fun z _ => by rw [sF_g hIk.1, sF_g hIp.1]) hVp
                · unfold cW
                  rw [hev2 hIp hIk, hre.2 228 (by decide)]
                  exact hWp
                · rw [hre.2 222 (by decide)]
                  exact hvp
                · exact cHo_eq (hev2 hIp hIk) (hre.2 _ (by decide)) (hre.2 _ (by decide)) hHp
              · iterate 1 (refine kX_one rfl ?_)
                exact k138 π N1 hIp j2 hVp hWp hvp hHp _ rfl rfl
          repeat refine kX_one rfl ?_
          refine kX_if (fun q3 => ?_) (fun q3 => ?_)
          · have q3 : j ≠ 0 := fun e => qne q3 (by rw [e]; rfl)
            obtain ⟨v1, v2⟩ := j5 q3
            iterate 3 (refine kX_one rfl ?_)
            refine kX_cal (mc_next L xs (d + 52) ω n S r k s m j1.2.2.2.2.2 hr4 hk6 (hEo j1) (hmo j1) m6 hs4 ⟨fun _ _ _ _ => rfl, v1, v2, j3⟩) rfl (Or.inr rfl) rfl rfl rfl (fun r1 ρ q1 => ?_)
            obtain ⟨⟨f, f1, rfl⟩, hy⟩ := q1
            exact kX_lv _ rfl rfl rfl (k95 ρ f f1 hy)
          · iterate 4 (refine kX_one rfl ?_)
            refine kX_cal (mc_first L xs (d + 52) ω n S r k s m j1.2.2.2.2.2 hr4 hk6 (hEo j1) (hmo j1) m6 hWo hs4 j3) rfl (Or.inr rfl) rfl rfl rfl (fun r1 ρ q1 => ?_)
            obtain ⟨⟨f, f1, rfl⟩, hy⟩ := q1
            iterate 1 (refine kX_one rfl ?_)
            exact kX_lv _ rfl rfl rfl (k95 ρ f f1 hy)
    iterate 9 (refine kX_one rfl ?_)
    have x2 : sI σ (va_up τ 195 (upd (τ 195) 10 (τ 195 10 + w.toInt32))) n S N := sI_eq hI (fun c a _ _ _ _ _ => up_ne a) rfl hI.2.2.2.2.1
    have y2 : w ≠ 0 → cW (va_up τ 195 (upd (τ 195) 10 (τ 195 10 + w.toInt32))) (28 + 35 * r + 5 * k) m := fun hw0 => by
      have := (hw.resolve_left hw0) m (hmo hI) m6
      unfold cW at this ⊢
      rw [up_ne (by omega), up_ne (by decide)]
      exact this
    exact kX_lv _ rfl rfl rfl (loop (0, va_up τ 195 (upd (τ 195) 10 (τ 195 10 + w.toInt32)), N) ⟨by show 0 < 2147483648; decide, x2, Nat.le_refl _, hV, y2, fun e => absurd rfl e⟩)
  · iterate 6 (refine kX_one rfl ?_)
    refine kX_ret (i := .return_) (len := 1) rfl (Or.inr rfl) rfl ⟨rfl, N, Nat.le_refl _, sI_eq hI (fun c a _ _ _ _ _ => (up_ne a).trans (up_ne a)) rfl hI.2.2.2.2.1⟩
end
section
/-! the class: goThrough, start, search -/
theorem ix28 (i : Nat) : nI i * (Int8.ofInt 28).toInt32 = nI (28 * i) := by
  rw [show (Int8.ofInt 28).toInt32 = nI 28 from rfl, pk_mul, Nat.mul_comm i 28]
set_option maxRecDepth 100000 in
set_option maxHeartbeats 4000000 in
theorem mc_goThrough (L : Nat) (xs : Nat → Int32) (d : Nat) (σ τ : kS) (n R S C N i : Nat) (h : cJ σ n R S C) (hI : sI σ τ n S N) (hi : i < N) : kXM kT L xs (d + 56) 82 [.ref 195, .int (nI i)] τ (fun q ω => q = none ∧ ∃ N', N ≤ N' ∧ sI σ ω n S N') := by
  have hS4 := h.2.2.1.1
  have hT := h.1
  have hN := hI.2.2.2.1.1
  obtain ⟨kn, kn1, kn2⟩ := h.2.2.2.2.1
  have loop : ∀ q : Nat × Int32 × kS × Nat, (q.1 ≤ S ∧ sI σ q.2.2.1 n S q.2.2.2 ∧ N ≤ q.2.2.2) → kX kT L xs (d + 56) 82 10 [(4, .int (nI q.1)), (3, .int q.2.1), (2, .int (nI (28 * i))), (0, .ref 195), (1, .int (nI i))] [] q.2.2.1 (fun q ω => q = none ∧ ∃ N', N ≤ N' ∧ sI σ ω n S N') := by
    refine kX_while (fun q : Nat × Int32 × kS × Nat => [(4, .int (nI q.1)), (3, .int q.2.1), (2, .int (nI (28 * i))), (0, .ref 195), (1, .int (nI i))]) (fun q => q.2.2.1) _ (fun q => S - q.1) ?_
    rintro ⟨s, fl, ω, N1⟩ ⟨j1, j2, j3⟩ ih
    dsimp only at j1 j2 j3 ih ⊢
    have hB := cB_sI h j2
    have hTo := cT_sF j2.1 hT
    have hN1 := j2.2.2.2.1.1
    have hVa := j2.2.2.2.1.2.2.1 i (by omega)
    have hkn : ω 13 10 = nI kn := by rw [sF_13 j2.1 13 (by decide) (by decide)]; exact kn2
    iterate 4 (refine kX_one rfl ?_)
    refine kX_top (hB.2.1.2.1) ?_
    repeat refine kX_one rfl ?_
    refine kX_if (fun q => ?_) (fun q => ?_)
    · refine kX_ret (i := .return_) (len := 1) rfl (Or.inr rfl) rfl (⟨rfl, N1, j3, j2⟩)
    · have q := qgeF q s S
      have hs4 : s < 4 := by omega
      repeat refine kX_one rfl ?_
      refine kX_if (fun q2 => ?_) (fun q2 => ?_)
      · refine kX_ret (i := .return_) (len := 1) rfl (Or.inr rfl) rfl (⟨rfl, N1, j3, j2⟩)
      · have k185 : ∀ fl' ρ N2, sI σ ρ n S N2 → N ≤ N2 → ∀ lv, nk lv = true → ([(4, .int (nI s)), (3, .int fl'), (2, .int (nI (28 * i))), (0, .ref 195), (1, .int (nI i))] : jL).map (fun q => jl lv q.1) = ([(4, .int (nI s)), (3, .int fl'), (2, .int (nI (28 * i))), (0, .ref 195), (1, Value.int (nI i))] : jL).map (fun q => some q.2) → kX kT L xs (d + 56) 82 185 lv [] ρ (fun q ω => q = none ∧ ∃ N', N ≤ N' ∧ sI σ ω n S N') := by
          intro fl' ρ N2 r1 r2 lv hk hlv
          refine kX_lv _ hk rfl hlv ?_
          iterate 2 (refine kX_one rfl ?_)
          have := ih (s + 1, fl', ρ, N2) ⟨q, r1, r2⟩ (by simp only; omega)
          dsimp only at this
          rw [← nI_1] at this
          exact kX_lv _ rfl rfl rfl this
        iterate 7 (refine kX_one rfl ?_)
        refine kX_cal (mc_due L xs (d + 53) ω n R S 197 16800 (28 * i) s (fun _ => 0) hB.1 hS4 hB.2.1.2.2 q rfl (by decide) (by omega)) rfl (Or.inr rfl) rfl rfl rfl (fun r1 σ1 q1 => ?_)
        obtain ⟨hq, rfl⟩ := q1
        rcases hq with rfl | ⟨r, k, hr4, hk6, rfl, hE⟩
        · iterate 4 (refine kX_one rfl ?_)
          exact k185 fl ω N1 j2 j3 _ rfl rfl
        · have b4 := ev_b r k 4 hr4 hk6 (by decide)
          have hEs : cE σ n (28 + 35 * r + 5 * k) := cE_up (Nat.le_refl _) (fun j hj => (sF_13 j2.1 _ (by omega) (by omega)).symm) hE
          iterate 11 (refine kX_one rfl ?_)
          refine kX_acpyN (n0 := 16800) (n1 := 28) (f0 := fun _ => 0) (g0 := fun _ => 0) rfl rfl rfl rfl rfl rfl (28 * i) 0 28 rfl rfl rfl (by omega) (by decide) (by decide) (by decide) (Nat.zero_le 8) ?_
          iterate 5 (refine kX_one rfl ?_)
          refine kX_top (y := nI (7 * s)) (ix7s s) ?_
          iterate 1 (refine kX_one rfl ?_)
          refine kX_ialdN rfl rfl (by decide) (7 * s) (by first | rfl | decide) (by omega) ?_
          iterate 2 (refine kX_one rfl ?_)
          refine kX_iastN rfl rfl (by decide) (7 * s) (by first | rfl | decide) (by omega) ?_
          have hV1 : cV ω n S (upd (va_cpy (ω 197) (ω 202) (28 * i) 0 28) (7 * s) ((va_cpy (ω 197) (ω 202) (28 * i) 0 28) (7 * s) + Int32.ofInt 1)) 0 := fun s' k' hs' hk' => by
            rw [pk_un (by omega), va_cpy, if_pos (by omega)]
            have := hVa s' k' hs' hk'
            rw [show 28 * i + (0 + 7 * s' + 1 + k' - 0) = 28 * i + 7 * s' + 1 + k' by omega]
            exact this
          refine kX_st (va_up ω 202 (upd (va_cpy (ω 197) (ω 202) (28 * i) 0 28) (7 * s) ((va_cpy (ω 197) (ω 202) (28 * i) 0 28) (7 * s) + Int32.ofInt 1))) ?_ ?_
          · funext c; unfold  va_up; repeat' split
            all_goals first | rfl | omega | (subst_vars; rfl) | (funext j; unfold upd; repeat' split; all_goals first | rfl | omega | (subst_vars; rfl))
          generalize upd (va_cpy (ω 197) (ω 202) (28 * i) 0 28) (7 * s) ((va_cpy (ω 197) (ω 202) (28 * i) 0 28) (7 * s) + Int32.ofInt 1) = D at *
          have hI1 : sI σ (va_up ω 202 D) n S N1 := sI_eq j2 (fun c _ a _ _ _ _ => up_ne a) rfl j2.2.2.2.2.1
          have hV2 : cV (va_up ω 202 D) n S ((va_up ω 202 D) 202) 0 := hV1
          have hVa2 : cV (va_up ω 202 D) n S ((va_up ω 202 D) 197) (28 * i) := hVa
          have hkn2 : (va_up ω 202 D) 13 10 = nI kn := hkn
          generalize va_up ω 202 D = ρ at *
          have hB1 := cB_sI h hI1
          have hT1 := cT_sF hI1.1 hT
          iterate 1 (refine kX_one rfl ?_)
          refine kX_getN rfl rfl (kT_ev hr4 hk6) rfl ?_
          repeat refine kX_one rfl ?_
          refine kX_if (fun q3 => ?_) (fun q3 => ?_)
          · iterate 6 (refine kX_one rfl ?_)
            refine kX_cal (mc_stHas L xs (d + 53) ρ _ N1 hI1.2.2.2.1.1 hI1.2.2.2.1.2.1) rfl (Or.inr rfl) rfl rfl rfl (fun r1 σ1 q1 => ?_)
            obtain ⟨hq, rfl⟩ := q1
            rcases hq with rfl | rfl
            · have k174 : ∀ π, sI σ π n S N1 → cV π n S (π 202) 0 → kX kT L xs (d + 56) 82 174 [(4, .int (nI s)), (3, .int fl), (2, .int (nI (28 * i))), (0, .ref 195), (1, .int (nI i))] [] π (fun q ω => q = none ∧ ∃ N', N ≤ N' ∧ sI σ ω n S N') := by
                intro π p1 p2
                iterate 5 (refine kX_one rfl ?_)
                refine kX_cal (mc_reach L xs (d + 1) σ π n R S C N1 213 1352 (nI i) (nI s) h p1 p2 (fun _ => ⟨⟨i, by omega, rfl⟩, s, q, rfl⟩) (Or.inr ⟨rfl, rfl⟩)) rfl (Or.inr rfl) rfl rfl rfl (fun r1 κ q1 => ?_)
                obtain ⟨rfl, -, N2, n2, hIk⟩ := q1
                exact k185 fl κ N2 hIk (by omega) _ rfl rfl
              iterate 3 (refine kX_one rfl ?_)
              repeat refine kX_one rfl ?_
              refine kX_if (fun q4 => ?_) (fun q4 => ?_)
              · exact kX_lv _ rfl rfl rfl (k174 ρ hI1 hV2)
              · iterate 7 (refine kX_one rfl ?_)
                refine kX_cal (mc_fill L xs (d + 1) ρ 213 1352 n R S 202 28 0 kn (fun _ => 0) (Or.inr (Or.inr ⟨rfl, rfl⟩)) hT1 hB1.1 hS4 hB1.2.1.2.1 hB1.2.1.2.2 kn1 hkn2 hI1.2.2.1 rfl (by decide) (by decide) (by decide) hV2) rfl (Or.inr rfl) rfl rfl rfl (fun r1 π q1 => ?_)
                obtain ⟨rfl, hF, u, hW⟩ := q1
                have hIp := sI_K hI1 (Or.inr ⟨rfl, rfl⟩) hF (nW_w hW)
                refine kX_lv _ rfl rfl rfl (k174 π hIp ?_)
                rw [hF.1 202 (by decide) (by decide) (by decide) (by decide) (by decide) (by decide)]
                exact cV_eq (fun z _ => by rw [hF.1 8 (by decide) (by decide) (by decide) (by decide) (by decide) (by decide)]) hV2
            · iterate 1 (refine kX_one rfl ?_)
              exact k185 fl ρ N1 hI1 j3 _ rfl rfl
          · have k121 : ∀ fl' π, sI σ π n S N1 → cV π n S (π 202) 0 → kX kT L xs (d + 56) 82 121 [(5, .ref (28 + 35 * r + 5 * k)), (4, .int (nI s)), (3, .int fl'), (2, .int (nI (28 * i))), (0, .ref 195), (1, .int (nI i))] [] π (fun q ω => q = none ∧ ∃ N', N ≤ N' ∧ sI σ ω n S N') := by
              intro fl' π p1 p2
              iterate 4 (refine kX_one rfl ?_)
              refine kX_cal (mc_tryWays L xs d σ π n R S C N1 i s r k h p1 p2 (by omega) q hr4 hk6 hEs) rfl (Or.inr rfl) rfl rfl rfl (fun r1 κ q1 => ?_)
              obtain ⟨rfl, N2, n2, hIk⟩ := q1
              iterate 1 (refine kX_one rfl ?_)
              exact k185 fl' κ N2 hIk (by omega) _ rfl rfl
            repeat refine kX_one rfl ?_
            refine kX_if (fun q4 => ?_) (fun q4 => ?_)
            · exact kX_lv _ rfl rfl rfl (k121 fl ρ hI1 hV2)
            · iterate 8 (refine kX_one rfl ?_)
              refine kX_cal (mc_fill L xs (d + 1) ρ 204 776 n R S 197 16800 (28 * i) kn (fun _ => 0) (Or.inr (Or.inl ⟨rfl, rfl⟩)) hT1 hB1.1 hS4 hB1.2.1.2.1 hB1.2.1.2.2 kn1 hkn2 hI1.2.1 rfl (by decide) (by decide) (by omega) hVa2) rfl (Or.inr rfl) rfl rfl rfl (fun r1 π q1 => ?_)
              obtain ⟨rfl, hF, u, hW⟩ := q1
              have hIp := sI_K hI1 (Or.inl ⟨rfl, rfl⟩) hF (nW_w hW)
              iterate 2 (refine kX_one rfl ?_)
              refine kX_lv _ rfl rfl rfl (k121 1 π hIp ?_)
              rw [hF.1 202 (by decide) (by decide) (by decide) (by decide) (by decide) (by decide)]
              exact cV_eq (fun z _ => by rw [hF.1 8 (by decide) (by decide) (by decide) (by decide) (by decide) (by decide)]) hV2
  unfold kXM
  iterate 3 (refine kX_one rfl ?_)
  refine kX_top (y := nI (28 * i)) (ix28 i) ?_
  iterate 5 (refine kX_one rfl ?_)
  exact kX_lv _ rfl rfl rfl (loop (0, 0, τ, N) ⟨Nat.zero_le _, hI, Nat.le_refl _⟩)
end
section
/-! the class: start, search -/
theorem cJ_sI {σ τ : kS} {n R S C N : Nat} (h : cJ σ n R S C) (hI : sI σ τ n S N) : cJ τ n R S C := by
  obtain ⟨h1, h2, h3, h4, h5, h6, h7, h8, h9, h10, h11⟩ := h
  obtain ⟨i1, i2, i3, ⟨s1, s2, s3, s4, s5⟩, i5, i6⟩ := hI
  have e : ∀ c, 13 ≤ c → c < 195 → τ c = σ c := sF_13 i1
  have hg : ∀ z, z < n → τ 8 z = σ 8 z := fun z _ => by rw [sF_g i1]
  refine ⟨cT_sF i1 h1, cRo_gr (Nat.le_refl _) (fun c c1 c2 => e c c1 (by omega)) h2, cSe_eq hg (by rw [e 13 (by decide) (by decide)]) (e _ (by decide) (by decide)) (e _ (by decide) (by decide)) h3, cCl_eq (by rw [e 13 (by decide) (by decide)]) (fun c c1 c2 => e c (by omega) (by omega)) h4, cKn_eq (by rw [e 13 (by decide) (by decide)]) h5, cKw_eq2 (e _ (by decide) (by decide)) (e _ (by decide) (by decide)) (e _ (by decide) (by decide)) (fun g _ g2 => i1.2 g (by omega)) h6, i2, i3, ?_, ⟨N, s1, s2, s3, s4, s5⟩, i5⟩
  unfold cRu
  rw [e 181 (by decide) (by decide), e 183 (by decide) (by decide), e 182 (by decide) (by decide), e 186 (by decide) (by decide)]
  rcases h9 with q | ⟨q1, q2, q3, q4⟩
  · exact Or.inl q
  · refine Or.inr ⟨q1, q2, cV_eq hg q3, ?_⟩
    rcases q4 with q4 | ⟨g, g1, g2, g3⟩
    · exact Or.inl q4
    · refine Or.inr ⟨g, g1, g2, fun hgn => ?_⟩
      obtain ⟨u, u1, u2, u3⟩ := g3 hgn
      exact ⟨u, u1, u2, cKg_eq hg (fun g _ b => ⟨(i1.2 g (by omega)).2.1, (i1.2 g (by omega)).2.2.1⟩) u3⟩
theorem sI_0 {σ ρ : kS} {n R S C : Nat} (h : cJ σ n R S C) (e : ∀ c, c ≠ 195 → c ≠ 196 → c ≠ 201 → c ≠ 202 → c < 224 ∨ 229 ≤ c → ρ c = σ c) (e1 : ρ 196 5 = 0) (e2 : ρ 195 9 = -1) (hO : cO ρ n) : sI σ ρ n S 0 := by
  have e' : ∀ c, c < 195 ∨ (202 < c ∧ c < 224) ∨ 229 ≤ c → ρ c = σ c := fun c hc => e c (by omega) (by omega) (by omega) (by omega) (by omega)
  have hgt : ∀ g, 200 ≤ g → ρ 2 g = σ 2 g ∧ ρ 3 g = σ 3 g ∧ ρ 4 g = σ 4 g ∧ ρ 6 g = σ 6 g := fun g _ => by
    rw [e' 2 (by decide), e' 3 (by decide), e' 4 (by decide), e' 6 (by decide)]
    exact ⟨rfl, rfl, rfl, rfl⟩
  obtain ⟨h1, h2, h3, h4, h5, h6, h7, h8, h9, h10, h11⟩ := h
  exact ⟨sF_of (fun c hc => e' c (by omega)), cKw_eq (by decide) (e' _ (by decide)) (e' _ (by decide)) (e' _ (by decide)) hgt h7, cKw_eq (by decide) (e' _ (by decide)) (e' _ (by decide)) (e' _ (by decide)) hgt h8, ⟨by decide, e1, fun i hi => absurd hi (Nat.not_lt_zero i), fun i _ hi => absurd hi (Nat.not_lt_zero i), Or.inl e2⟩, cQ_eq (e' _ (by decide)) (e' _ (by decide)) h11, hO⟩
set_option maxRecDepth 100000 in
set_option maxHeartbeats 4000000 in
theorem mc_start (L : Nat) (xs : Nat → Int32) (d : Nat) (σ : kS) (n R S C : Nat) (h : cJ σ n R S C) : kXM kT L xs (d + 55) 80 [.ref 195] σ (fun q ω => q = none ∧ ∃ N', sI σ ω n S N') := by
  have hT := h.1
  have hS4 := h.2.2.1.1
  obtain ⟨kn, kn1, kn2⟩ := h.2.2.2.2.1
  unfold kXM
  iterate 1 (refine kX_one rfl ?_)
  refine kX_cal (mc_forget L xs (d + 51) σ) rfl (Or.inr rfl) rfl rfl rfl (fun r1 τ q1 => ?_)
  obtain ⟨rfl, f1, f2, -, -, f3⟩ := q1
  have hT1 : cT τ n := cT_eq (by rw [f3 1 (by decide) (by decide) (by decide)]) (f3 _ (by decide) (by decide) (by decide)) (fun u _ => ⟨by rw [f3 2 (by decide) (by decide) (by decide)], by rw [f3 3 (by decide) (by decide) (by decide)], by rw [f3 4 (by decide) (by decide) (by decide)], by rw [f3 8 (by decide) (by decide) (by decide)], by rw [f3 12 (by decide) (by decide) (by decide)], by rw [f3 6 (by decide) (by decide) (by decide)]⟩) hT
  iterate 2 (refine kX_one rfl ?_)
  refine kX_cal (mc_listOptions L xs (d + 52) τ n hT1) rfl (Or.inr rfl) rfl rfl rfl (fun r1 ω q1 => ?_)
  obtain ⟨rfl, o1, o2⟩ := q1
  have e0 : ∀ c, c ≠ 195 → c ≠ 196 → c ≠ 201 → c < 224 ∨ 229 ≤ c → ω c = σ c := fun c c1 c2 c3 c4 => (o1 c c4).trans (f3 c c1 c2 c3)
  have e1 : ω 196 5 = 0 := by rw [o1 196 (by decide)]; exact f1
  have e2 : ω 195 9 = -1 := by rw [o1 195 (by decide)]; exact f2
  iterate 7 (refine kX_one rfl ?_)
  generalize hρ : va_up ω 195 (upd (ω 195) 6 (ω 13 6 * (Int8.ofInt 7).toInt32)) = ρ
  have g0 : ∀ c, c ≠ 195 → ρ c = ω c := fun c hc => by rw [← hρ]; exact up_ne hc
  have g1 : ρ 195 9 = -1 := by rw [← hρ]; exact e2
  have hCl : cCl ρ C := cCl_eq (by rw [g0 13 (by decide), e0 13 (by decide) (by decide) (by decide) (by decide)]) (fun c c1 c2 => (g0 c (by omega)).trans (e0 c (by omega) (by omega) (by omega) (by omega))) h.2.2.2.1
  iterate 3 (refine kX_one rfl ?_)
  refine kX_cal (mc_hasSecrets L xs (d + 53) ρ C hCl) rfl (Or.inr rfl) rfl rfl rfl (fun r1 σ1 q1 => ?_)
  obtain ⟨hq, rfl⟩ := q1
  have k36 : ∀ x, kX kT L xs (d + 55) 80 36 [(0, .ref 195)] [] (va_up ρ 195 (upd (ρ 195) 7 x)) (fun q ω => q = none ∧ ∃ N', sI σ ω n S N') := by
    intro x
    iterate 8 (refine kX_one rfl ?_)
    refine kX_acpyN (n0 := 28) (n1 := 28) (f0 := fun _ => 0) (g0 := fun _ => 0) rfl rfl rfl rfl rfl rfl 0 0 28 rfl rfl rfl (by decide) (by decide) (by decide) (by decide) (Nat.zero_le 8) ?_
    have hI : sI σ (va_up (va_up ρ 195 (upd (ρ 195) 7 x)) 202 (va_cpy (ρ 17) (ρ 202) 0 0 28)) n S 0 := sI_0 h (fun c a1 a2 a3 a4 a5 => (up_ne a4).trans ((up_ne a1).trans ((g0 c a1).trans (e0 c a1 a2 a3 a5)))) (by
      show ρ 196 5 = 0
      rw [g0 196 (by decide)]
      exact e1) g1 (cO_eq (fun z _ => by
      show ρ 8 z = ω 8 z
      rw [g0 _ (by decide)]) (fun c c1 c2 => by rw [up_ne (by omega), up_ne (by omega)]; exact g0 c (by omega)) o2)
    have hV : cV (va_up (va_up ρ 195 (upd (ρ 195) 7 x)) 202 (va_cpy (ρ 17) (ρ 202) 0 0 28)) n S ((va_up (va_up ρ 195 (upd (ρ 195) 7 x)) 202 (va_cpy (ρ 17) (ρ 202) 0 0 28)) 202) 0 := by
      refine cV_eq (σ := σ) (fun z _ => by rw [sF_g hI.1]) (fun s k hs hk => ?_)
      rw [up_eq, va_cpy, if_pos (by omega), show 0 + (0 + 7 * s + 1 + k - 0) = 0 + 7 * s + 1 + k by omega, g0 17 (by decide), e0 17 (by decide) (by decide) (by decide) (by decide)]
      exact h.2.2.1.2.2.2 s k hs hk
    refine kX_st (va_up (va_up ρ 195 (upd (ρ 195) 7 x)) 202 (va_cpy (ρ 17) (ρ 202) 0 0 28)) rfl ?_
    generalize va_up (va_up ρ 195 (upd (ρ 195) 7 x)) 202 (va_cpy (ρ 17) (ρ 202) 0 0 28) = π at *
    have hB1 := cB_sI h hI
    have hkn2 : π 13 10 = nI kn := by rw [sF_13 hI.1 13 (by decide) (by decide)]; exact kn2
    iterate 7 (refine kX_one rfl ?_)
    refine kX_cal (mc_fill L xs d π 213 1352 n R S 202 28 0 kn (fun _ => 0) (Or.inr (Or.inr ⟨rfl, rfl⟩)) (cT_sF hI.1 hT) hB1.1 hS4 hB1.2.1.2.1 hB1.2.1.2.2 kn1 hkn2 hI.2.2.1 rfl (by decide) (by decide) (by decide) hV) rfl (Or.inr rfl) rfl rfl rfl (fun r1 κ q1 => ?_)
    obtain ⟨rfl, hF, u, hW⟩ := q1
    have hIp := sI_K hI (Or.inr ⟨rfl, rfl⟩) hF (nW_w hW)
    have hVp : cV κ n S (κ 202) 0 := by
      rw [hF.1 202 (by decide) (by decide) (by decide) (by decide) (by decide) (by decide)]
      exact cV_eq (fun z _ => by rw [hF.1 8 (by decide) (by decide) (by decide) (by decide) (by decide) (by decide)]) hV
    iterate 5 (refine kX_one rfl ?_)
    refine kX_cal (mc_reach L xs d σ κ n R S C 0 213 1352 _ _ h hIp hVp (fun z => absurd z (Nat.lt_irrefl 0)) (Or.inr ⟨rfl, rfl⟩)) rfl (Or.inr rfl) rfl rfl rfl (fun r1 μ q1 => ?_)
    obtain ⟨rfl, -, N2, n2, hIk⟩ := q1
    refine kX_ret (i := .return_) (len := 1) rfl (Or.inr rfl) rfl (⟨rfl, N2, hIk⟩)
  rcases hq with rfl | rfl
  · iterate 1 (refine kX_one rfl ?_)
    exact kX_lv _ rfl rfl rfl (k36 _)
  · iterate 1 (refine kX_one rfl ?_)
    exact kX_lv _ rfl rfl rfl (k36 _)
set_option maxRecDepth 100000 in
set_option maxHeartbeats 4000000 in
theorem mc_goesOn (L : Nat) (xs : Nat → Int32) (d : Nat) (τ : kS) (N i : Nat) (hN : N ≤ 600) (hi : i ≤ 600) (hc : τ 196 5 = nI N) : kXM kT L xs (d + 1) 81 [.ref 195, .int (nI i)] τ (fun q ω => (q = some (.int 0) ∨ (q = some (.int 1) ∧ i < N)) ∧ τ = ω) := by
  unfold kXM
  repeat refine kX_one rfl ?_
  refine kX_if (fun q => ?_) (fun q => ?_)
  · repeat refine kX_one rfl ?_
    refine kX_ret (i := .ireturn) (len := 1) rfl (Or.inr rfl) rfl (⟨Or.inl rfl, rfl⟩)
  · iterate 4 (refine kX_one rfl ?_)
    refine kX_top (hc) ?_
    repeat refine kX_one rfl ?_
    refine kX_if (fun q2 => ?_) (fun q2 => ?_)
    · repeat refine kX_one rfl ?_
      refine kX_ret (i := .ireturn) (len := 1) rfl (Or.inr rfl) rfl (⟨Or.inl rfl, rfl⟩)
    · have q2 := qgeF q2 i N
      repeat refine kX_one rfl ?_
      refine kX_ret (i := .ireturn) (len := 1) rfl (Or.inr rfl) rfl (⟨Or.inr ⟨rfl, q2⟩, rfl⟩)
set_option maxRecDepth 100000 in
set_option maxHeartbeats 4000000 in
theorem mk_search (L : Nat) (xs : Nat → Int32) (d : Nat) (σ : kS) (n R S C : Nat) (h : cJ σ n R S C) : kXM kT L xs (d + 57) 132 [.ref 0] σ (fun r σ' => (∃ x, r = some (.int x)) ∧ cAfter σ σ' R) := by
  have hA : ∀ {ω N}, sI σ ω n S N → cAfter σ ω R := fun hI => ⟨fun c hc => hI.1.1 c (Or.inr hc) (by omega) (by omega) (by omega) (by omega) (by omega), n, S, C, cJ_sI h hI⟩
  have loop : ∀ q : Nat × kS × Nat, (q.1 ≤ 600 ∧ sI σ q.2.1 n S q.2.2) → kX kT L xs (d + 57) 132 9 [(1, .int (nI q.1)), (0, .ref 0)] [] q.2.1 (fun r σ' => (∃ x, r = some (.int x)) ∧ cAfter σ σ' R) := by
    refine kX_while (fun q : Nat × kS × Nat => [(1, .int (nI q.1)), (0, .ref 0)]) (fun q => q.2.1) _ (fun q => 600 - q.1) ?_
    rintro ⟨i, ω, N⟩ ⟨i1, i2⟩ ih
    dsimp only at i1 i2 ih ⊢
    repeat refine kX_one rfl ?_
    refine kX_if (fun q => ?_) (fun q => ?_)
    · repeat refine kX_one rfl ?_
      refine kX_ret (i := .ireturn) (len := 1) rfl (Or.inr rfl) rfl (⟨⟨_, rfl⟩, hA i2⟩)
    · have q := qgeF q i 600
      iterate 3 (refine kX_one rfl ?_)
      refine kX_cal (mc_goesOn L xs (d + 55) ω N i i2.2.2.2.1.1 i1 i2.2.2.2.1.2.1) rfl (Or.inr rfl) rfl rfl rfl (fun r1 σ1 q1 => ?_)
      obtain ⟨hq, rfl⟩ := q1
      rcases hq with rfl | ⟨rfl, hi⟩
      · repeat refine kX_one rfl ?_
        refine kX_ret (i := .ireturn) (len := 1) rfl (Or.inr rfl) rfl (⟨⟨_, rfl⟩, hA i2⟩)
      · iterate 4 (refine kX_one rfl ?_)
        refine kX_cal (mc_goThrough L xs d σ ω n R S C N i h i2 hi) rfl (Or.inr rfl) rfl rfl rfl (fun r1 ρ q1 => ?_)
        obtain ⟨rfl, N2, -, hI2⟩ := q1
        iterate 2 (refine kX_one rfl ?_)
        have := ih (i + 1, ρ, N2) ⟨q, hI2⟩ (by simp only; omega)
        dsimp only at this
        rw [← nI_1] at this
        exact kX_lv _ rfl rfl rfl this
  unfold kXM
  iterate 2 (refine kX_one rfl ?_)
  refine kX_cal (mc_start L xs (d + 1) σ n R S C h) rfl (Or.inr rfl) rfl rfl rfl (fun r1 τ q1 => ?_)
  obtain ⟨rfl, N, hI⟩ := q1
  iterate 2 (refine kX_one rfl ?_)
  exact kX_lv _ rfl rfl rfl (loop (0, τ, N) ⟨Nat.zero_le _, hI⟩)
end
section
/-! the class: play -/
set_option maxRecDepth 100000 in
set_option maxHeartbeats 4000000 in
theorem mc_follow (L : Nat) (xs : Nat → Int32) (d : Nat) (σ : kS) (n R S C s base : Nat) (h : cJ σ n R S C) (hon : σ 181 8 ≠ 0) (hs : s < S) (hb : base + 28 ≤ 16800) (hW : cV σ n S (σ 197) base) : kXM kT L xs (d + 3) 72 [.ref 181, .int (nI s), .ref 197, .int (nI base)] σ (fun q σ' => q = none ∧ rnP σ σ' n R S C) := by
  have hS := h.2.2.1
  have hS4 := hS.1
  have hRo := h.2.1
  have hRu := h.2.2.2.2.2.2.2.2.1
  rcases hRu with hRu | ⟨on1, cnt, hV, hg⟩
  · exact absurd hRu hon
  · have eo : ∀ A e, e < 181 ∨ 186 ≤ e → va_up σ 182 A e = σ e := fun A e he => up_ne (by omega)
    have k77 : ∀ A, cV σ n S A 0 → ∀ lv, nk lv = true → ([(0, .ref 181), (1, .int (nI s))] : jL).map (fun q => jl lv q.1) = ([(0, .ref 181), (1, Value.int (nI s))] : jL).map (fun q => some q.2) → kX kT L xs (d + 3) 72 77 lv [] (va_up σ 182 A) (fun q σ' => q = none ∧ rnP σ σ' n R S C) := by
      intro A hA lv hk hlv
      refine kX_lv _ hk rfl hlv ?_
      have hJ : cJ (va_up σ 182 A) n R S C := cJ_run h (eo A) (Or.inr ⟨on1, cnt, hA, hg⟩)
      iterate 2 (refine kX_one rfl ?_)
      refine kX_cal (mc_step L xs (d + 1) (va_up σ 182 A) n R S C s hJ hon hs) rfl (Or.inr rfl) rfl rfl rfl (fun r1 τ q1 => ?_)
      obtain ⟨rfl, s1, s2, s3, s4⟩ := q1
      refine kX_ret (i := .return_) (len := 1) rfl (Or.inr rfl) rfl (⟨rfl, cHi_trans (cHi_run (eo A)) s1, s2, s3, fun c hc => (s4 c hc).trans (eo A c hc)⟩)
    unfold kXM
    iterate 6 (refine kX_one rfl ?_)
    refine kX_cal (mc_due L xs d σ n R S 182 28 0 s (fun _ => 0) hRo hS4 hS.2.2.1 hs rfl (by decide) (by decide)) rfl (Or.inr rfl) rfl rfl rfl (fun r1 σ1 q1 => ?_)
    obtain ⟨hq, rfl⟩ := q1
    rcases hq with rfl | ⟨r, k, hr4, hk6, rfl, hE⟩
    · iterate 11 (refine kX_one rfl ?_)
      refine kX_to _ _ rfl rfl rfl ?_ (k77 (σ 182) hV [(0, .ref 181), (1, .int (nI s))] rfl rfl)
      funext c; unfold  va_up; repeat' split
      all_goals first | rfl | omega | (subst_vars; rfl) | (funext j; unfold upd; repeat' split; all_goals first | rfl | omega | (subst_vars; rfl))
    · have b1 := ev_b r k 1 hr4 hk6 (by decide)
      obtain ⟨t, m, qq, t1, m6, -, t2, m2, -, bd, -⟩ := hE
      have loop : ∀ q : Nat × (Nat → Int32), (q.1 ≤ m ∧ cV σ n S q.2 0) → kX kT L xs (d + 3) 72 34 [(6, .int (nI q.1)), (5, .int (nI m)), (4, .ref (28 + 35 * r + 5 * k)), (0, .ref 181), (1, .int (nI s)), (2, .ref 197), (3, .int (nI base))] [] (va_up σ 182 q.2) (fun q σ' => q = none ∧ rnP σ σ' n R S C) := by
        refine kX_while (fun q : Nat × (Nat → Int32) => [(6, .int (nI q.1)), (5, .int (nI m)), (4, .ref (28 + 35 * r + 5 * k)), (0, .ref 181), (1, .int (nI s)), (2, .ref 197), (3, .int (nI base))]) (fun q => va_up σ 182 q.2) _ (fun q => m - q.1) ?_
        rintro ⟨j, A⟩ ⟨j1, j2⟩ ih
        dsimp only at j1 j2 ih ⊢
        iterate 2 (refine kX_one rfl ?_)
        repeat refine kX_one rfl ?_
        refine kX_if (fun q => ?_) (fun q => ?_)
        · exact k77 A j2 _ rfl rfl
        · have q := qgeF q j m
          obtain ⟨⟨p, p1, p2⟩, -⟩ := bd j q
          iterate 5 (refine kX_one rfl ?_)
          refine kX_top (y := nI (7 * s + 1)) (ix7z s) ?_
          iterate 1 (refine kX_one rfl ?_)
          refine kX_getN rfl rfl (kT_ev hr4 hk6) rfl ?_
          iterate 1 (refine kX_one rfl ?_)
          refine kX_ialdV rfl (kT_e1 hr4 hk6 (Or.inl rfl)) (by decide) (j) (by first | rfl | decide) (by omega) ((congrFun (eo A _ (by omega)) j).trans p2) ?_
          iterate 1 (refine kX_one rfl ?_)
          refine kX_top (y := nI (7 * s + 1 + p)) (nI_add (7 * s + 1) p) ?_
          iterate 8 (refine kX_one rfl ?_)
          refine kX_top (y := nI (base + (7 * s + 1 + p))) (nI_add base (7 * s + 1 + p)) ?_
          refine kX_ialdN rfl rfl (by decide) (base + (7 * s + 1 + p)) (by first | rfl | decide) (by omega) ?_
          refine kX_iastN rfl rfl (by decide) (7 * s + 1 + p) (by first | rfl | decide) (by omega) ?_
          iterate 2 (refine kX_one rfl ?_)
          have := ih (j + 1, upd A (7 * s + 1 + p) (σ 197 (base + (7 * s + 1 + p)))) ⟨q, fun s' k' hs' hk' => by
            simp only
            by_cases e : 0 + 7 * s' + 1 + k' = 7 * s + 1 + p
            · rw [e, pk_us, show base + (7 * s + 1 + p) = base + 7 * s + 1 + p by omega]
              exact hW s p hs p1
            · rw [pk_un e]
              exact j2 s' k' hs' hk'⟩ (by simp only; omega)
          dsimp only at this
          rw [← nI_1] at this
          refine kX_to _ _ rfl rfl rfl ?_ this
          funext c; unfold  va_up; repeat' split
          all_goals first | rfl | omega | (subst_vars; rfl) | (funext j; unfold upd; repeat' split; all_goals first | rfl | omega | (subst_vars; rfl))
      iterate 4 (refine kX_one rfl ?_)
      refine kX_getN rfl rfl (kT_ev hr4 hk6) rfl ?_
      refine kX_top (m2) ?_
      iterate 3 (refine kX_one rfl ?_)
      refine kX_to _ _ rfl rfl rfl ?_ (loop (0, σ 182) ⟨Nat.zero_le _, hV⟩)
      funext c; unfold  va_up; repeat' split
      all_goals first | rfl | omega | (subst_vars; rfl) | (funext j; unfold upd; repeat' split; all_goals first | rfl | omega | (subst_vars; rfl))
end
section
/-! the class: play -/
theorem max_ok (k : Nat) (h : k < 2147483648) : jmmv 1 0 (nI k) = nI k := by
  unfold jmmv
  rw [if_pos rfl]
  by_cases e : (0 : Int32) < nI k
  · rw [if_pos e]
  · rw [if_neg e]
    rw [Int32.lt_iff_toInt_lt, nI_toInt h] at e
    have : (0 : Int32).toInt = 0 := rfl
    have : k = 0 := by omega
    rw [this]
    rfl
set_option maxRecDepth 100000 in
set_option maxHeartbeats 4000000 in
theorem mc_attackBase (L : Nat) (xs : Nat → Int32) (d : Nat) (σ : kS) (N : Nat) (hN : N < 600) (hc : σ 196 5 = nI (N + 1)) : kXM kT L xs (d + 1) 78 [.ref 195] σ (fun r σ' => r = some (.int (nI (28 * N))) ∧ σ = σ') := by
  unfold kXM
  iterate 4 (refine kX_one rfl ?_)
  refine kX_top (hc) ?_
  iterate 2 (refine kX_one rfl ?_)
  refine kX_top (y := nI N) (nI_pred N) ?_
  iterate 1 (refine kX_one rfl ?_)
  refine kX_top (y := nI N) (max_ok N (by omega)) ?_
  iterate 2 (refine kX_one rfl ?_)
  refine kX_top (y := nI (28 * N)) (ix28 N) ?_
  refine kX_ret (i := .ireturn) (len := 1) rfl (Or.inr rfl) rfl (⟨rfl, rfl⟩)
set_option maxRecDepth 100000 in
set_option maxHeartbeats 4000000 in
theorem mk_play (L : Nat) (xs : Nat → Int32) (d : Nat) (σ : kS) (n R S C : Nat) (x : Int32) (h : cJ σ n R S C) : kXM kT L xs (d + 56) 135 [.ref 0, .int x] σ (fun r σ' => (∃ x, r = some (.int x)) ∧ cAfter σ σ' R) := by
  have hha : kXM kT L xs (d + 55) 77 [.ref 195] σ (fun r σ' => (r = some (.int 0) ∨ (r = some (.int 1) ∧ σ 195 9 ≠ -1)) ∧ σ = σ') := by
    unfold kXM
    repeat refine kX_one rfl ?_
    refine kX_if (fun q => ?_) (fun q => ?_)
    · repeat refine kX_one rfl ?_
      refine kX_ret (i := .ireturn) (len := 1) rfl (Or.inr rfl) rfl (⟨Or.inl rfl, rfl⟩)
    · have q : σ 195 9 ≠ -1 := qeqF q
      repeat refine kX_one rfl ?_
      refine kX_ret (i := .ireturn) (len := 1) rfl (Or.inr rfl) rfl (⟨Or.inr ⟨rfl, q⟩, rfl⟩)
  obtain ⟨N, s1, s2, s3, s4, s5⟩ := h.2.2.2.2.2.2.2.2.2.1
  unfold kXM
  iterate 2 (refine kX_one rfl ?_)
  refine kX_cal hha rfl (Or.inr rfl) rfl rfl rfl (fun r1 σ1 q1 => ?_)
  obtain ⟨hq, rfl⟩ := q1
  rcases hq with rfl | ⟨rfl, hln⟩
  · repeat refine kX_one rfl ?_
    refine kX_ret (i := .ireturn) (len := 1) rfl (Or.inr rfl) rfl (⟨⟨_, rfl⟩, cAfter_same h⟩)
  · obtain ⟨N0, ln, l1, l2, l3⟩ := s5.resolve_left hln
    obtain ⟨N', rfl⟩ : ∃ N', N = N' + 1 := ⟨N - 1, by omega⟩
    iterate 1 (refine kX_one rfl ?_)
    repeat refine kX_one rfl ?_
    refine kX_if (fun q => ?_) (fun q => ?_)
    · repeat refine kX_one rfl ?_
      refine kX_ret (i := .ireturn) (len := 1) rfl (Or.inr rfl) rfl (⟨⟨_, rfl⟩, cAfter_same h⟩)
    · have q : ¬ x < 0 := of_decide_eq_false q
      obtain ⟨j, hj, rfl⟩ := nI_of q
      iterate 4 (refine kX_one rfl ?_)
      refine kX_top (l2) ?_
      repeat refine kX_one rfl ?_
      refine kX_if (fun q2 => ?_) (fun q2 => ?_)
      · have q2 := qle q2 j ln
        have loop : ∀ q : Nat × kS, (q.1 ≤ j ∧ cHi σ q.2 ∧ cJ q.2 n R S C ∧ q.2 181 8 ≠ 0 ∧ ∀ c, c < 181 ∨ 186 ≤ c → q.2 c = σ c) → kX kT L xs (d + 56) 135 40 [(2, .int (nI q.1)), (0, .ref 0), (1, .int (nI j))] [] q.2 (fun r σ' => (∃ x, r = some (.int x)) ∧ cAfter σ σ' R) := by
          refine kX_while (fun q : Nat × kS => [(2, .int (nI q.1)), (0, .ref 0), (1, .int (nI j))]) (fun q => q.2) _ (fun q => j - q.1) ?_
          rintro ⟨i, τ⟩ ⟨i1, i2, i3, i4, i5⟩ ih
          dsimp only at i1 i2 i3 i4 i5 ih ⊢
          repeat refine kX_one rfl ?_
          refine kX_if (fun q3 => ?_) (fun q3 => ?_)
          · iterate 2 (refine kX_one rfl ?_)
            refine kX_cal (mc_intruder L xs d τ n R S C i3 i4) rfl (Or.inr rfl) rfl rfl rfl (fun r1 ω q1 => ?_)
            obtain ⟨rfl, x1, x2, -⟩ := q1
            repeat refine kX_one rfl ?_
            refine kX_ret (i := .ireturn) (len := 1) rfl (Or.inr rfl) rfl (⟨⟨_, rfl⟩, cHi_trans i2 x1, n, S, C, x2⟩)
          · have q3 := qgeF q3 i j
            obtain ⟨s, hs, hs2⟩ := l3 i (by omega)
            iterate 6 (refine kX_one rfl ?_)
            refine kX_ialdV rfl rfl (by decide) (i) (by first | rfl | decide) (by omega) ((congrFun (i5 _ (by decide)) i).trans hs2) ?_
            iterate 6 (refine kX_one rfl ?_)
            refine kX_cal (mc_attackBase L xs (d + 54) τ N' (by omega) (by rw [i5 196 (by decide)]; exact s2)) rfl (Or.inr rfl) rfl rfl rfl (fun r1 σ1 q1 => ?_)
            obtain ⟨rfl, rfl⟩ := q1
            refine kX_cal (mc_follow L xs (d + 52) τ n R S C s (28 * N') i3 i4 hs (by omega) (by rw [i5 197 (by decide)]; exact cV_eq (fun z _ => by rw [i5 8 (by decide)]) (s3 N' (by omega)))) rfl (Or.inr rfl) rfl rfl rfl (fun r1 ω q1 => ?_)
            obtain ⟨rfl, x1, x2, x3, x4⟩ := q1
            iterate 2 (refine kX_one rfl ?_)
            have := ih (i + 1, ω) ⟨q3, cHi_trans i2 x1, x2, fun z => i4 (x3.symm.trans z), fun c hc => (x4 c hc).trans (i5 c hc)⟩ (by simp only; omega)
            dsimp only at this
            rw [← nI_1] at this
            exact kX_lv _ rfl rfl rfl this
        iterate 2 (refine kX_one rfl ?_)
        refine kX_cal (mc_runStart L xs (d + 54) σ n R S C h) rfl (Or.inr rfl) rfl rfl rfl (fun r1 τ q1 => ?_)
        obtain ⟨rfl, h1, h2, h3, h4⟩ := q1
        iterate 2 (refine kX_one rfl ?_)
        exact kX_lv _ rfl rfl rfl (loop (0, τ) ⟨Nat.zero_le _, h1, h2, fun z => absurd (h3.symm.trans z) (by decide), h4⟩)
      · repeat refine kX_one rfl ?_
        refine kX_ret (i := .ireturn) (len := 1) rfl (Or.inr rfl) rfl (⟨⟨_, rfl⟩, cAfter_same h⟩)
end
