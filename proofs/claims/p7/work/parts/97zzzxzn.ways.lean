/-! alike: choose, first, next -/
/-- what an EVENT binds: places and SORTS -/
def evQ (τ : kS) (a : Nat) (ps sos : List Nat) : Prop := τ a 4 = nI sos.length ∧ ps.length = sos.length ∧ sos.length ≤ 6 ∧ (∀ j (h : j < ps.length), (ps[j]'h) < 6 ∧ τ (a + 1) j = nI (ps[j]'h)) ∧ (∀ j (h : j < sos.length), (sos[j]'h) < 4 ∧ τ (a + 2) j = nI (sos[j]'h)) ∧ ps.Pairwise (fun x y => x ≠ y)
/-- the way v is chosen over the draft D, for the first m VARIABLES -/
def wyQ (σ τ : kS) (s : Nat) (ps sos : List Nat) (f : Nat → List Nat) (v : Nat → Nat) (D : Nat → Int32) (m : Nat) : Prop := fF σ τ ∧ τ 222 3 = nI (7 * s + 1) ∧ (∀ j, j < m → τ 229 j = nI (v j)) ∧ (∀ j (h : j < ps.length) (h' : j < sos.length), j < m → τ 202 (7 * s + 1 + ps[j]'h) = nI ((f (sos[j]'h')).getD (v j) 0)) ∧ ∀ i, (∀ j (h : j < ps.length), j < m → i ≠ 7 * s + 1 + ps[j]'h) → τ 202 i = D i
set_option maxRecDepth 100000 in
set_option maxHeartbeats 4000000 in
theorem mf_choose (L : Nat) (xs : Nat → Int32) (d : Nat) (σ : kS) (r k j so o p s : Nat) (f : Nat → List Nat) (h : cOL σ f) (hf : ∀ so, so < 4 → (f so).length ≤ 200) (hr4 : r < 4) (hk6 : k < 6) (hj : j < 6) (hso : so < 4) (hso2 : σ (28 + 35 * r + 5 * k + 2) j = nI so) (hp : p < 6) (hp2 : σ (28 + 35 * r + 5 * k + 1) j = nI p) (ho : o < (f so).length) (hs : s < 4) (hv : σ 222 3 = nI (7 * s + 1)) : kXM kT L xs (d + 1) 34 [.ref 222, .ref (28 + 35 * r + 5 * k), .int (nI j), .int (nI o)] σ (fun q σ' => q = none ∧ σ' = va_up (va_up σ 229 (upd (σ 229) j (nI o))) 202 (upd (σ 202) (7 * s + 1 + p) (nI ((f so).getD o 0)))) := by
  have b1 := ev_b r k 1 hr4 hk6 (by decide)
  have b2 := ev_b r k 2 hr4 hk6 (by decide)
  have hl := hf so hso
  have z2 : σ (224 + so) o = nI ((f so).getD o 0) := by
    rw [(h so hso).2 o ho, List.getD_eq_getElem?_getD, List.getElem?_eq_getElem ho]
    rfl
  unfold kXM
  iterate 4 (refine kX_one rfl ?_)
  refine kX_iastN rfl rfl (by decide) (j) (by first | rfl | decide) (hj) ?_
  have e202 : va_up σ 229 (upd (σ 229) j (nI o)) 202 = σ 202 := rfl
  have ee : ∀ e, e ≠ 229 → va_up σ 229 (upd (σ 229) j (nI o)) e = σ e := fun e he => up_ne he
  generalize hρ : va_up σ 229 (upd (σ 229) j (nI o)) = ρ at *
  iterate 4 (refine kX_one rfl ?_)
  refine kX_top (y := nI (7 * s + 1)) (by rw [ee 222 (by decide)]; exact hv) ?_
  iterate 1 (refine kX_one rfl ?_)
  refine kX_getN rfl rfl (kT_ev hr4 hk6) rfl ?_
  iterate 1 (refine kX_one rfl ?_)
  refine kX_ialdV rfl (kT_e1 hr4 hk6 (Or.inl rfl)) (by decide) (j) (by first | rfl | decide) (hj) ((congrFun (ee _ (by omega)) j).trans hp2) ?_
  iterate 1 (refine kX_one rfl ?_)
  refine kX_top (y := nI (7 * s + 1 + p)) (nI_add (7 * s + 1) p) ?_
  iterate 3 (refine kX_one rfl ?_)
  refine kX_getN rfl rfl (kT_ev hr4 hk6) rfl ?_
  iterate 1 (refine kX_one rfl ?_)
  refine kX_ialdV rfl (kT_e1 hr4 hk6 (Or.inr rfl)) (by decide) (j) (by first | rfl | decide) (hj) ((congrFun (ee _ (by omega)) j).trans hso2) ?_
  refine kX_aaldN rfl (rfl) (by decide) (by decide) (by decide) (so) (by first | rfl | decide) (hso) (op_at hso) ?_
  iterate 1 (refine kX_one rfl ?_)
  refine kX_ialdV rfl (kT_op hso) (by decide) (o) (by first | rfl | decide) (by omega) ((congrFun (ee _ (by omega)) o).trans z2) ?_
  refine kX_iastN rfl rfl (by decide) (7 * s + 1 + p) (by first | rfl | decide) (by omega) ?_
  refine kX_ret (i := .return_) (len := 1) rfl (Or.inr rfl) rfl ⟨rfl, ?_⟩
  rw [e202]
theorem cOL_fF {σ τ : kS} {f : Nat → List Nat} (h : cOL σ f) (e : fF σ τ) : cOL τ f := fun so hso => by
  rw [e 228 (by decide) (by decide) (by decide), e (224 + so) (by omega) (by omega) (by omega)]
  exact h so hso
theorem wy_set {σ τ : kS} {s j o m m' : Nat} {ps sos : List Nat} {f : Nat → List Nat} {v : Nat → Nat} {D : Nat → Int32} (h : wyQ σ τ s ps sos f v D m) (hps : ps.Pairwise (fun x y => x ≠ y)) (hlen : ps.length = sos.length) (hj : j < sos.length) (hm : (j < m ∧ m' = m) ∨ (j = m ∧ m' = m + 1)) : wyQ σ (va_up (va_up τ 229 (upd (τ 229) j (nI o))) 202 (upd (τ 202) (7 * s + 1 + ps[j]'(by omega)) (nI ((f (sos[j]'hj)).getD o 0)))) s ps sos f (fun i => if i = j then o else v i) D m' := by
  obtain ⟨h1, h2, h3, h4, h5⟩ := h
  have hne : ∀ i (hi : i < ps.length), i ≠ j → ps[i]'hi ≠ ps[j]'(by omega) := fun i hi e => by
    rw [List.pairwise_iff_getElem] at hps
    by_cases q : i < j
    · exact hps i j hi (by omega) q
    · exact fun z => hps j i (by omega) hi (by omega) z.symm
  refine ⟨fun e e1 e2 e3 => by rw [up_ne e3, up_ne e2]; exact h1 e e1 e2 e3, h2, fun i hi => ?_, fun i hi hi' him => ?_, fun i hi => ?_⟩
  · show upd (τ 229) j (nI o) i = nI (if i = j then o else v i)
    by_cases e : i = j
    · subst e
      rw [pk_us, if_pos rfl]
    · rw [pk_un e, if_neg e]
      exact h3 i (by omega)
  · rw [up_eq]
    dsimp only
    by_cases e : i = j
    · subst e
      rw [pk_us, if_pos rfl]
    · have := hne i hi e
      rw [pk_un (by omega), if_neg e]
      exact h4 i hi hi' (by omega)
  · rw [up_eq, pk_un (hi j (by omega) (by omega))]
    exact h5 i (fun i' hi' him => hi i' hi' (by omega))
set_option maxRecDepth 100000 in
set_option maxHeartbeats 4000000 in
theorem mf_first (L : Nat) (xs : Nat → Int32) (d : Nat) (σ : kS) (r k s : Nat) (f : Nat → List Nat) (ps sos : List Nat) (h : cOL σ f) (hf : ∀ so, so < 4 → (f so).length ≤ 200) (hr4 : r < 4) (hk6 : k < 6) (hE : evQ σ (28 + 35 * r + 5 * k) ps sos) (hne : ∀ so ∈ sos, 0 < (f so).length) (hs : s < 4) : kXM kT L xs (d + 2) 32 [.ref 222, .ref (28 + 35 * r + 5 * k), .int (nI s)] σ (fun q σ' => q = some (.int (nI 0)) ∧ wyQ σ σ' s ps sos f (fun _ => 0) (σ 202) sos.length) := by
  have b0 := ev_b r k 0 hr4 hk6 (by decide)
  have b1 := ev_b r k 1 hr4 hk6 (by decide)
  have b2 := ev_b r k 2 hr4 hk6 (by decide)
  obtain ⟨m2, hlen, m6, bp, bs, hnd⟩ := hE
  have loop : ∀ q : Nat × kS, (q.1 ≤ sos.length ∧ wyQ σ q.2 s ps sos f (fun _ => 0) (σ 202) q.1) → kX kT L xs (d + 2) 32 12 [(3, .int (nI q.1)), (0, .ref 222), (1, .ref (28 + 35 * r + 5 * k)), (2, .int (nI s))] [] q.2 (fun q σ' => q = some (.int (nI 0)) ∧ wyQ σ σ' s ps sos f (fun _ => 0) (σ 202) sos.length) := by
    refine kX_while (fun q : Nat × kS => [(3, .int (nI q.1)), (0, .ref 222), (1, .ref (28 + 35 * r + 5 * k)), (2, .int (nI s))]) (fun q => q.2) _ (fun q => sos.length - q.1) ?_
    rintro ⟨j, τ⟩ ⟨j1, j2⟩ ih
    dsimp only at j1 j2 ih ⊢
    have jF := j2.1
    iterate 2 (refine kX_one rfl ?_)
    refine kX_getN rfl rfl (kT_ev hr4 hk6) rfl ?_
    refine kX_top (y := nI sos.length) (by rw [jF _ (by omega) (by omega) (by omega)]; exact m2) ?_
    repeat refine kX_one rfl ?_
    refine kX_if (fun q => ?_) (fun q => ?_)
    · have q := qge q j sos.length
      obtain rfl : j = sos.length := by omega
      repeat refine kX_one rfl ?_
      refine kX_ret (i := .ireturn) (len := 1) rfl (Or.inr rfl) rfl (⟨rfl, j2⟩)
    · have q := qgeF q j sos.length
      obtain ⟨p1, p2⟩ := bp j (by omega)
      obtain ⟨w1, w4⟩ := bs j q
      have x1 : τ (28 + 35 * r + 5 * k + 2) j = nI sos[j] := by rw [jF _ (by omega) (by omega) (by omega)]; exact w4
      have x2 : τ (28 + 35 * r + 5 * k + 1) j = nI (ps[j]'(by omega)) := by rw [jF _ (by omega) (by omega) (by omega)]; exact p2
      iterate 4 (refine kX_one rfl ?_)
      refine kX_cal (mf_choose L xs d τ r k j sos[j] 0 (ps[j]'(by omega)) s f (cOL_fF h jF) hf hr4 hk6 (by omega) w1 x1 p1 x2 (hne _ (List.getElem_mem q)) hs j2.2.1) rfl (Or.inr rfl) rfl rfl rfl (fun r1 ω q1 => ?_)
      obtain ⟨rfl, rfl⟩ := q1
      iterate 2 (refine kX_one rfl ?_)
      have hnew := wy_set (o := 0) (m' := j + 1) j2 hnd hlen q (Or.inr ⟨rfl, rfl⟩)
      have hfun : (fun i => if i = j then 0 else (fun _ => 0) i) = (fun _ : Nat => 0) := by
        funext i
        split <;> rfl
      rw [hfun] at hnew
      have := ih (j + 1, _) ⟨q, hnew⟩ (by simp only; omega)
      dsimp only at this
      rw [← nI_1] at this
      exact kX_lv _ rfl rfl rfl this
  unfold kXM
  iterate 6 (refine kX_one rfl ?_)
  refine kX_top (y := nI (7 * s + 1)) (ix7z s) ?_
  iterate 3 (refine kX_one rfl ?_)
  exact kX_lv _ rfl rfl rfl (loop (0, va_up σ 222 (upd (σ 222) 3 (nI (7 * s + 1)))) ⟨Nat.zero_le _, fun e e1 _ _ => up_ne e1, rfl, fun j hj => absurd hj (Nat.not_lt_zero j), fun j _ _ hj => absurd hj (Nat.not_lt_zero j), fun i _ => rfl⟩)
set_option maxRecDepth 100000 in
set_option maxHeartbeats 4000000 in
theorem mf_next (L : Nat) (xs : Nat → Int32) (d : Nat) (σ ρ : kS) (r k s : Nat) (f : Nat → List Nat) (ps sos : List Nat) (v v' : Nat → Nat) (D : Nat → Int32) (h : cOL ρ f) (hf : ∀ so, so < 4 → (f so).length ≤ 200) (hr4 : r < 4) (hk6 : k < 6) (hE : evQ ρ (28 + 35 * r + 5 * k) ps sos) (hs : s < 4) (hW : wyQ ρ σ s ps sos f v D sos.length) (hv : ∀ j (hj : j < sos.length), v j < (f (sos[j]'hj)).length) (jj : Nat) (hjj : jj < sos.length) (o1 : v jj + 1 < (f (sos[jj]'hjj)).length) (o2 : v' jj = v jj + 1) (o3 : ∀ j, j < jj → v' j = v j) (o4 : ∀ j (hj : j < sos.length), jj < j → v j + 1 = (f (sos[j]'hj)).length ∧ v' j = 0) (fp : Nat) (hfp : ρ (28 + 35 * r + 5 * k + 4) (jj + 1) = nI fp) (hfp2 : fp ≤ 24) : kXM kT L xs (d + 2) 33 [.ref 222, .ref (28 + 35 * r + 5 * k)] σ (fun q σ' => q = some (.int (nI fp)) ∧ wyQ ρ σ' s ps sos f v' D sos.length) := by
  have b0 := ev_b r k 0 hr4 hk6 (by decide)
  have b1 := ev_b r k 1 hr4 hk6 (by decide)
  have b2 := ev_b r k 2 hr4 hk6 (by decide)
  have b4 := ev_b r k 4 hr4 hk6 (by decide)
  obtain ⟨m2, hlen, m6, bp, bs, hnd⟩ := hE
  have loop : ∀ q : Nat × kS, (jj < q.1 ∧ q.1 ≤ sos.length ∧ wyQ ρ q.2 s ps sos f (fun i => if q.1 ≤ i then 0 else v i) D sos.length) → kX kT L xs (d + 2) 33 7 [(2, .int (pv q.1)), (0, .ref 222), (1, .ref (28 + 35 * r + 5 * k))] [] q.2 (fun q σ' => q = some (.int (nI fp)) ∧ wyQ ρ σ' s ps sos f v' D sos.length) := by
    refine kX_while (fun q : Nat × kS => [(2, .int (pv q.1)), (0, .ref 222), (1, .ref (28 + 35 * r + 5 * k))]) (fun q => q.2) _ (fun q => q.1) ?_
    rintro ⟨q, τ⟩ ⟨j0, j1, j2⟩ ih
    dsimp only at j0 j1 j2 ih ⊢
    have jF := j2.1
    cases q with
    | zero => omega
    | succ j =>
      show kX kT L xs (d + 2) 33 7 [(2, .int (nI j)), (0, .ref 222), (1, .ref (28 + 35 * r + 5 * k))] [] τ _
      have hj : j < sos.length := by omega
      have hj6 : j < 6 := by omega
      obtain ⟨p1, p2⟩ := bp j (by omega)
      obtain ⟨w1, w4'⟩ := bs j hj
      have hvj := hv j hj
      have hfl := hf _ w1
      have w4 : τ (28 + 35 * r + 5 * k + 2) j = nI sos[j] := by rw [jF _ (by omega) (by omega) (by omega)]; exact w4'
      have x2 : τ (28 + 35 * r + 5 * k + 1) j = nI (ps[j]'(by omega)) := by rw [jF _ (by omega) (by omega) (by omega)]; exact p2
      have w6 : τ 229 j = nI (v j) := by
        have := j2.2.2.1 j hj
        dsimp only at this
        rw [this, if_neg (by omega)]
      have w5 := ((cOL_fF h jF) _ w1).1
      repeat refine kX_one rfl ?_
      refine kX_ifF (decide_eq_false (nI_pos (by omega))) ?_
      iterate 3 (refine kX_one rfl ?_)
      refine kX_ialdV rfl rfl (by decide) (j) (by first | rfl | decide) (hj6) (w6) ?_
      iterate 2 (refine kX_one rfl ?_)
      refine kX_top (y := nI (v j + 1)) (nI_1 (v j)) ?_
      iterate 3 (refine kX_one rfl ?_)
      refine kX_getN rfl rfl (kT_ev hr4 hk6) rfl ?_
      iterate 1 (refine kX_one rfl ?_)
      refine kX_ialdV rfl (kT_e1 hr4 hk6 (Or.inr rfl)) (by decide) (j) (by first | rfl | decide) (hj6) (w4) ?_
      refine kX_ialdV rfl rfl (by decide) (sos[j]) (by first | rfl | decide) (w1) (w5) ?_
      repeat refine kX_one rfl ?_
      refine kX_if (fun q => ?_) (fun q => ?_)
      · have q := qge q (v j + 1) (f sos[j]).length
        have hjne : jj < j := by
          have : jj ≠ j := fun e => by
            subst e
            omega
          omega
        iterate 4 (refine kX_one rfl ?_)
        refine kX_cal (mf_choose L xs d τ r k j sos[j] 0 (ps[j]'(by omega)) s f (cOL_fF h jF) hf hr4 hk6 hj6 w1 w4 p1 x2 (by omega) hs j2.2.1) rfl (Or.inr rfl) rfl rfl rfl (fun r1 ω q1 => ?_)
        obtain ⟨rfl, rfl⟩ := q1
        have hnew := wy_set (o := 0) (m' := sos.length) j2 hnd hlen hj (Or.inl ⟨hj, rfl⟩)
        have hfun : (fun i => if i = j then 0 else (fun i => if j + 1 ≤ i then 0 else v i) i) = (fun i => if j ≤ i then 0 else v i) := by
          funext i
          by_cases e : i = j
          · rw [if_pos e, if_pos (by omega)]
          · rw [if_neg e]
            dsimp only
            by_cases e2 : j + 1 ≤ i
            · rw [if_pos e2, if_pos (by omega)]
            · rw [if_neg e2, if_neg (by omega)]
        rw [hfun] at hnew
        iterate 2 (refine kX_one rfl ?_)
        have := ih (j, _) ⟨hjne, by omega, hnew⟩ (by simp only; omega)
        dsimp only at this
        rw [pv_dec] at this
        exact kX_lv _ rfl rfl rfl this
      · have q := qgeF q (v j + 1) (f sos[j]).length
        have hje : j = jj := by
          refine Classical.byContradiction (fun e => ?_)
          have := (o4 j hj (by omega)).1
          omega
        subst hje
        iterate 6 (refine kX_one rfl ?_)
        refine kX_ialdV rfl rfl (by decide) (j) (by first | rfl | decide) (hj6) (w6) ?_
        iterate 2 (refine kX_one rfl ?_)
        refine kX_top (y := nI (v j + 1)) (nI_1 (v j)) ?_
        refine kX_cal (mf_choose L xs d τ r k j sos[j] (v j + 1) (ps[j]'(by omega)) s f (cOL_fF h jF) hf hr4 hk6 hj6 w1 w4 p1 x2 q hs j2.2.1) rfl (Or.inr rfl) rfl rfl rfl (fun r1 ω q1 => ?_)
        obtain ⟨rfl, hω⟩ := q1
        have hnew := wy_set (o := v j + 1) (m' := sos.length) j2 hnd hlen hj (Or.inl ⟨hj, rfl⟩)
        rw [← hω] at hnew
        have hfin : wyQ ρ ω s ps sos f v' D sos.length := by
          obtain ⟨a1, a2, a3, a4, a5⟩ := hnew
          have hvv : ∀ i, i < sos.length → (if i = j then v j + 1 else if j + 1 ≤ i then 0 else v i) = v' i := fun i hi => by
            by_cases e : i = j
            · subst e
              rw [if_pos rfl, o2]
            · rw [if_neg e]
              by_cases e2 : j + 1 ≤ i
              · rw [if_pos e2]
                exact (o4 i hi (by omega)).2.symm
              · rw [if_neg e2]
                exact (o3 i (by omega)).symm
          refine ⟨a1, a2, fun i hi => ?_, fun i hi hi' him => ?_, a5⟩
          · rw [a3 i hi]
            exact congrArg nI (hvv i hi)
          · rw [a4 i hi hi' him]
            exact congrArg (fun z => nI ((f (sos[i]'hi')).getD z 0)) (hvv i him)
        have hfp3 : ω (28 + 35 * r + 5 * k + 4) (j + 1) = nI fp := by rw [hfin.1 _ (by omega) (by omega) (by omega)]; exact hfp
        iterate 1 (refine kX_one rfl ?_)
        refine kX_getN rfl rfl (kT_ev hr4 hk6) rfl ?_
        iterate 3 (refine kX_one rfl ?_)
        refine kX_top (y := nI (j + 1)) (nI_1 j) ?_
        refine kX_ialdV rfl ((kT_e3 hr4 hk6).2) (by decide) (j + 1) (by first | rfl | decide) (by omega) (hfp3) ?_
        refine kX_ret (i := .ireturn) (len := 1) rfl (Or.inr rfl) rfl (⟨rfl, hfin⟩)
  unfold kXM
  iterate 1 (refine kX_one rfl ?_)
  refine kX_getN rfl rfl (kT_ev hr4 hk6) rfl ?_
  refine kX_top (y := nI sos.length) (by rw [hW.1 _ (by omega) (by omega) (by omega)]; exact m2) ?_
  iterate 2 (refine kX_one rfl ?_)
  refine kX_top (y := pv sos.length) (pv_sub sos.length) ?_
  iterate 1 (refine kX_one rfl ?_)
  refine kX_lv _ rfl rfl rfl (loop (sos.length, σ) ⟨hjj, Nat.le_refl _, ?_⟩)
  obtain ⟨a1, a2, a3, a4, a5⟩ := hW
  refine ⟨a1, a2, fun i hi => ?_, fun i hi hi' him => ?_, a5⟩
  · show σ 229 i = nI (if sos.length ≤ i then 0 else v i)
    rw [if_neg (by omega)]
    exact a3 i hi
  · show σ 202 (7 * s + 1 + ps[i]) = nI ((f sos[i]).getD (if sos.length ≤ i then 0 else v i) 0)
    rw [if_neg (by omega)]
    exact a4 i hi hi' him
