section
/-! alike: the ways, one after another -/
/-- the way i: which option each VARIABLE has -/
def dg : List Nat → Nat → List Nat
  | [], _ => []
  | _ :: cs, i => i / wyN cs :: dg cs (i % wyN cs)
theorem dg_len : ∀ (cs : List Nat) (i : Nat), (dg cs i).length = cs.length
  | [], _ => rfl
  | c :: cs, i => by
    unfold dg
    rw [List.length_cons, List.length_cons, dg_len cs]
theorem wyN_0 : ∀ {cs : List Nat}, 0 < wyN cs → ∀ c ∈ cs, 0 < c
  | [], _, c, hc => absurd hc List.not_mem_nil
  | a :: cs, h, c, hc => by
    have h1 : 0 < a * wyN cs := h
    have ha : 0 < a := Nat.pos_of_ne_zero (fun e => by rw [e, Nat.zero_mul] at h1; omega)
    have hw : 0 < wyN cs := Nat.pos_of_ne_zero (fun e => by rw [e, Nat.mul_zero] at h1; omega)
    rcases List.mem_cons.mp hc with rfl | q
    · exact ha
    · exact wyN_0 hw c q
theorem dg_lt : ∀ (cs : List Nat) (i : Nat), i < wyN cs → ∀ j (h : j < cs.length), (dg cs i)[j]'(by rw [dg_len]; exact h) < cs[j]'h
  | [], _, _, j, h => absurd h (Nat.not_lt_zero j)
  | c :: cs, i, hi, j, h => by
    have hi : i < c * wyN cs := hi
    have hw : 0 < wyN cs := Nat.pos_of_ne_zero (fun e => by rw [e, Nat.mul_zero] at hi; omega)
    cases j with
    | zero =>
      show i / wyN cs < c
      rw [Nat.div_lt_iff_lt_mul hw]
      exact hi
    | succ j =>
      show (dg cs (i % wyN cs))[j]'_ < cs[j]'_
      exact dg_lt cs _ (Nat.mod_lt _ hw) j (by simpa using h)
theorem dg_0 : ∀ (cs : List Nat) j (h : j < cs.length), (dg cs 0)[j]'(by rw [dg_len]; exact h) = 0
  | [], j, h => absurd h (Nat.not_lt_zero j)
  | c :: cs, j, h => by
    cases j with
    | zero =>
      show 0 / wyN cs = 0
      exact Nat.zero_div _
    | succ j =>
      show (dg cs (0 % wyN cs))[j]'_ = 0
      have := dg_0 cs j (by simpa using h)
      simpa [Nat.zero_mod] using this
theorem dg_max : ∀ (cs : List Nat), 0 < wyN cs → ∀ j (h : j < cs.length), (dg cs (wyN cs - 1))[j]'(by rw [dg_len]; exact h) + 1 = cs[j]'h
  | [], _, j, h => absurd h (Nat.not_lt_zero j)
  | c :: cs, hp, j, h => by
    have hp' : 0 < c * wyN cs := hp
    have hw : 0 < wyN cs := Nat.pos_of_ne_zero (fun e => by rw [e, Nat.mul_zero] at hp'; omega)
    have hc : 0 < c := Nat.pos_of_ne_zero (fun e => by rw [e, Nat.zero_mul] at hp'; omega)
    obtain ⟨c', rfl⟩ : ∃ c', c = c' + 1 := ⟨c - 1, by omega⟩
    have e : (c' + 1) * wyN cs - 1 = wyN cs * c' + (wyN cs - 1) := by
      rw [Nat.succ_mul, Nat.mul_comm c']
      omega
    cases j with
    | zero =>
      show ((c' + 1) * wyN cs - 1) / wyN cs + 1 = c' + 1
      rw [e, Nat.mul_add_div hw, Nat.div_eq_of_lt (by omega)]
    | succ j =>
      show (dg cs (((c' + 1) * wyN cs - 1) % wyN cs))[j]'_ + 1 = cs[j]'_
      have e2 : ((c' + 1) * wyN cs - 1) % wyN cs = wyN cs - 1 := by
        rw [e, Nat.mul_add_mod, Nat.mod_eq_of_lt (by omega)]
      have := dg_max cs hw j (by simpa using h)
      simp only [e2]
      exact this
/-- from one way to the next -/
theorem odo : ∀ (cs : List Nat) (i : Nat), i + 1 < wyN cs → ∃ j, ∃ (h : j < cs.length), (dg cs i)[j]'(by rw [dg_len]; exact h) + 1 < cs[j]'h ∧ (dg cs (i + 1))[j]'(by rw [dg_len]; exact h) = (dg cs i)[j]'(by rw [dg_len]; exact h) + 1 ∧ (∀ j' (h' : j' < cs.length), j' < j → (dg cs (i + 1))[j']'(by rw [dg_len]; exact h') = (dg cs i)[j']'(by rw [dg_len]; exact h')) ∧ ∀ j' (h' : j' < cs.length), j < j' → (dg cs i)[j']'(by rw [dg_len]; exact h') + 1 = cs[j']'h' ∧ (dg cs (i + 1))[j']'(by rw [dg_len]; exact h') = 0
  | [], i, h => by
    have h : i + 1 < 1 := h
    omega
  | c :: cs, i, h => by
    have h : i + 1 < c * wyN cs := h
    have hw : 0 < wyN cs := Nat.pos_of_ne_zero (fun e => by rw [e, Nat.mul_zero] at h; omega)
    have hr := Nat.mod_lt i hw
    have hdm := Nat.div_add_mod i (wyN cs)
    by_cases hc : i % wyN cs + 1 < wyN cs
    · have e1 : (i + 1) / wyN cs = i / wyN cs := by
        have : i + 1 = wyN cs * (i / wyN cs) + (i % wyN cs + 1) := by omega
        rw [this, Nat.mul_add_div hw, Nat.div_eq_of_lt hc]
        omega
      have e2 : (i + 1) % wyN cs = i % wyN cs + 1 := by
        have : i + 1 = wyN cs * (i / wyN cs) + (i % wyN cs + 1) := by omega
        rw [this, Nat.mul_add_mod, Nat.mod_eq_of_lt hc]
      obtain ⟨j, hj, a1, a2, a3, a4⟩ := odo cs (i % wyN cs) hc
      refine ⟨j + 1, by simp only [List.length_cons]; omega, a1, ?_, fun j' h' hj' => ?_, fun j' h' hj' => ?_⟩
      · show (dg cs ((i + 1) % wyN cs))[j]'_ = _
        simp only [e2]
        exact a2
      · cases j' with
        | zero =>
          show (i + 1) / wyN cs = i / wyN cs
          exact e1
        | succ j' =>
          show (dg cs ((i + 1) % wyN cs))[j']'_ = (dg cs (i % wyN cs))[j']'_
          simp only [e2]
          exact a3 j' (by simpa using h') (by omega)
      · cases j' with
        | zero => omega
        | succ j' =>
          obtain ⟨b1, b2⟩ := a4 j' (by simpa using h') (by omega)
          refine ⟨b1, ?_⟩
          show (dg cs ((i + 1) % wyN cs))[j']'_ = 0
          simp only [e2]
          exact b2
    · have hrm : i % wyN cs = wyN cs - 1 := by omega
      have e0 : i + 1 = wyN cs * (i / wyN cs + 1) := by
        rw [Nat.mul_add, Nat.mul_one]
        omega
      have e1 : (i + 1) / wyN cs = i / wyN cs + 1 := by rw [e0, Nat.mul_div_cancel_left _ hw]
      have e2 : (i + 1) % wyN cs = 0 := by rw [e0, Nat.mul_mod_right]
      refine ⟨0, by simp, ?_, ?_, fun j' h' hj' => absurd hj' (Nat.not_lt_zero j'), fun j' h' hj' => ?_⟩
      · show i / wyN cs + 1 < c
        rw [← e1, Nat.div_lt_iff_lt_mul hw]
        exact h
      · exact e1
      · cases j' with
        | zero => omega
        | succ j' =>
          refine ⟨?_, ?_⟩
          · show (dg cs (i % wyN cs))[j']'_ + 1 = cs[j']'_
            simp only [hrm]
            exact dg_max cs hw j' (by simpa using h')
          · show (dg cs ((i + 1) % wyN cs))[j']'_ = 0
            simp only [e2]
            exact dg_0 cs j' (by simpa using h')
end
section
/-! alike: choose, first, next -/
/-- what an EVENT binds: places and SORTS -/
def evQ (τ : kS) (a : Nat) (ps sos : List Nat) : Prop := τ a 4 = nI sos.length ∧ ps.length = sos.length ∧ sos.length ≤ 6 ∧ (∀ j (h : j < ps.length), (ps[j]'h) < 6 ∧ τ (a + 1) j = nI (ps[j]'h)) ∧ (∀ j (h : j < sos.length), (sos[j]'h) < 4 ∧ τ (a + 2) j = nI (sos[j]'h)) ∧ ps.Pairwise (fun x y => x ≠ y)
/-- the way v is chosen over the draft D, for the first m VARIABLES -/
def wyQ (σ τ : kS) (s : Nat) (ps sos : List Nat) (f : Nat → List Nat) (v : Nat → Nat) (D : Nat → Int32) (m : Nat) : Prop := fF σ τ ∧ τ 222 3 = nI (7 * s + 1) ∧ (∀ j, j < m → τ 229 j = nI (v j)) ∧ (∀ j (h : j < ps.length) (h' : j < sos.length), j < m → τ 202 (7 * s + 1 + ps[j]'h) = nI ((f (sos[j]'h')).getD (v j) 0)) ∧ ∀ i, (∀ j (h : j < ps.length), j < m → i ≠ 7 * s + 1 + ps[j]'h) → τ 202 i = D i
set_option maxRecDepth 100000 in
set_option maxHeartbeats 4000000 in
theorem mf_choose (L : Nat) (xs : Nat → Int32) (d : Nat) (σ : kS) (r k j so o p s : Nat) (f : Nat → List Nat) (h : cOL σ f) (hf : ∀ so, so < 4 → (f so).length ≤ 200) (hr4 : r < 4) (hk6 : k < 6) (hj : j < 6) (hso : so < 4) (hso2 : σ (28 + 35 * r + 5 * k + 2) j = nI so) (hp : p < 6) (hp2 : σ (28 + 35 * r + 5 * k + 1) j = nI p) (ho : o < (f so).length) (hs : s < 4) (hv : σ 222 3 = nI (7 * s + 1)) : kXM kT L xs (d + 1) 34 [.ref 222, .ref (28 + 35 * r + 5 * k), .int (nI j), .int (nI o)] σ (fun q σ' => q = none ∧ σ' = va_up (va_up σ 229 (upd (σ 229) j (nI o))) 202 (upd (σ 202) (7 * s + 1 + p) (nI ((f so).getD o 0)))) := by
  have b1 := ev_b r k 1 hr4 hk6 (by decide)
  have b2 := ev_b r k 2 hr4 hk6 (by decide)
  have hl := hf so hso
  have z2 : σ (224 + so) o = nI ((f so).getD o 0) := by
    rw [(h so hso).2 o ho, List.getD_eq_getElem?_getD, List.getElem?_eq_getElem ho]
    rfl
  unfold kXM
  iterate 4 (refine kX_one rfl ?_)
  refine kX_iastN rfl rfl (by decide) (j) (by first | rfl | decide) (hj) ?_
  have e202 : va_up σ 229 (upd (σ 229) j (nI o)) 202 = σ 202 := rfl
  have ee : ∀ e, e ≠ 229 → va_up σ 229 (upd (σ 229) j (nI o)) e = σ e := fun e he => up_ne he
  generalize hρ : va_up σ 229 (upd (σ 229) j (nI o)) = ρ at *
  iterate 4 (refine kX_one rfl ?_)
  refine kX_top (y := nI (7 * s + 1)) (by rw [ee 222 (by decide)]; exact hv) ?_
  iterate 1 (refine kX_one rfl ?_)
  refine kX_getN rfl rfl (kT_ev hr4 hk6) rfl ?_
  iterate 1 (refine kX_one rfl ?_)
  refine kX_ialdV rfl (kT_e1 hr4 hk6 (Or.inl rfl)) (by decide) (j) (by first | rfl | decide) (hj) ((congrFun (ee _ (by omega)) j).trans hp2) ?_
  iterate 1 (refine kX_one rfl ?_)
  refine kX_top (y := nI (7 * s + 1 + p)) (nI_add (7 * s + 1) p) ?_
  iterate 3 (refine kX_one rfl ?_)
  refine kX_getN rfl rfl (kT_ev hr4 hk6) rfl ?_
  iterate 1 (refine kX_one rfl ?_)
  refine kX_ialdV rfl (kT_e1 hr4 hk6 (Or.inr rfl)) (by decide) (j) (by first | rfl | decide) (hj) ((congrFun (ee _ (by omega)) j).trans hso2) ?_
  refine kX_aaldN rfl (rfl) (by decide) (by decide) (by decide) (so) (by first | rfl | decide) (hso) (op_at hso) ?_
  iterate 1 (refine kX_one rfl ?_)
  refine kX_ialdV rfl (kT_op hso) (by decide) (o) (by first | rfl | decide) (by omega) ((congrFun (ee _ (by omega)) o).trans z2) ?_
  refine kX_iastN rfl rfl (by decide) (7 * s + 1 + p) (by first | rfl | decide) (by omega) ?_
  refine kX_ret (i := .return_) (len := 1) rfl (Or.inr rfl) rfl ⟨rfl, ?_⟩
  rw [e202]
theorem cOL_fF {σ τ : kS} {f : Nat → List Nat} (h : cOL σ f) (e : fF σ τ) : cOL τ f := fun so hso => by
  rw [e 228 (by decide) (by decide) (by decide), e (224 + so) (by omega) (by omega) (by omega)]
  exact h so hso
theorem wy_set {σ τ : kS} {s j o m m' : Nat} {ps sos : List Nat} {f : Nat → List Nat} {v : Nat → Nat} {D : Nat → Int32} (h : wyQ σ τ s ps sos f v D m) (hps : ps.Pairwise (fun x y => x ≠ y)) (hlen : ps.length = sos.length) (hj : j < sos.length) (hm : (j < m ∧ m' = m) ∨ (j = m ∧ m' = m + 1)) : wyQ σ (va_up (va_up τ 229 (upd (τ 229) j (nI o))) 202 (upd (τ 202) (7 * s + 1 + ps[j]'(by omega)) (nI ((f (sos[j]'hj)).getD o 0)))) s ps sos f (fun i => if i = j then o else v i) D m' := by
  obtain ⟨h1, h2, h3, h4, h5⟩ := h
  have hne : ∀ i (hi : i < ps.length), i ≠ j → ps[i]'hi ≠ ps[j]'(by omega) := fun i hi e => by
    rw [List.pairwise_iff_getElem] at hps
    by_cases q : i < j
    · exact hps i j hi (by omega) q
    · exact fun z => hps j i (by omega) hi (by omega) z.symm
  refine ⟨fun e e1 e2 e3 => by rw [up_ne e3, up_ne e2]; exact h1 e e1 e2 e3, h2, fun i hi => ?_, fun i hi hi' him => ?_, fun i hi => ?_⟩
  · show upd (τ 229) j (nI o) i = nI (if i = j then o else v i)
    by_cases e : i = j
    · subst e
      rw [pk_us, if_pos rfl]
    · rw [pk_un e, if_neg e]
      exact h3 i (by omega)
  · rw [up_eq]
    dsimp only
    by_cases e : i = j
    · subst e
      rw [pk_us, if_pos rfl]
    · have := hne i hi e
      rw [pk_un (by omega), if_neg e]
      exact h4 i hi hi' (by omega)
  · rw [up_eq, pk_un (hi j (by omega) (by omega))]
    exact h5 i (fun i' hi' him => hi i' hi' (by omega))
set_option maxRecDepth 100000 in
set_option maxHeartbeats 4000000 in
theorem mf_first (L : Nat) (xs : Nat → Int32) (d : Nat) (σ : kS) (r k s : Nat) (f : Nat → List Nat) (ps sos : List Nat) (h : cOL σ f) (hf : ∀ so, so < 4 → (f so).length ≤ 200) (hr4 : r < 4) (hk6 : k < 6) (hE : evQ σ (28 + 35 * r + 5 * k) ps sos) (hne : ∀ so ∈ sos, 0 < (f so).length) (hs : s < 4) : kXM kT L xs (d + 2) 32 [.ref 222, .ref (28 + 35 * r + 5 * k), .int (nI s)] σ (fun q σ' => q = some (.int (nI 0)) ∧ wyQ σ σ' s ps sos f (fun _ => 0) (σ 202) sos.length) := by
  have b0 := ev_b r k 0 hr4 hk6 (by decide)
  have b1 := ev_b r k 1 hr4 hk6 (by decide)
  have b2 := ev_b r k 2 hr4 hk6 (by decide)
  obtain ⟨m2, hlen, m6, bp, bs, hnd⟩ := hE
  have loop : ∀ q : Nat × kS, (q.1 ≤ sos.length ∧ wyQ σ q.2 s ps sos f (fun _ => 0) (σ 202) q.1) → kX kT L xs (d + 2) 32 12 [(3, .int (nI q.1)), (0, .ref 222), (1, .ref (28 + 35 * r + 5 * k)), (2, .int (nI s))] [] q.2 (fun q σ' => q = some (.int (nI 0)) ∧ wyQ σ σ' s ps sos f (fun _ => 0) (σ 202) sos.length) := by
    refine kX_while (fun q : Nat × kS => [(3, .int (nI q.1)), (0, .ref 222), (1, .ref (28 + 35 * r + 5 * k)), (2, .int (nI s))]) (fun q => q.2) _ (fun q => sos.length - q.1) ?_
    rintro ⟨j, τ⟩ ⟨j1, j2⟩ ih
    dsimp only at j1 j2 ih ⊢
    have jF := j2.1
    iterate 2 (refine kX_one rfl ?_)
    refine kX_getN rfl rfl (kT_ev hr4 hk6) rfl ?_
    refine kX_top (y := nI sos.length) (by rw [jF _ (by omega) (by omega) (by omega)]; exact m2) ?_
    repeat refine kX_one rfl ?_
    refine kX_if (fun q => ?_) (fun q => ?_)
    · have q := qge q j sos.length
      obtain rfl : j = sos.length := by omega
      repeat refine kX_one rfl ?_
      refine kX_ret (i := .ireturn) (len := 1) rfl (Or.inr rfl) rfl (⟨rfl, j2⟩)
    · have q := qgeF q j sos.length
      obtain ⟨p1, p2⟩ := bp j (by omega)
      obtain ⟨w1, w4⟩ := bs j q
      have x1 : τ (28 + 35 * r + 5 * k + 2) j = nI sos[j] := by rw [jF _ (by omega) (by omega) (by omega)]; exact w4
      have x2 : τ (28 + 35 * r + 5 * k + 1) j = nI (ps[j]'(by omega)) := by rw [jF _ (by omega) (by omega) (by omega)]; exact p2
      iterate 4 (refine kX_one rfl ?_)
      refine kX_cal (mf_choose L xs d τ r k j sos[j] 0 (ps[j]'(by omega)) s f (cOL_fF h jF) hf hr4 hk6 (by omega) w1 x1 p1 x2 (hne _ (List.getElem_mem q)) hs j2.2.1) rfl (Or.inr rfl) rfl rfl rfl (fun r1 ω q1 => ?_)
      obtain ⟨rfl, rfl⟩ := q1
      iterate 2 (refine kX_one rfl ?_)
      have hnew := wy_set (o := 0) (m' := j + 1) j2 hnd hlen q (Or.inr ⟨rfl, rfl⟩)
      have hfun : (fun i => if i = j then 0 else (fun _ => 0) i) = (fun _ : Nat => 0) := by
        funext i
        split <;> rfl
      rw [hfun] at hnew
      have := ih (j + 1, _) ⟨q, hnew⟩ (by simp only; omega)
      dsimp only at this
      rw [← nI_1] at this
      exact kX_lv _ rfl rfl rfl this
  unfold kXM
  iterate 6 (refine kX_one rfl ?_)
  refine kX_top (y := nI (7 * s + 1)) (ix7z s) ?_
  iterate 3 (refine kX_one rfl ?_)
  exact kX_lv _ rfl rfl rfl (loop (0, va_up σ 222 (upd (σ 222) 3 (nI (7 * s + 1)))) ⟨Nat.zero_le _, fun e e1 _ _ => up_ne e1, rfl, fun j hj => absurd hj (Nat.not_lt_zero j), fun j _ _ hj => absurd hj (Nat.not_lt_zero j), fun i _ => rfl⟩)
set_option maxRecDepth 100000 in
set_option maxHeartbeats 4000000 in
theorem mf_next (L : Nat) (xs : Nat → Int32) (d : Nat) (σ ρ : kS) (r k s : Nat) (f : Nat → List Nat) (ps sos : List Nat) (v v' : Nat → Nat) (D : Nat → Int32) (h : cOL ρ f) (hf : ∀ so, so < 4 → (f so).length ≤ 200) (hr4 : r < 4) (hk6 : k < 6) (hE : evQ ρ (28 + 35 * r + 5 * k) ps sos) (hs : s < 4) (hW : wyQ ρ σ s ps sos f v D sos.length) (hv : ∀ j (hj : j < sos.length), v j < (f (sos[j]'hj)).length) (jj : Nat) (hjj : jj < sos.length) (o1 : v jj + 1 < (f (sos[jj]'hjj)).length) (o2 : v' jj = v jj + 1) (o3 : ∀ j, j < jj → v' j = v j) (o4 : ∀ j (hj : j < sos.length), jj < j → v j + 1 = (f (sos[j]'hj)).length ∧ v' j = 0) (fp : Nat) (hfp : ρ (28 + 35 * r + 5 * k + 4) (jj + 1) = nI fp) (hfp2 : fp ≤ 24) : kXM kT L xs (d + 2) 33 [.ref 222, .ref (28 + 35 * r + 5 * k)] σ (fun q σ' => q = some (.int (nI fp)) ∧ wyQ ρ σ' s ps sos f v' D sos.length) := by
  have b0 := ev_b r k 0 hr4 hk6 (by decide)
  have b1 := ev_b r k 1 hr4 hk6 (by decide)
  have b2 := ev_b r k 2 hr4 hk6 (by decide)
  have b4 := ev_b r k 4 hr4 hk6 (by decide)
  obtain ⟨m2, hlen, m6, bp, bs, hnd⟩ := hE
  have loop : ∀ q : Nat × kS, (jj < q.1 ∧ q.1 ≤ sos.length ∧ wyQ ρ q.2 s ps sos f (fun i => if q.1 ≤ i then 0 else v i) D sos.length) → kX kT L xs (d + 2) 33 7 [(2, .int (pv q.1)), (0, .ref 222), (1, .ref (28 + 35 * r + 5 * k))] [] q.2 (fun q σ' => q = some (.int (nI fp)) ∧ wyQ ρ σ' s ps sos f v' D sos.length) := by
    refine kX_while (fun q : Nat × kS => [(2, .int (pv q.1)), (0, .ref 222), (1, .ref (28 + 35 * r + 5 * k))]) (fun q => q.2) _ (fun q => q.1) ?_
    rintro ⟨q, τ⟩ ⟨j0, j1, j2⟩ ih
    dsimp only at j0 j1 j2 ih ⊢
    have jF := j2.1
    cases q with
    | zero => omega
    | succ j =>
      show kX kT L xs (d + 2) 33 7 [(2, .int (nI j)), (0, .ref 222), (1, .ref (28 + 35 * r + 5 * k))] [] τ _
      have hj : j < sos.length := by omega
      have hj6 : j < 6 := by omega
      obtain ⟨p1, p2⟩ := bp j (by omega)
      obtain ⟨w1, w4'⟩ := bs j hj
      have hvj := hv j hj
      have hfl := hf _ w1
      have w4 : τ (28 + 35 * r + 5 * k + 2) j = nI sos[j] := by rw [jF _ (by omega) (by omega) (by omega)]; exact w4'
      have x2 : τ (28 + 35 * r + 5 * k + 1) j = nI (ps[j]'(by omega)) := by rw [jF _ (by omega) (by omega) (by omega)]; exact p2
      have w6 : τ 229 j = nI (v j) := by
        have := j2.2.2.1 j hj
        dsimp only at this
        rw [this, if_neg (by omega)]
      have w5 := ((cOL_fF h jF) _ w1).1
      repeat refine kX_one rfl ?_
      refine kX_ifF (decide_eq_false (nI_pos (by omega))) ?_
      iterate 3 (refine kX_one rfl ?_)
      refine kX_ialdV rfl rfl (by decide) (j) (by first | rfl | decide) (hj6) (w6) ?_
      iterate 2 (refine kX_one rfl ?_)
      refine kX_top (y := nI (v j + 1)) (nI_1 (v j)) ?_
      iterate 3 (refine kX_one rfl ?_)
      refine kX_getN rfl rfl (kT_ev hr4 hk6) rfl ?_
      iterate 1 (refine kX_one rfl ?_)
      refine kX_ialdV rfl (kT_e1 hr4 hk6 (Or.inr rfl)) (by decide) (j) (by first | rfl | decide) (hj6) (w4) ?_
      refine kX_ialdV rfl rfl (by decide) (sos[j]) (by first | rfl | decide) (w1) (w5) ?_
      repeat refine kX_one rfl ?_
      refine kX_if (fun q => ?_) (fun q => ?_)
      · have q := qge q (v j + 1) (f sos[j]).length
        have hjne : jj < j := by
          have : jj ≠ j := fun e => by
            subst e
            omega
          omega
        iterate 4 (refine kX_one rfl ?_)
        refine kX_cal (mf_choose L xs d τ r k j sos[j] 0 (ps[j]'(by omega)) s f (cOL_fF h jF) hf hr4 hk6 hj6 w1 w4 p1 x2 (by omega) hs j2.2.1) rfl (Or.inr rfl) rfl rfl rfl (fun r1 ω q1 => ?_)
        obtain ⟨rfl, rfl⟩ := q1
        have hnew := wy_set (o := 0) (m' := sos.length) j2 hnd hlen hj (Or.inl ⟨hj, rfl⟩)
        have hfun : (fun i => if i = j then 0 else (fun i => if j + 1 ≤ i then 0 else v i) i) = (fun i => if j ≤ i then 0 else v i) := by
          funext i
          by_cases e : i = j
          · rw [if_pos e, if_pos (by omega)]
          · rw [if_neg e]
            dsimp only
            by_cases e2 : j + 1 ≤ i
            · rw [if_pos e2, if_pos (by omega)]
            · rw [if_neg e2, if_neg (by omega)]
        rw [hfun] at hnew
        iterate 2 (refine kX_one rfl ?_)
        have := ih (j, _) ⟨hjne, by omega, hnew⟩ (by simp only; omega)
        dsimp only at this
        rw [pv_dec] at this
        exact kX_lv _ rfl rfl rfl this
      · have q := qgeF q (v j + 1) (f sos[j]).length
        have hje : j = jj := by
          refine Classical.byContradiction (fun e => ?_)
          have := (o4 j hj (by omega)).1
          omega
        subst hje
        iterate 6 (refine kX_one rfl ?_)
        refine kX_ialdV rfl rfl (by decide) (j) (by first | rfl | decide) (hj6) (w6) ?_
        iterate 2 (refine kX_one rfl ?_)
        refine kX_top (y := nI (v j + 1)) (nI_1 (v j)) ?_
        refine kX_cal (mf_choose L xs d τ r k j sos[j] (v j + 1) (ps[j]'(by omega)) s f (cOL_fF h jF) hf hr4 hk6 hj6 w1 w4 p1 x2 q hs j2.2.1) rfl (Or.inr rfl) rfl rfl rfl (fun r1 ω q1 => ?_)
        obtain ⟨rfl, hω⟩ := q1
        have hnew := wy_set (o := v j + 1) (m' := sos.length) j2 hnd hlen hj (Or.inl ⟨hj, rfl⟩)
        rw [← hω] at hnew
        have hfin : wyQ ρ ω s ps sos f v' D sos.length := by
          obtain ⟨a1, a2, a3, a4, a5⟩ := hnew
          have hvv : ∀ i, i < sos.length → (if i = j then v j + 1 else if j + 1 ≤ i then 0 else v i) = v' i := fun i hi => by
            by_cases e : i = j
            · subst e
              rw [if_pos rfl, o2]
            · rw [if_neg e]
              by_cases e2 : j + 1 ≤ i
              · rw [if_pos e2]
                exact (o4 i hi (by omega)).2.symm
              · rw [if_neg e2]
                exact (o3 i (by omega)).symm
          refine ⟨a1, a2, fun i hi => ?_, fun i hi hi' him => ?_, a5⟩
          · rw [a3 i hi]
            exact congrArg nI (hvv i hi)
          · rw [a4 i hi hi' him]
            exact congrArg (fun z => nI ((f (sos[i]'hi')).getD z 0)) (hvv i him)
        have hfp3 : ω (28 + 35 * r + 5 * k + 4) (j + 1) = nI fp := by rw [hfin.1 _ (by omega) (by omega) (by omega)]; exact hfp
        iterate 1 (refine kX_one rfl ?_)
        refine kX_getN rfl rfl (kT_ev hr4 hk6) rfl ?_
        iterate 3 (refine kX_one rfl ?_)
        refine kX_top (y := nI (j + 1)) (nI_1 j) ?_
        refine kX_ialdV rfl ((kT_e3 hr4 hk6).2) (by decide) (j + 1) (by first | rfl | decide) (by omega) (hfp3) ?_
        refine kX_ret (i := .ireturn) (len := 1) rfl (Or.inr rfl) rfl (⟨rfl, hfin⟩)
  unfold kXM
  iterate 1 (refine kX_one rfl ?_)
  refine kX_getN rfl rfl (kT_ev hr4 hk6) rfl ?_
  refine kX_top (y := nI sos.length) (by rw [hW.1 _ (by omega) (by omega) (by omega)]; exact m2) ?_
  iterate 2 (refine kX_one rfl ?_)
  refine kX_top (y := pv sos.length) (pv_sub sos.length) ?_
  iterate 1 (refine kX_one rfl ?_)
  refine kX_lv _ rfl rfl rfl (loop (sos.length, σ) ⟨hjj, Nat.le_refl _, ?_⟩)
  obtain ⟨a1, a2, a3, a4, a5⟩ := hW
  refine ⟨a1, a2, fun i hi => ?_, fun i hi hi' him => ?_, a5⟩
  · show σ 229 i = nI (if sos.length ≤ i then 0 else v i)
    rw [if_neg (by omega)]
    exact a3 i hi
  · show σ 202 (7 * s + 1 + ps[i]) = nI ((f sos[i]).getD (if sos.length ≤ i then 0 else v i) 0)
    rw [if_neg (by omega)]
    exact a4 i hi hi' him
end
section
/-! alike: a way is weighed -/
/-- what a VARIABLE stands for in the draft -/
def wV (τ : kS) (s v : Nat) : Jvm.Term := kTv τ (fN (τ 202 (7 * s + 1 + fN (τ 12 v))))
/-- a part of the EVENT's TERM, as the draft has it -/
def iT (τ : kS) (s t : Nat) : Jvm.Term := tW τ (wV τ s) t
/-- what is stored of it -/
def vaQ (τ : kS) (n u s t : Nat) (x : Int32) : Prop := (∃ g, kV n 776 u g ∧ kGd τ g ∧ kTv τ g = iT τ s t ∧ x = nI g) ∨ (x = -1 ∧ (∀ g, kV n 776 u g → kTv τ g ≠ iT τ s t) ∧ ¬ kGd τ t ∧ τ 2 t ≠ nI 3)
def ptQ (τ : kS) (n u : Nat) (l : rwT) (s t : Nat) : Prop := vaQ τ n u s t (τ 230 t) ∧ τ 231 t = isB (vmk (kIn τ l) (mA τ) (τ 238) (iT τ s t))
section WG
variable {τ : kS} {n u m s : Nat} {l : rwT}
theorem kSt_2 {t k x y : Nat} (h : iE τ 204 776 n u m l) (hk : τ 2 t = nI k) (hx : τ 3 t = nI x) (hy : τ 4 t = nI y) (h3 : 3 < k) (hk9 : k ≤ 9) (h4 : x < t) (h5 : y < t) (h6 : kV n 776 u x) (h7 : kV n 776 u y) : iT τ s t = vnd k (iT τ s x) (some (iT τ s y)) ∧ kVs τ t = kVs τ x ++ kVs τ y := ⟨tA_2 (iE_V h) hk hx hy h3 hk9 h4 h5 h6 h7, tA_2 (iE_V h) hk hx hy h3 hk9 h4 h5 h6 h7⟩
theorem kSt_1 {t k x : Nat} (h : iE τ 204 776 n u m l) (hk : τ 2 t = nI k) (hx : τ 3 t = nI x) (hy : τ 4 t = -1) (h3 : 3 < k) (hk9 : k ≤ 9) (h4 : x < t) (h6 : kV n 776 u x) : iT τ s t = vnd k (iT τ s x) none ∧ kVs τ t = kVs τ x ++ [] := ⟨tA_1 (iE_V h) hk hx hy h3 hk9 h4 h6, tA_1 (iE_V h) hk hx hy h3 hk9 h4 h6⟩
/-- what may be an agent is one in the draft -/
theorem iT_ag {t : Nat} (h : iE τ 204 776 n u m l) (hs : kSt τ n 202 (7 * s + 1) (wV τ s) t) (ha : kAG τ n t) : ∃ z, z < n ∧ τ 2 z = nI 0 ∧ iT τ s t = .arg z ∧ kTv τ z = .arg z ∧ kGd τ z := by
  have key : ∀ z, z < n → τ 2 z = nI 0 → kTv τ z = .arg z ∧ kGd τ z := fun z hz hk => ⟨tvl_0 hk (by decide), by unfold kGd; rw [tgd_0 hk (by decide)]; decide⟩
  rcases ha.2 with hk | ⟨hk, hso⟩
  · refine ⟨t, ha.1, hk, ?_, key t ha.1 hk⟩
    unfold iT tW
    rw [tA_0 hk (by decide), if_neg]
    rw [hk]
    exact nI_ne (by decide)
  · have hvt : t ∈ kVs τ t := by
      unfold kVs tvs
      rw [tA_0 hk (by decide), if_pos hk]
      exact List.mem_singleton.mpr rfl
    obtain ⟨p, z, z1, z2, z3, z4, z5, z6, z7⟩ := hs t hvt
    have hk0 := z7 hso
    refine ⟨z, z2, hk0, ?_, key z z2 hk0⟩
    unfold iT tW
    rw [tA_0 hk (by decide), if_pos hk, ← z6]
    exact (key z z2 hk0).1
/-- the agent's number -/
theorem pt_ag {t : Nat} (h : iE τ 204 776 n u m l) (hs : kSt τ n 202 (7 * s + 1) (wV τ s) t) (ha : kAG τ n t) (hp : ptQ τ n u l s t) : ∃ z, z < n ∧ τ 2 z = nI 0 ∧ iT τ s t = .arg z ∧ τ 230 t = nI z := by
  obtain ⟨z, z1, z2, z3, z4, z5⟩ := iT_ag h hs ha
  refine ⟨z, z1, z2, z3, ?_⟩
  rcases hp.1 with ⟨g, g1, g2, g3, g4⟩ | ⟨-, g2, -⟩
  · have : g = z := kTv_inj h g1 (Or.inl z1) (g3.trans (z3.trans z4.symm))
    rw [g4, this]
  · exact absurd (z4.trans z3.symm) (g2 z (Or.inl z1))
set_option maxRecDepth 100000 in
set_option maxHeartbeats 4000000 in
theorem mf_qValueOf (L : Nat) (xs : Nat → Int32) (d : Nat) (t : Nat) (h : iE τ 204 776 n u m l) (hC : cCn τ n) (hG : gR τ n) (ht : t < n) (hs : s < 4) (hv : τ 222 3 = nI (7 * s + 1)) (hst : kSt τ n 202 (7 * s + 1) (wV τ s) t) (hch : ¬ kGd τ t → τ 2 t ≠ nI 3 → ∀ p, p < n → (τ 3 t = nI p ∨ τ 4 t = nI p) → vaQ τ n u s p (τ 230 p)) : kXM kT L xs (d + 3) 36 [.ref 222, .int (nI t)] τ (fun r σ' => (∃ x, r = some (.int x) ∧ vaQ τ n u s t x) ∧ τ = σ') := by
  have hn := h.2.1
  have hV := iE_V h
  have hu := h.2.2.2.2.1.1
  unfold kXM
  iterate 4 (refine kX_one rfl ?_)
  refine kX_baldV rfl rfl (by decide) (t) (by first | rfl | decide) (by omega) (hG t ht) ?_
  repeat refine kX_one rfl ?_
  refine kX_if (fun q => ?_) (fun q => ?_)
  · have hg0 : ¬ kGd τ t := fun z => isB_ne.mpr z (qeq q)
    have k105 : ∀ (k : Nat) (X Y v : Int32), τ 2 t = nI k → (∀ r : Option Value, cFn τ (fun t => kV n 776 u t ∧ 3 < fN (τ 2 t)) (nI k) X Y r → ∃ x, r = some (.int x) ∧ vaQ τ n u s t x) → kX kT L xs (d + 3) 36 105 [(4, .int Y), (3, .int v), (2, .int X), (0, .ref 222), (1, .int (nI t))] [] τ (fun r σ' => (∃ x, r = some (.int x) ∧ vaQ τ n u s t x) ∧ τ = σ') := by
      intro k X Y v hk hfin
      iterate 11 (refine kX_one rfl ?_)
      refine kX_ialdV rfl rfl (by decide) (t) (by first | rfl | decide) (by omega) (hk) ?_
      iterate 2 (refine kX_one rfl ?_)
      refine kX_cal (mf_kFind L xs d τ 204 776 n u m l (nI k) X Y h hC) rfl (Or.inr rfl) rfl rfl rfl (fun r1 σ1 q1 => ?_)
      obtain ⟨hq, rfl⟩ := q1
      obtain ⟨x, rfl, hx⟩ := hfin r1 hq
      repeat refine kX_one rfl ?_
      refine kX_ret (i := .ireturn) (len := 1) rfl (Or.inr rfl) rfl (⟨⟨x, rfl, hx⟩, rfl⟩)
    iterate 4 (refine kX_one rfl ?_)
    rcases (hV t (Or.inl ht)).2 with ⟨k, h3, hk, -, -⟩ | ⟨k, x, y, h3, hk, hx, hy, h4, h5, h6, h7⟩ | ⟨k, x, h3, hk, hx, hy, h4, h6⟩
    · obtain rfl : k = 3 := Classical.byContradiction fun z => hg0 (by unfold kGd; rw [tgd_0 hk h3]; exact decide_eq_true z)
      have hvt : t ∈ kVs τ t := by
        unfold kVs tvs
        rw [tA_0 hk h3, if_pos hk]
        exact List.mem_singleton.mpr rfl
      obtain ⟨p, z, z1, z2, z3, z4, z5, z6, z7⟩ := hst t hvt
      refine kX_ialdV rfl rfl (by decide) (t) (by first | rfl | decide) (by omega) (hk) ?_
      iterate 2 (refine kX_one rfl ?_)
      iterate 4 (refine kX_one rfl ?_)
      refine kX_top (hv) ?_
      iterate 4 (refine kX_one rfl ?_)
      refine kX_ialdV rfl rfl (by decide) (t) (by first | rfl | decide) (by omega) (z3) ?_
      iterate 1 (refine kX_one rfl ?_)
      refine kX_top (y := nI (7 * s + 1 + p)) (nI_add (7 * s + 1) p) ?_
      refine kX_ialdV rfl rfl (by decide) (7 * s + 1 + p) (by first | rfl | decide) (by omega) (z4) ?_
      have hf : vaQ τ n u s t (nI z) := by
        refine Or.inl ⟨z, Or.inl z2, z5, ?_, rfl⟩
        rw [z6]
        unfold iT tW
        rw [tA_0 hk h3, if_pos hk]
      refine kX_ret (i := .ireturn) (len := 1) rfl (Or.inr rfl) rfl (⟨⟨_, rfl, hf⟩, rfl⟩)
    · have hk3 : τ 2 t ≠ nI 3 := by rw [hk]; exact nI_ne (by omega)
      have hxn : x < n := by omega
      have hyn : y < n := by omega
      obtain ⟨hiT, -⟩ := kSt_2 (s := s) h hk hx hy (by omega) (by omega) h4 h5 h6 h7
      have hX := hch hg0 hk3 x hxn (Or.inl hx)
      have hY := hch hg0 hk3 y hyn (Or.inr hy)
      have hnone : (∀ g, kV n 776 u g → kTv τ g ≠ iT τ s x) ∨ (∀ g, kV n 776 u g → kTv τ g ≠ iT τ s y) → vaQ τ n u s t (-1) := fun hz => by
        refine Or.inr ⟨rfl, fun g hg e => ?_, hg0, hk3⟩
        rw [hiT] at e
        rcases (hV g hg).2 with ⟨k', z3, zk, -, -⟩ | ⟨k', a, c, z3, zk, za, zc, w4, w5, w6, w7⟩ | ⟨k', a, z3, zk, za, zc, w4, w6⟩
        · have e2 : kTv τ g = .arg g := tvl_0 zk z3
          rw [e2] at e
          rcases h3 with rfl | rfl | ⟨rfl | rfl, -⟩ <;> exact absurd e (by simp [vnd])
        · have e2 : kTv τ g = vnd k' (kTv τ a) (some (kTv τ c)) := tvl_2 hV zk za zc (by omega) (by omega) w4 w5 w6 w7
          rw [e2] at e
          obtain ⟨-, e3, e4⟩ := vnd_inj2 (by omega) (by omega) e
          rcases hz with hz | hz
          · exact hz a w6 e3
          · exact hz c w7 e4
        · have e2 : kTv τ g = vnd k' (kTv τ a) none := tvl_1 hV zk za zc (by omega) (by omega) w4 w6
          rw [e2] at e
          exact absurd e.symm (vnd_21 (by omega) (by omega))
      refine kX_ialdV rfl rfl (by decide) (t) (by first | rfl | decide) (by omega) (hk) ?_
      repeat refine kX_one rfl ?_
      refine kX_ifT (decide_eq_true (show nI k ≠ nI 3 from nI_ne (by omega))) ?_
      iterate 6 (refine kX_one rfl ?_)
      refine kX_ialdV rfl rfl (by decide) (t) (by first | rfl | decide) (by omega) (hx) ?_
      rcases hX with ⟨gx, gx1, gx2, gx3, gx4⟩ | ⟨gx4, gx2, -⟩
      · have gxl := iE_lt h gx1
        refine kX_ialdV rfl rfl (by decide) (x) (by first | rfl | decide) (by omega) (gx4) ?_
        iterate 5 (refine kX_one rfl ?_)
        refine kX_ialdV rfl rfl (by decide) (t) (by first | rfl | decide) (by omega) (hy) ?_
        iterate 1 (refine kX_one rfl ?_)
        repeat refine kX_one rfl ?_
        refine kX_ifT (decide_eq_true (show nI y ≠ -1 from nI_m1 (by omega))) ?_
        iterate 3 (refine kX_one rfl ?_)
        rcases hY with ⟨gy, gy1, gy2, gy3, gy4⟩ | ⟨gy4, gy2, -⟩
        · have gyl := iE_lt h gy1
          refine kX_ialdV rfl rfl (by decide) (y) (by first | rfl | decide) (by omega) (gy4) ?_
          iterate 1 (refine kX_one rfl ?_)
          repeat refine kX_one rfl ?_
          refine kX_ifF (decide_eq_false (show nI gx ≠ -1 from nI_m1 (by omega))) ?_
          repeat refine kX_one rfl ?_
          refine kX_ifT (decide_eq_true (show nI gy ≠ -1 from nI_m1 (by omega))) ?_
          refine kX_lv _ rfl rfl rfl (k105 k (nI gx) (nI gy) (nI y) hk (fun r hr => ?_))
          rcases hr with ⟨rfl, hno⟩ | ⟨g, g1, rfl, g3⟩
          · refine ⟨_, rfl, Or.inr ⟨rfl, fun g hg e => ?_, hg0, hk3⟩⟩
            rw [hiT, ← gx3, ← gy3] at e
            rcases (hV g hg).2 with ⟨k', z3, zk, -, -⟩ | ⟨k', a, c, z3, zk, za, zc, w4, w5, w6, w7⟩ | ⟨k', a, z3, zk, za, zc, w4, w6⟩
            · have e2 : kTv τ g = .arg g := tvl_0 zk z3
              rw [e2] at e
              rcases h3 with rfl | rfl | ⟨rfl | rfl, -⟩ <;> exact absurd e (by simp [vnd])
            · have e2 : kTv τ g = vnd k' (kTv τ a) (some (kTv τ c)) := tvl_2 hV zk za zc (by omega) (by omega) w4 w5 w6 w7
              rw [e2] at e
              obtain ⟨e5, e3, e4⟩ := vnd_inj2 (by omega) (by omega) e
              subst e5
              obtain rfl := kTv_inj h w6 gx1 e3
              obtain rfl := kTv_inj h w7 gy1 e4
              exact hno g ⟨hg, by rw [zk, fN_nI (by omega)]; omega⟩ ⟨zk, za, zc⟩
            · have e2 : kTv τ g = vnd k' (kTv τ a) none := tvl_1 hV zk za zc (by omega) (by omega) w4 w6
              rw [e2] at e
              exact absurd e.symm (vnd_21 (by omega) (by omega))
          · have hgv := g1.1
            rcases (hV g hgv).2 with ⟨k', z3, zk, zf, -⟩ | ⟨k', a, c, z3, zk, za, zc, w4, w5, w6, w7⟩ | ⟨k', a, z3, zk, za, zc, w4, w6⟩
            · exact absurd (zf.symm.trans g3.2.1) (fun w => nI_m1 (by omega) w.symm)
            · have al := iE_lt h w6
              have cl := iE_lt h w7
              obtain rfl : k' = k := nI_inj (zk.symm.trans g3.1)
              obtain rfl : a = gx := nI_inj (za.symm.trans g3.2.1)
              obtain rfl : c = gy := nI_inj (zc.symm.trans g3.2.2)
              have e2 : kTv τ g = vnd k' (kTv τ a) (some (kTv τ c)) := tvl_2 hV zk za zc (by omega) (by omega) w4 w5 w6 w7
              refine ⟨_, rfl, Or.inl ⟨g, hgv, ?_, by rw [e2, gx3, gy3, hiT], rfl⟩⟩
              unfold kGd
              rw [tgd_2 hV zk za zc (by omega) (by omega) w4 w5 w6 w7, Bool.and_eq_true]
              exact ⟨gx2, gy2⟩
            · exact absurd (zc.symm.trans g3.2.2) (fun w => nI_m1 (by omega) w.symm)
        · refine kX_ialdV rfl rfl (by decide) (y) (by first | rfl | decide) (by omega) (gy4) ?_
          have hf := hnone (Or.inr gy2)
          iterate 1 (refine kX_one rfl ?_)
          repeat refine kX_one rfl ?_
          refine kX_ifF (decide_eq_false (show nI gx ≠ -1 from nI_m1 (by omega))) ?_
          repeat refine kX_one rfl ?_
          refine kX_ifT (decide_eq_true (show nI y ≠ -1 from nI_m1 (by omega))) ?_
          repeat refine kX_one rfl ?_
          refine kX_ret (i := .ireturn) (len := 1) rfl (Or.inr rfl) rfl (⟨⟨_, rfl, hf⟩, rfl⟩)
      · have hf := hnone (Or.inl gx2)
        refine kX_ialdV rfl rfl (by decide) (x) (by first | rfl | decide) (by omega) (gx4) ?_
        iterate 5 (refine kX_one rfl ?_)
        refine kX_ialdV rfl rfl (by decide) (t) (by first | rfl | decide) (by omega) (hy) ?_
        iterate 1 (refine kX_one rfl ?_)
        repeat refine kX_one rfl ?_
        refine kX_ifT (decide_eq_true (show nI y ≠ -1 from nI_m1 (by omega))) ?_
        iterate 3 (refine kX_one rfl ?_)
        refine kX_ialdN rfl rfl (by decide) (y) (by first | rfl | decide) (by omega) ?_
        repeat refine kX_one rfl ?_
        refine kX_ret (i := .ireturn) (len := 1) rfl (Or.inr rfl) rfl (⟨⟨_, rfl, hf⟩, rfl⟩)
    · have hk3 : τ 2 t ≠ nI 3 := by rw [hk]; exact nI_ne (by omega)
      have hxn : x < n := by omega
      obtain ⟨hiT, -⟩ := kSt_1 (s := s) h hk hx hy (by omega) (by omega) h4 h6
      have hX := hch hg0 hk3 x hxn (Or.inl hx)
      refine kX_ialdV rfl rfl (by decide) (t) (by first | rfl | decide) (by omega) (hk) ?_
      repeat refine kX_one rfl ?_
      refine kX_ifT (decide_eq_true (show nI k ≠ nI 3 from nI_ne (by omega))) ?_
      iterate 6 (refine kX_one rfl ?_)
      refine kX_ialdV rfl rfl (by decide) (t) (by first | rfl | decide) (by omega) (hx) ?_
      have harg : ∀ g : Nat, vnd k (iT τ s x) none ≠ .arg g := fun g e => by
        rcases h3 with rfl | ⟨rfl, -⟩ <;> exact absurd e (by simp [vnd])
      rcases hX with ⟨gx, gx1, gx2, gx3, gx4⟩ | ⟨gx4, gx2, -⟩
      · have gxl := iE_lt h gx1
        refine kX_ialdV rfl rfl (by decide) (x) (by first | rfl | decide) (by omega) (gx4) ?_
        iterate 5 (refine kX_one rfl ?_)
        refine kX_ialdV rfl rfl (by decide) (t) (by first | rfl | decide) (by omega) (hy) ?_
        iterate 6 (refine kX_one rfl ?_)
        iterate 1 (refine kX_one rfl ?_)
        repeat refine kX_one rfl ?_
        refine kX_ifF (decide_eq_false (show nI gx ≠ -1 from nI_m1 (by omega))) ?_
        iterate 6 (refine kX_one rfl ?_)
        refine kX_lv _ rfl rfl rfl (k105 k (nI gx) (-1) (-1) hk (fun r hr => ?_))
        rcases hr with ⟨rfl, hno⟩ | ⟨g, g1, rfl, g3⟩
        · refine ⟨_, rfl, Or.inr ⟨rfl, fun g hg e => ?_, hg0, hk3⟩⟩
          rw [hiT] at e
          rcases (hV g hg).2 with ⟨k', z3, zk, -, -⟩ | ⟨k', a, c, z3, zk, za, zc, w4, w5, w6, w7⟩ | ⟨k', a, z3, zk, za, zc, w4, w6⟩
          · have e2 : kTv τ g = .arg g := tvl_0 zk z3
            rw [e2] at e
            exact absurd e.symm (harg g)
          · have e2 : kTv τ g = vnd k' (kTv τ a) (some (kTv τ c)) := tvl_2 hV zk za zc (by omega) (by omega) w4 w5 w6 w7
            rw [e2] at e
            exact absurd e (vnd_21 (by omega) (by omega))
          · have e2 : kTv τ g = vnd k' (kTv τ a) none := tvl_1 hV zk za zc (by omega) (by omega) w4 w6
            rw [e2, ← gx3] at e
            obtain ⟨e5, e3⟩ := vnd_inj1 (by omega) (by omega) e
            subst e5
            obtain rfl := kTv_inj h w6 gx1 e3
            exact hno g ⟨hg, by rw [zk, fN_nI (by omega)]; omega⟩ ⟨zk, za, zc⟩
        · have hgv := g1.1
          rcases (hV g hgv).2 with ⟨k', z3, zk, zf, -⟩ | ⟨k', a, c, z3, zk, za, zc, w4, w5, w6, w7⟩ | ⟨k', a, z3, zk, za, zc, w4, w6⟩
          · exact absurd (zf.symm.trans g3.2.1) (fun w => nI_m1 (by omega) w.symm)
          · have cl := iE_lt h w7
            exact absurd (zc.symm.trans g3.2.2) (nI_m1 (by omega))
          · have al := iE_lt h w6
            obtain rfl : k' = k := nI_inj (zk.symm.trans g3.1)
            obtain rfl : a = gx := nI_inj (za.symm.trans g3.2.1)
            have e2 : kTv τ g = vnd k' (kTv τ a) none := tvl_1 hV zk za zc (by omega) (by omega) w4 w6
            refine ⟨_, rfl, Or.inl ⟨g, hgv, ?_, by rw [e2, gx3, hiT], rfl⟩⟩
            unfold kGd
            rw [tgd_1 hV zk za zc (by omega) (by omega) w4 w6]
            exact gx2
      · have hf : vaQ τ n u s t (-1) := by
          refine Or.inr ⟨rfl, fun g hg e => ?_, hg0, hk3⟩
          rw [hiT] at e
          rcases (hV g hg).2 with ⟨k', z3, zk, -, -⟩ | ⟨k', a, c, z3, zk, za, zc, w4, w5, w6, w7⟩ | ⟨k', a, z3, zk, za, zc, w4, w6⟩
          · have e2 : kTv τ g = .arg g := tvl_0 zk z3
            rw [e2] at e
            exact absurd e.symm (harg g)
          · have e2 : kTv τ g = vnd k' (kTv τ a) (some (kTv τ c)) := tvl_2 hV zk za zc (by omega) (by omega) w4 w5 w6 w7
            rw [e2] at e
            exact absurd e (vnd_21 (by omega) (by omega))
          · have e2 : kTv τ g = vnd k' (kTv τ a) none := tvl_1 hV zk za zc (by omega) (by omega) w4 w6
            rw [e2] at e
            obtain ⟨-, e3⟩ := vnd_inj1 (by omega) (by omega) e
            exact gx2 a w6 e3
        refine kX_ialdV rfl rfl (by decide) (x) (by first | rfl | decide) (by omega) (gx4) ?_
        iterate 5 (refine kX_one rfl ?_)
        refine kX_ialdV rfl rfl (by decide) (t) (by first | rfl | decide) (by omega) (hy) ?_
        repeat refine kX_one rfl ?_
        refine kX_ret (i := .ireturn) (len := 1) rfl (Or.inr rfl) rfl (⟨⟨_, rfl, hf⟩, rfl⟩)
  · have hg1 : kGd τ t := isB_ne.mp (qeqF q)
    have hf : vaQ τ n u s t (nI t) := Or.inl ⟨t, Or.inl ht, hg1, (tW_gd h t (Or.inl ht) hg1).symm, rfl⟩
    repeat refine kX_one rfl ?_
    refine kX_ret (i := .ireturn) (len := 1) rfl (Or.inr rfl) rfl (⟨⟨_, rfl, hf⟩, rfl⟩)
end WG
end
section
/-! alike: canCompose, weigh -/
theorem isB_an {P Q : Prop} (hP : P) : isB (P ∧ Q) = isB Q := isB_iff ⟨fun z => z.2, fun z => ⟨hP, z⟩⟩
section WG
variable {τ : kS} {n u m s : Nat} {l : rwT}
set_option maxRecDepth 100000 in
set_option maxHeartbeats 4000000 in
theorem mf_canCompose (L : Nat) (xs : Nat → Int32) (d : Nat) (t : Nat) (h : iE τ 204 776 n u m l) (ht : t < n) (hg0 : ¬ kGd τ t) (hk3 : τ 2 t ≠ nI 3) (hno : ∀ g, kV n 776 u g → kTv τ g ≠ iT τ s t) (hst : kSt τ n 202 (7 * s + 1) (wV τ s) t) (hch : ∀ p, p < n → (τ 3 t = nI p ∨ τ 4 t = nI p) → ptQ τ n u l s p) : kXM kT L xs (d + 2) 37 [.ref 222, .int (nI t)] τ (fun r σ' => r = some (.int (isB (vmk (kIn τ l) (mA τ) (τ 238) (iT τ s t)))) ∧ τ = σ') := by
  have hn := h.2.1
  have hV := iE_V h
  have hK : isK 204 776 := h.1
  have hni : ¬ kIn τ l (iT τ s t) := fun ⟨g, g1, g2⟩ => hno g (iE_l h g1).1 g2
  unfold kXM
  rcases (hV t (Or.inl ht)).2 with ⟨k, h3, hk, -, -⟩ | ⟨k, x, y, h3, hk, hx, hy, h4, h5, h6, h7⟩ | ⟨k, x, h3, hk, hx, hy, h4, h6⟩
  · refine absurd ?_ hg0
    unfold kGd
    rw [tgd_0 hk h3]
    exact decide_eq_true (fun e => hk3 (hk.trans (by rw [e])))
  · have hxn : x < n := by omega
    have hyn : y < n := by omega
    obtain ⟨hiT, hvs⟩ := kSt_2 (s := s) h hk hx hy (by omega) (by omega) h4 h5 h6 h7
    obtain ⟨hxv, hxc⟩ := hch x hxn (Or.inl hx)
    have hY := hch y hyn (Or.inr hy)
    have hyc := hY.2
    rw [hiT] at hni ⊢
    iterate 4 (refine kX_one rfl ?_)
    refine kX_ialdV rfl rfl (by decide) (t) (by first | rfl | decide) (by omega) (hx) ?_
    iterate 5 (refine kX_one rfl ?_)
    refine kX_ialdV rfl rfl (by decide) (t) (by first | rfl | decide) (by omega) (hy) ?_
    iterate 5 (refine kX_one rfl ?_)
    have two : ∀ k, (k = 4 ∨ k = 5) → ¬ kIn τ l (vnd k (iT τ s x) (some (iT τ s y))) → isB (vmk (kIn τ l) (mA τ) (τ 238) (vnd k (iT τ s x) (some (iT τ s y)))) = isB (vmk (kIn τ l) (mA τ) (τ 238) (iT τ s x) ∧ vmk (kIn τ l) (mA τ) (τ 238) (iT τ s y)) := fun k hk hz => by
      refine isB_iff ?_
      rcases hk with rfl | rfl
      · exact ⟨fun z => z.elim (fun w => absurd w hz) id, Or.inr⟩
      · exact ⟨fun z => z.elim (fun w => absurd w hz) id, Or.inr⟩
    have step45 : (k = 4 ∨ k = 5) → True := fun _ => trivial
    rcases h3 with rfl | rfl | ⟨rfl | rfl, ha⟩
    · rw [two 4 (Or.inl rfl) hni]
      refine kX_ialdV rfl rfl (by decide) (t) (by first | rfl | decide) (by omega) (hk) ?_
      iterate 4 (refine kX_one rfl ?_)
      refine kX_baldV rfl rfl (by decide) (x) (by first | rfl | decide) (by omega) (hxc) ?_
      repeat refine kX_one rfl ?_
      refine kX_if (fun q => ?_) (fun q => ?_)
      · have q : ¬ vmk (kIn τ l) (mA τ) (τ 238) (iT τ s x) := fun z => isB_ne.mpr z (qeq q)
        rw [isB_F (fun z => q z.1)]
        repeat refine kX_one rfl ?_
        refine kX_ret (i := .ireturn) (len := 1) rfl (Or.inr rfl) rfl (⟨rfl, rfl⟩)
      · have q : vmk (kIn τ l) (mA τ) (τ 238) (iT τ s x) := isB_ne.mp (qeqF q)
        rw [isB_an q]
        iterate 3 (refine kX_one rfl ?_)
        refine kX_baldV rfl rfl (by decide) (y) (by first | rfl | decide) (by omega) (hyc) ?_
        repeat refine kX_one rfl ?_
        refine kX_if (fun q2 => ?_) (fun q2 => ?_)
        · rw [isB_F (fun z => isB_ne.mpr z (qeq q2))]
          repeat refine kX_one rfl ?_
          refine kX_ret (i := .ireturn) (len := 1) rfl (Or.inr rfl) rfl (⟨rfl, rfl⟩)
        · rw [isB_T (isB_ne.mp (qeqF q2))]
          repeat refine kX_one rfl ?_
          refine kX_ret (i := .ireturn) (len := 1) rfl (Or.inr rfl) rfl (⟨rfl, rfl⟩)
    · rw [two 5 (Or.inr rfl) hni]
      refine kX_ialdV rfl rfl (by decide) (t) (by first | rfl | decide) (by omega) (hk) ?_
      iterate 4 (refine kX_one rfl ?_)
      refine kX_baldV rfl rfl (by decide) (x) (by first | rfl | decide) (by omega) (hxc) ?_
      repeat refine kX_one rfl ?_
      refine kX_if (fun q => ?_) (fun q => ?_)
      · have q : ¬ vmk (kIn τ l) (mA τ) (τ 238) (iT τ s x) := fun z => isB_ne.mpr z (qeq q)
        rw [isB_F (fun z => q z.1)]
        repeat refine kX_one rfl ?_
        refine kX_ret (i := .ireturn) (len := 1) rfl (Or.inr rfl) rfl (⟨rfl, rfl⟩)
      · have q : vmk (kIn τ l) (mA τ) (τ 238) (iT τ s x) := isB_ne.mp (qeqF q)
        rw [isB_an q]
        iterate 3 (refine kX_one rfl ?_)
        refine kX_baldV rfl rfl (by decide) (y) (by first | rfl | decide) (by omega) (hyc) ?_
        repeat refine kX_one rfl ?_
        refine kX_if (fun q2 => ?_) (fun q2 => ?_)
        · rw [isB_F (fun z => isB_ne.mpr z (qeq q2))]
          repeat refine kX_one rfl ?_
          refine kX_ret (i := .ireturn) (len := 1) rfl (Or.inr rfl) rfl (⟨rfl, rfl⟩)
        · rw [isB_T (isB_ne.mp (qeqF q2))]
          repeat refine kX_one rfl ?_
          refine kX_ret (i := .ireturn) (len := 1) rfl (Or.inr rfl) rfl (⟨rfl, rfl⟩)
    · have e : isB (vmk (kIn τ l) (mA τ) (τ 238) (vnd 6 (iT τ s x) (some (iT τ s y)))) = isB (vmk (kIn τ l) (mA τ) (τ 238) (iT τ s x)) := isB_iff ⟨fun z => z.elim (fun w => absurd w hni) id, Or.inr⟩
      rw [e]
      refine kX_ialdV rfl rfl (by decide) (t) (by first | rfl | decide) (by omega) (hk) ?_
      iterate 4 (refine kX_one rfl ?_)
      refine kX_baldV rfl rfl (by decide) (x) (by first | rfl | decide) (by omega) (hxc) ?_
      refine kX_ret (i := .ireturn) (len := 1) rfl (Or.inr rfl) (jend_b rfl (isB_01 _)) ⟨rfl, rfl⟩
    · obtain ⟨z, z1, z2, z3, z4⟩ := pt_ag h (fun v hv => hst v (by rw [hvs]; exact List.mem_append_right _ hv)) ha hY
      have e : isB (vmk (kIn τ l) (mA τ) (τ 238) (vnd 8 (iT τ s x) (some (iT τ s y)))) = isB (vmk (kIn τ l) (mA τ) (τ 238) (iT τ s x) ∧ kHp τ l z) := by
        refine isB_iff ?_
        rw [z3] at hni ⊢
        rw [kHp_t h (Or.inl z1) z2]
        exact ⟨fun w => w.elim (fun w => absurd w hni) id, Or.inr⟩
      rw [e]
      refine kX_ialdV rfl rfl (by decide) (t) (by first | rfl | decide) (by omega) (hk) ?_
      iterate 4 (refine kX_one rfl ?_)
      refine kX_baldV rfl rfl (by decide) (x) (by first | rfl | decide) (by omega) (hxc) ?_
      repeat refine kX_one rfl ?_
      refine kX_if (fun q => ?_) (fun q => ?_)
      · have q : ¬ vmk (kIn τ l) (mA τ) (τ 238) (iT τ s x) := fun z => isB_ne.mpr z (qeq q)
        rw [isB_F (fun z => q z.1)]
        repeat refine kX_one rfl ?_
        refine kX_ret (i := .ireturn) (len := 1) rfl (Or.inr rfl) rfl (⟨rfl, rfl⟩)
      · have q : vmk (kIn τ l) (mA τ) (τ 238) (iT τ s x) := isB_ne.mp (qeqF q)
        rw [isB_an q]
        iterate 5 (refine kX_one rfl ?_)
        refine kX_ialdV rfl rfl (by decide) (y) (by first | rfl | decide) (by omega) (z4) ?_
        refine kX_cal (mf_hasPriv L xs d τ 204 776 n u m z l h z1 z2) rfl (Or.inr rfl) rfl rfl rfl (fun r1 σ1 q1 => ?_)
        obtain ⟨rfl, rfl⟩ := q1
        by_cases hh : kHp τ l z
        · rw [isB_T hh]
          repeat refine kX_one rfl ?_
          refine kX_ret (i := .ireturn) (len := 1) rfl (Or.inr rfl) rfl (⟨rfl, rfl⟩)
        · rw [isB_F hh]
          repeat refine kX_one rfl ?_
          refine kX_ret (i := .ireturn) (len := 1) rfl (Or.inr rfl) rfl (⟨rfl, rfl⟩)
  · have hxn : x < n := by omega
    obtain ⟨hiT, hvs⟩ := kSt_1 (s := s) h hk hx hy (by omega) (by omega) h4 h6
    have hX := hch x hxn (Or.inl hx)
    have hxc := hX.2
    rw [hiT] at hni ⊢
    iterate 4 (refine kX_one rfl ?_)
    refine kX_ialdV rfl rfl (by decide) (t) (by first | rfl | decide) (by omega) (hx) ?_
    iterate 5 (refine kX_one rfl ?_)
    refine kX_ialdV rfl rfl (by decide) (t) (by first | rfl | decide) (by omega) (hy) ?_
    iterate 5 (refine kX_one rfl ?_)
    rcases h3 with rfl | ⟨rfl, ha⟩
    · have e : isB (vmk (kIn τ l) (mA τ) (τ 238) (vnd 9 (iT τ s x) none)) = isB (vmk (kIn τ l) (mA τ) (τ 238) (iT τ s x)) := isB_iff ⟨fun z => z.elim (fun w => absurd w hni) id, Or.inr⟩
      rw [e]
      refine kX_ialdV rfl rfl (by decide) (t) (by first | rfl | decide) (by omega) (hk) ?_
      iterate 4 (refine kX_one rfl ?_)
      refine kX_baldV rfl rfl (by decide) (x) (by first | rfl | decide) (by omega) (hxc) ?_
      refine kX_ret (i := .ireturn) (len := 1) rfl (Or.inr rfl) (jend_b rfl (isB_01 _)) ⟨rfl, rfl⟩
    · obtain ⟨z, z1, z2, z3, z4⟩ := pt_ag h (fun v hv => hst v (by rw [hvs]; exact List.mem_append_left _ hv)) ha hX
      have e : isB (vmk (kIn τ l) (mA τ) (τ 238) (vnd 7 (iT τ s x) none)) = isB (kHp τ l z) := by
        refine isB_iff ?_
        rw [z3] at hni ⊢
        rw [kHp_t h (Or.inl z1) z2]
        exact ⟨fun w => w.elim (fun w => absurd w hni) Or.inl, fun w => w.elim Or.inr (fun w => absurd w hni)⟩
      rw [e]
      refine kX_ialdV rfl rfl (by decide) (t) (by first | rfl | decide) (by omega) (hk) ?_
      iterate 6 (refine kX_one rfl ?_)
      refine kX_ialdV rfl rfl (by decide) (x) (by first | rfl | decide) (by omega) (z4) ?_
      refine kX_cal (mf_hasPriv L xs d τ 204 776 n u m z l h z1 z2) rfl (Or.inr rfl) rfl rfl rfl (fun r1 σ1 q1 => ?_)
      obtain ⟨rfl, rfl⟩ := q1
      refine kX_ret (i := .ireturn) (len := 1) rfl (Or.inr rfl) (jend_b rfl (isB_01 _)) ⟨rfl, rfl⟩
end WG
end
section
/-! alike: weigh -/
/-- only marks and what was weighed have changed -/
def wqF (σ τ : kS) : Prop := ∀ c, c ≠ 210 → c ≠ 230 → c ≠ 231 → τ c = σ c
theorem wqF_refl (σ : kS) : wqF σ σ := fun _ _ _ _ => rfl
theorem wqF_trans {σ τ ρ : kS} (h1 : wqF σ τ) (h2 : wqF τ ρ) : wqF σ ρ := fun c a b e => (h2 c a b e).trans (h1 c a b e)
theorem wq_iT {σ τ : kS} (h : wqF σ τ) : iT τ = iT σ := by
  funext s t
  unfold iT tW wV kTv
  rw [h 2 (by decide) (by decide) (by decide), h 3 (by decide) (by decide) (by decide), h 4 (by decide) (by decide) (by decide), h 12 (by decide) (by decide) (by decide), h 202 (by decide) (by decide) (by decide)]
theorem wq_pt {σ τ : kS} {n u s t : Nat} {l : rwT} (h : wqF σ τ) (e1 : τ 230 t = σ 230 t) (e2 : τ 231 t = σ 231 t) (hp : ptQ σ n u l s t) : ptQ τ n u l s t := by
  unfold ptQ vaQ at hp ⊢
  rw [wq_iT h, e1, e2]
  unfold kIn kTv kGd mA at hp ⊢
  rw [h 2 (by decide) (by decide) (by decide), h 3 (by decide) (by decide) (by decide), h 4 (by decide) (by decide) (by decide), h 233 (by decide) (by decide) (by decide), h 238 (by decide) (by decide) (by decide)]
  exact hp
theorem wq_st {σ τ : kS} {n s t : Nat} (h : wqF σ τ) (hp : kSt σ n 202 (7 * s + 1) (wV σ s) t) : kSt τ n 202 (7 * s + 1) (wV τ s) t := by
  unfold kSt wV kVs kTv kGd at hp ⊢
  rw [h 2 (by decide) (by decide) (by decide), h 3 (by decide) (by decide) (by decide), h 4 (by decide) (by decide) (by decide), h 12 (by decide) (by decide) (by decide), h 11 (by decide) (by decide) (by decide), h 202 (by decide) (by decide) (by decide)]
  exact hp
theorem wq_Cn {σ τ : kS} {n : Nat} (h : wqF σ τ) (hC : cCn σ n) : cCn τ n := by
  unfold cCn cpt at hC ⊢
  rw [h 2 (by decide) (by decide) (by decide), h 3 (by decide) (by decide) (by decide), h 4 (by decide) (by decide) (by decide), h 7 (by decide) (by decide) (by decide), h 6 (by decide) (by decide) (by decide)]
  exact hC
theorem wq_gR {σ τ : kS} {n : Nat} (h : wqF σ τ) (hC : gR σ n) : gR τ n := by
  unfold gR kGd at hC ⊢
  rw [h 2 (by decide) (by decide) (by decide), h 3 (by decide) (by decide) (by decide), h 4 (by decide) (by decide) (by decide), h 8 (by decide) (by decide) (by decide)]
  exact hC
/-- the plan of an EVENT, as the class has it -/
def plP (σ : kS) (n a t : Nat) (pl : List Nat) : Prop := pl.length ≤ 24 ∧ σ a 7 = nI pl.length ∧ lst (σ (a + 3)) pl ∧ σ a 1 = nI t ∧ t ∈ pl ∧ (∀ x ∈ pl, x < n) ∧ ∀ i (h : i < pl.length), ¬ kGd σ (pl[i]'h) → σ 2 (pl[i]'h) ≠ nI 3 → ∀ p, p < n → (σ 3 (pl[i]'h) = nI p ∨ σ 4 (pl[i]'h) = nI p) → ∃ j, ∃ (hj : j < pl.length), j < i ∧ p = pl[j]'hj
set_option maxRecDepth 100000 in
set_option maxHeartbeats 4000000 in
theorem mf_weigh (L : Nat) (xs : Nat → Int32) (d : Nat) (σ : kS) (n u m r k s f t : Nat) (l : rwT) (pl : List Nat) (h : iE σ 204 776 n u m l) (hC : cCn σ n) (hG : gR σ n) (hr4 : r < 4) (hk6 : k < 6) (hpl : plP σ n (28 + 35 * r + 5 * k) t pl) (hst : ∀ x ∈ pl, kSt σ n 202 (7 * s + 1) (wV σ s) x) (hs : s < 4) (hv : σ 222 3 = nI (7 * s + 1)) (hf : f ≤ 24) (hpt : ∀ i (h : i < pl.length), i < f → ptQ σ n u l s (pl[i]'h)) : kXM kT L xs (d + 53) 35 [.ref 222, .ref (28 + 35 * r + 5 * k), .int (nI f)] σ (fun q σ' => q = some (.int (isB (vmk (kIn σ l) (mA σ) (σ 238) (iT σ s t)))) ∧ wqF σ σ' ∧ iE σ' 204 776 n u m l ∧ (∀ x ∈ pl, ptQ σ' n u l s x) ∧ ∀ z, z ∉ pl → σ' 231 z = σ 231 z) := by
  have hK : isK 204 776 := Or.inr (Or.inl ⟨rfl, rfl⟩)
  have hn := h.2.1
  have b0 : 28 + 35 * r + 5 * k < 163 := ev_b r k 0 hr4 hk6 (by decide)
  have b3 := ev_b r k 3 hr4 hk6 (by decide)
  obtain ⟨q24, q2, pt, t2, htp, hlt, hch⟩ := hpl
  have loop : ∀ q : Nat × kS, (q.1 ≤ 24 ∧ wqF σ q.2 ∧ iE q.2 204 776 n u m l ∧ (∀ i (h : i < pl.length), i < q.1 → ptQ q.2 n u l s (pl[i]'h)) ∧ ∀ z, z ∉ pl → q.2 231 z = σ 231 z) → kX kT L xs (d + 53) 35 2 [(3, .int (nI q.1)), (0, .ref 222), (1, .ref (28 + 35 * r + 5 * k)), (2, .int (nI f))] [] q.2 (fun q σ' => q = some (.int (isB (vmk (kIn σ l) (mA σ) (σ 238) (iT σ s t)))) ∧ wqF σ σ' ∧ iE σ' 204 776 n u m l ∧ (∀ x ∈ pl, ptQ σ' n u l s x) ∧ ∀ z, z ∉ pl → σ' 231 z = σ 231 z) := by
    refine kX_while (fun q : Nat × kS => [(3, .int (nI q.1)), (0, .ref 222), (1, .ref (28 + 35 * r + 5 * k)), (2, .int (nI f))]) (fun q => q.2) _ (fun q => 24 - q.1) ?_
    rintro ⟨i, τ⟩ ⟨i1, i2, i3, i4, i5⟩ ih
    dsimp only at i1 i2 i3 i4 i5 ih ⊢
    have ee : ∀ c, c < 163 → τ c = σ c := fun c hc => i2 c (by omega) (by omega) (by omega)
    iterate 2 (refine kX_one rfl ?_)
    refine kX_getN rfl rfl (kT_ev hr4 hk6) rfl ?_
    refine kX_top (y := nI pl.length) (by rw [ee _ b0]; exact q2) ?_
    repeat refine kX_one rfl ?_
    refine kX_if (fun q => ?_) (fun q => ?_)
    · have q := qge q i pl.length
      have hall : ∀ x ∈ pl, ptQ τ n u l s x := fun x hx => by
        obtain ⟨j, hj, rfl⟩ := List.getElem_of_mem hx
        exact i4 j hj (by omega)
      have htn := hlt t htp
      have hres := (hall t htp).2
      have e1 : vmk (kIn τ l) (mA τ) (τ 238) (iT τ s t) = vmk (kIn σ l) (mA σ) (σ 238) (iT σ s t) := by
        rw [wq_iT i2]
        unfold kIn kTv mA
        rw [i2 2 (by decide) (by decide) (by decide), i2 3 (by decide) (by decide) (by decide), i2 4 (by decide) (by decide) (by decide), i2 233 (by decide) (by decide) (by decide), i2 238 (by decide) (by decide) (by decide)]
      rw [e1] at hres
      iterate 3 (refine kX_one rfl ?_)
      refine kX_getN rfl rfl (kT_ev hr4 hk6) rfl ?_
      refine kX_top (y := nI t) (by rw [ee _ b0]; exact t2) ?_
      refine kX_baldV rfl rfl (by decide) t (by rfl) (by omega) hres ?_
      refine kX_ret (i := .ireturn) (len := 1) rfl (Or.inr rfl) (jend_b rfl (isB_01 _)) ⟨rfl, i2, i3, hall, i5⟩
    · have q := qgeF q i pl.length
      have hx : pl[i]'q < n := hlt _ (List.getElem_mem q)
      have hstx := wq_st i2 (hst _ (List.getElem_mem q))
      have hchx : ¬ kGd τ (pl[i]'q) → τ 2 (pl[i]'q) ≠ nI 3 → ∀ p, p < n → (τ 3 (pl[i]'q) = nI p ∨ τ 4 (pl[i]'q) = nI p) → ptQ τ n u l s p := fun a1 a2 p hp hfp => by
        have a1' : ¬ kGd σ (pl[i]'q) := by
          unfold kGd at a1 ⊢
          rw [i2 2 (by decide) (by decide) (by decide), i2 3 (by decide) (by decide) (by decide), i2 4 (by decide) (by decide) (by decide)] at a1
          exact a1
        rw [i2 2 (by decide) (by decide) (by decide)] at a2
        rw [i2 3 (by decide) (by decide) (by decide), i2 4 (by decide) (by decide) (by decide)] at hfp
        obtain ⟨j, hj, j1, rfl⟩ := hch i q a1' a2 p hp hfp
        exact i4 j hj j1
      have hvt : τ 222 3 = nI (7 * s + 1) := by rw [i2 222 (by decide) (by decide) (by decide)]; exact hv
      have hpi : τ (28 + 35 * r + 5 * k + 3) i = nI (pl[i]'q) := (congrFun (ee _ b3) i).trans (pt i q)
      have k73 : ∀ τ', wqF τ τ' → iE τ' 204 776 n u m l → (∀ x, x ≠ pl[i]'q → τ' 230 x = τ 230 x ∧ τ' 231 x = τ 231 x) → ptQ τ' n u l s (pl[i]'q) → kX kT L xs (d + 53) 35 73 [(3, .int (nI i)), (0, .ref 222), (1, .ref (28 + 35 * r + 5 * k)), (2, .int (nI f))] [] τ' (fun q σ' => q = some (.int (isB (vmk (kIn σ l) (mA σ) (σ 238) (iT σ s t)))) ∧ wqF σ σ' ∧ iE σ' 204 776 n u m l ∧ (∀ x ∈ pl, ptQ σ' n u l s x) ∧ ∀ z, z ∉ pl → σ' 231 z = σ 231 z) := by
        intro τ' w1 w2 w3 w4
        iterate 2 (refine kX_one rfl ?_)
        have := ih (i + 1, τ') ⟨by simp only; omega, wqF_trans i2 w1, w2, fun j hj hji => by
          by_cases e : pl[j]'hj = pl[i]'q
          · rw [e]
            exact w4
          · have hji' : j < i := by
              have : j ≠ i := fun z => e (by subst z; rfl)
              simp only at hji
              omega
            obtain ⟨x1, x2⟩ := w3 _ e
            exact wq_pt w1 x1 x2 (i4 j hj hji'), fun z hz => ((w3 z (fun e => hz (e ▸ List.getElem_mem q))).2).trans (i5 z hz)⟩ (by simp only; omega)
        dsimp only at this
        rw [← nI_1] at this
        exact kX_lv _ rfl rfl rfl this
      generalize pl[i]'q = tp at hx hstx hchx hpi k73
      iterate 1 (refine kX_one rfl ?_)
      refine kX_getN rfl rfl (kT_ev hr4 hk6) rfl ?_
      iterate 1 (refine kX_one rfl ?_)
      refine kX_ialdV rfl ((kT_e3 hr4 hk6).1) (by decide) (i) (by first | rfl | decide) (by omega) (hpi) ?_
      iterate 6 (refine kX_one rfl ?_)
      refine kX_cal (mf_qValueOf L xs (d + 49) tp i3 (wq_Cn i2 hC) (wq_gR i2 hG) hx hs hvt hstx (fun a1 a2 p hp hfp => (hchx a1 a2 p hp hfp).1)) rfl (Or.inr rfl) rfl rfl rfl (fun r1 σ1 q1 => ?_)
      obtain ⟨⟨x, rfl, hxq⟩, rfl⟩ := q1
      refine kX_iastN rfl rfl (by decide) (tp) (by first | rfl | decide) (by omega) ?_
      have hE1 : iE (va_up τ 230 (upd (τ 230) tp x)) 204 776 n u m l := i3
      have hF1 : wqF τ (va_up τ 230 (upd (τ 230) tp x)) := fun c _ b _ => up_ne b
      have h230 : va_up τ 230 (upd (τ 230) tp x) 230 = upd (τ 230) tp x := up_eq
      have h231 : va_up τ 230 (upd (τ 230) tp x) 231 = τ 231 := rfl
      have hx1 : va_up τ 230 (upd (τ 230) tp x) 230 tp = x := by rw [up_eq, pk_us]
      generalize va_up τ 230 (upd (τ 230) tp x) = ω at *
      iterate 6 (refine kX_one rfl ?_)
      refine kX_ialdV rfl rfl (by decide) tp (by rfl) (by omega) hx1 ?_
      have eV : ∀ {ρ : kS}, wqF τ ρ → vmk (kIn ρ l) (mA ρ) (ρ 238) (iT ρ s tp) = vmk (kIn τ l) (mA τ) (τ 238) (iT τ s tp) := fun {ρ} hh => by
        rw [wq_iT hh]
        unfold kIn kTv mA
        rw [hh 2 (by decide) (by decide) (by decide), hh 3 (by decide) (by decide) (by decide), hh 4 (by decide) (by decide) (by decide), hh 233 (by decide) (by decide) (by decide), hh 238 (by decide) (by decide) (by decide)]
      have fin : ∀ ρ, wqF τ ρ → ρ 230 = upd (τ 230) tp x → ρ 231 = τ 231 → iE ρ 204 776 n u m l → ∀ lv, nk lv = true → ([(3, .int (nI i)), (0, .ref 222), (1, .ref (28 + 35 * r + 5 * k)), (2, .int (nI f))] : jL).map (fun q => jl lv q.1) = ([(3, Value.int (nI i)), (0, .ref 222), (1, .ref (28 + 35 * r + 5 * k)), (2, .int (nI f))] : jL).map (fun q => some q.2) → kX kT L xs (d + 53) 35 72 lv [.int (isB (vmk (kIn τ l) (mA τ) (τ 238) (iT τ s tp))), .int (nI tp), .ref 231] ρ (fun q σ' => q = some (.int (isB (vmk (kIn σ l) (mA σ) (σ 238) (iT σ s t)))) ∧ wqF σ σ' ∧ iE σ' 204 776 n u m l ∧ (∀ x ∈ pl, ptQ σ' n u l s x) ∧ ∀ z, z ∉ pl → σ' 231 z = σ 231 z) := by
        intro ρ f1 f2 f3 f4 lv hk hlv
        refine kX_lv _ hk rfl hlv ?_
        refine kX_bastN rfl rfl (by decide) (tp) (by first | rfl | decide) (by omega) (isB_01 _) ?_
        refine k73 _ (fun c a b e => (up_ne e).trans (f1 c a b e)) f4 (fun z hz => ⟨?_, ?_⟩) ⟨?_, ?_⟩
        · show ρ 230 z = _
          rw [f2, pk_un hz]
        · rw [up_eq, pk_un hz, f3]
        · have hh : wqF τ (va_up ρ 231 (upd (ρ 231) tp (isB (vmk (kIn τ l) (mA τ) (τ 238) (iT τ s tp))))) := fun c a b e => (up_ne e).trans (f1 c a b e)
          have e5 : va_up ρ 231 (upd (ρ 231) tp (isB (vmk (kIn τ l) (mA τ) (τ 238) (iT τ s tp)))) 230 tp = x := by
            show ρ 230 tp = x
            rw [f2, pk_us]
          rw [e5]
          unfold vaQ at hxq ⊢
          rw [wq_iT hh]
          unfold kTv kGd at hxq ⊢
          rw [hh 2 (by decide) (by decide) (by decide), hh 3 (by decide) (by decide) (by decide), hh 4 (by decide) (by decide) (by decide)]
          exact hxq
        · rw [up_eq, pk_us, eV (fun c a b e => (up_ne e).trans (f1 c a b e))]
      rcases hxq with ⟨g, g1, g2, g3, rfl⟩ | ⟨rfl, g2, g3, g4⟩
      · have hgl := iE_lt i3 g1
        have hgd : kDp τ g ≤ 47 := by
          rcases g1 with z | z
          · have := i3.2.2.2.2.2.2.2.2.1 g z
            omega
          · exact (i3.2.2.2.2.1.2.2.2.2.1 g z.1 z.2).2.2
        have ekd : kDp ω g = kDp τ g := by
          unfold kDp
          rw [hF1 2 (by decide) (by decide) (by decide), hF1 3 (by decide) (by decide) (by decide), hF1 4 (by decide) (by decide) (by decide)]
        have ekg : kGd ω g := by
          unfold kGd
          rw [hF1 2 (by decide) (by decide) (by decide), hF1 3 (by decide) (by decide) (by decide), hF1 4 (by decide) (by decide) (by decide)]
          exact g2
        have emk : kMk ω l g = vmk (kIn τ l) (mA τ) (τ 238) (iT τ s tp) := by
          rw [← g3]
          unfold kMk kIn kTv mA
          rw [hF1 2 (by decide) (by decide) (by decide), hF1 3 (by decide) (by decide) (by decide), hF1 4 (by decide) (by decide) (by decide), hF1 233 (by decide) (by decide) (by decide), hF1 238 (by decide) (by decide) (by decide)]
        repeat refine kX_one rfl ?_
        refine kX_ifF (decide_eq_false (nI_m1 (by omega))) ?_
        iterate 5 (refine kX_one rfl ?_)
        refine kX_ialdV rfl rfl (by decide) tp (by rfl) (by omega) hx1 ?_
        iterate 1 (refine kX_one rfl ?_)
        refine kX_cal (mf_canMake L xs 204 776 n u m l 49 (d + 1) 0 ω g rfl (by omega) hE1 g1 ekg) rfl (Or.inr rfl) rfl rfl rfl (fun r1 ρ q1 => ?_)
        obtain ⟨rfl, M, rfl, hE2⟩ := q1
        rw [emk]
        iterate 1 (refine kX_one rfl ?_)
        exact fin _ (wqF_trans hF1 (fun c a _ _ => up_ne a)) h230 h231 hE2 _ rfl rfl
      · have hchω : ∀ p, p < n → (ω 3 tp = nI p ∨ ω 4 tp = nI p) → ptQ ω n u l s p := fun p hp hfp => by
          rw [hF1 3 (by decide) (by decide) (by decide), hF1 4 (by decide) (by decide) (by decide)] at hfp
          have hptp := hchx g3 g4 p hp hfp
          have hne : p ≠ tp := fun e => by
            rcases (iE_V i3 tp (Or.inl hx)).2 with ⟨k', z3, zk, zf, zs⟩ | ⟨k', a', b', z3, zk, zx, zy, z4, z5, z6, z7⟩ | ⟨k', a', z3, zk, zx, zy, z4, z6⟩
            · rcases hfp with w | w
              · exact absurd (w.symm.trans zf) (nI_m1 (by omega))
              · exact absurd (w.symm.trans zs) (nI_m1 (by omega))
            · have al := iE_lt i3 z6
              have bl := iE_lt i3 z7
              rcases hfp with w | w
              · have := nI_inj (w.symm.trans zx)
                omega
              · have := nI_inj (w.symm.trans zy)
                omega
            · have al := iE_lt i3 z6
              rcases hfp with w | w
              · have := nI_inj (w.symm.trans zx)
                omega
              · exact absurd (w.symm.trans zy) (nI_m1 (by omega))
          exact wq_pt hF1 (by rw [h230, pk_un hne]) (by rw [h231]) hptp
        have hnoω : ∀ g, kV n 776 u g → kTv ω g ≠ iT ω s tp := fun g hg => by
          rw [wq_iT hF1]
          unfold kTv
          rw [hF1 2 (by decide) (by decide) (by decide), hF1 3 (by decide) (by decide) (by decide), hF1 4 (by decide) (by decide) (by decide)]
          exact g2 g hg
        have hgω : ¬ kGd ω tp := by
          unfold kGd
          rw [hF1 2 (by decide) (by decide) (by decide), hF1 3 (by decide) (by decide) (by decide), hF1 4 (by decide) (by decide) (by decide)]
          exact g3
        have hkω : ω 2 tp ≠ nI 3 := by
          rw [hF1 2 (by decide) (by decide) (by decide)]
          exact g4
        iterate 4 (refine kX_one rfl ?_)
        refine kX_cal (mf_canCompose L xs (d + 50) tp hE1 hx hgω hkω hnoω (wq_st hF1 hstx) hchω) rfl (Or.inr rfl) rfl rfl rfl (fun r1 σ1 q1 => ?_)
        obtain ⟨rfl, rfl⟩ := q1
        rw [eV hF1]
        exact fin _ hF1 h230 h231 hE1 _ rfl rfl
  unfold kXM
  iterate 2 (refine kX_one rfl ?_)
  exact kX_lv _ rfl rfl rfl (loop (f, σ) ⟨hf, wqF_refl σ, h, hpt, fun _ _ => rfl⟩)
end
section
/-! alike: allHaveDoneAll, hasSecrets, tracePath; a STATE of the search -/
/-- the reference with the STATE a -/
def stI (σ : kS) (a : Nat → Int32) : kS := va_up (va_up σ 264 (fun s => a (7 * s))) 265 (fun j => nnI (a (7 * (j / 6) + 1 + j % 6)))
theorem stI_vw (σ : kS) (a : Nat → Int32) : vw σ (stI σ a) := ⟨fun c _ c2 c3 _ _ => by unfold stI; rw [up_ne c3, up_ne c2], fun _ _ _ _ => rfl⟩
theorem stI_do (σ : kS) (a : Nat → Int32) (s : Nat) : stI σ a 264 s = a (7 * s) := rfl
theorem stI_va (σ : kS) (a : Nat → Int32) {s k : Nat} (hk : k < 6) : stI σ a 265 (6 * s + k) = nnI (a (7 * s + 1 + k)) := by
  show nnI (a (7 * ((6 * s + k) / 6) + 1 + (6 * s + k) % 6)) = _
  rw [show (6 * s + k) / 6 = s by omega, show (6 * s + k) % 6 = k by omega]
/-- the STATE in the cells A from base on -/
def stF (σ : kS) (A base S : Nat) : Nat → Int32 := fun i => if i < 7 * S then σ A (base + i) else 0
theorem stF_staV (σ : kS) (A base S : Nat) (hA : A < 232) : staV (stI σ (stF σ A base S)) A base S := fun s hs => by
  have e : stI σ (stF σ A base S) A = σ A := vw_low (stI_vw σ _) hA
  rw [e, stI_do]
  refine ⟨?_, fun k hk => ?_⟩
  · unfold stF
    rw [if_pos (by omega)]
  · rw [stI_va σ _ hk]
    unfold stF
    rw [if_pos (by omega), show base + (7 * s + 1 + k) = base + 7 * s + 1 + k by omega]
theorem stF_eq {σ : kS} {A base A' base' S : Nat} : stF σ A base S = stF σ A' base' S ↔ ∀ j, j < 7 * S → σ A (base + j) = σ A' (base' + j) := by
  refine ⟨fun h j hj => ?_, fun h => ?_⟩
  · have := congrFun h j
    unfold stF at this
    rw [if_pos hj, if_pos hj] at this
    exact this
  · funext j
    unfold stF
    by_cases q : j < 7 * S
    · rw [if_pos q, if_pos q]
      exact h j q
    · rw [if_neg q, if_neg q]
set_option maxRecDepth 100000 in
set_option maxHeartbeats 4000000 in
theorem mf_allDone (L : Nat) (xs : Nat → Int32) (d : Nat) (σ : kS) (n R S C A M base : Nat) (g0 : Nat → Int32) (hB : cB σ n R S C) (hA : kT[A]? = some (.inl (0, M, .inl g0))) (hM : M ≤ 100000) (hbm : base + 28 ≤ M) : kXM kT L xs (d + 3) 20 [.ref 13, .ref A, .int (nI base)] σ (fun q σ' => q = some (.int (isB (∀ s, s < S → cHd σ A base s))) ∧ σ = σ') := by
  obtain ⟨hRo, ⟨hS4, hSc, hSr⟩, -⟩ := hB
  have loop : ∀ q : Nat, (q ≤ S ∧ ∀ s, s < q → cHd σ A base s) → kX kT L xs (d + 3) 20 2 [(3, .int (nI q)), (0, .ref 13), (1, .ref A), (2, .int (nI base))] [] σ (fun q σ' => q = some (.int (isB (∀ s, s < S → cHd σ A base s))) ∧ σ = σ') := by
    refine kX_while (fun q => [(3, .int (nI q)), (0, .ref 13), (1, .ref A), (2, .int (nI base))]) (fun _ => σ) _ (fun q => S - q) ?_
    intro i ⟨i1, i2⟩ ih
    iterate 3 (refine kX_one rfl ?_)
    refine kX_top (hSc) ?_
    repeat refine kX_one rfl ?_
    refine kX_if (fun q => ?_) (fun q => ?_)
    · have q := qge q i S
      rw [isB_T (fun s hs => i2 s (by omega))]
      repeat refine kX_one rfl ?_
      refine kX_ret (i := .ireturn) (len := 1) rfl (Or.inr rfl) rfl (⟨rfl, rfl⟩)
    · have q := qgeF q i S
      iterate 4 (refine kX_one rfl ?_)
      refine kX_cal (mf_hasDoneAll L xs d σ n R S A M base i g0 hRo hS4 hSr q hA hM hbm) rfl (Or.inr rfl) rfl rfl rfl (fun r1 σ1 q1 => ?_)
      obtain ⟨rfl, rfl⟩ := q1
      by_cases hh : cHd σ A base i
      · rw [isB_T hh]
        iterate 3 (refine kX_one rfl ?_)
        have := ih (i + 1) ⟨by omega, fun s hs => by
          by_cases e : s = i
          · subst e
            exact hh
          · exact i2 s (by omega)⟩ (by omega)
        rw [← nI_1] at this
        exact kX_lv _ rfl rfl rfl this
      · rw [isB_F hh, isB_F (fun z => hh (z i q))]
        repeat refine kX_one rfl ?_
        refine kX_ret (i := .ireturn) (len := 1) rfl (Or.inr rfl) rfl (⟨rfl, rfl⟩)
  unfold kXM
  iterate 2 (refine kX_one rfl ?_)
  exact kX_lv _ rfl rfl rfl (loop 0 ⟨Nat.zero_le _, fun s hs => absurd hs (Nat.not_lt_zero s)⟩)
set_option maxRecDepth 100000 in
set_option maxHeartbeats 4000000 in
theorem mf_hasSecrets (L : Nat) (xs : Nat → Int32) (d : Nat) (σ : kS) (C : Nat) (hC : cCl σ C) : kXM kT L xs (d + 1) 23 [.ref 13] σ (fun q σ' => q = some (.int (isB (∃ c, c < C ∧ σ (163 + 3 * c) 0 ≠ 0))) ∧ σ = σ') := by
  obtain ⟨hC6, hCc, -⟩ := hC
  have loop : ∀ q : Nat, (q ≤ C ∧ ∀ c, c < q → σ (163 + 3 * c) 0 = 0) → kX kT L xs (d + 1) 23 2 [(1, .int (nI q)), (0, .ref 13)] [] σ (fun q σ' => q = some (.int (isB (∃ c, c < C ∧ σ (163 + 3 * c) 0 ≠ 0))) ∧ σ = σ') := by
    refine kX_while (fun q => [(1, .int (nI q)), (0, .ref 13)]) (fun _ => σ) _ (fun q => C - q) ?_
    intro i ⟨i1, i2⟩ ih
    iterate 3 (refine kX_one rfl ?_)
    refine kX_top (hCc) ?_
    repeat refine kX_one rfl ?_
    refine kX_if (fun q => ?_) (fun q => ?_)
    · have q := qge q i C
      rw [isB_F (fun ⟨c, c1, c2⟩ => c2 (i2 c (by omega)))]
      repeat refine kX_one rfl ?_
      refine kX_ret (i := .ireturn) (len := 1) rfl (Or.inr rfl) rfl (⟨rfl, rfl⟩)
    · have q := qgeF q i C
      have hi6 : i < 6 := by omega
      iterate 3 (refine kX_one rfl ?_)
      refine kX_aaldN rfl (rfl) (by decide) (by decide) (by decide) (i) (by first | rfl | decide) (hi6) (cl_at hi6) ?_
      refine kX_getN rfl rfl (kT_cl hi6) rfl ?_
      repeat refine kX_one rfl ?_
      refine kX_if (fun q2 => ?_) (fun q2 => ?_)
      · have q2 := qeq q2
        iterate 2 (refine kX_one rfl ?_)
        have := ih (i + 1) ⟨by omega, fun c hc => by
          by_cases e : c = i
          · subst e
            exact q2
          · exact i2 c (by omega)⟩ (by omega)
        rw [← nI_1] at this
        exact kX_lv _ rfl rfl rfl this
      · have q2 := qeqF q2
        rw [isB_T ⟨i, q, q2⟩]
        repeat refine kX_one rfl ?_
        refine kX_ret (i := .ireturn) (len := 1) rfl (Or.inr rfl) rfl (⟨rfl, rfl⟩)
  unfold kXM
  iterate 2 (refine kX_one rfl ?_)
  exact kX_lv _ rfl rfl rfl (loop 0 ⟨Nat.zero_le _, fun c hc => absurd hc (Nat.not_lt_zero c)⟩)
set_option maxRecDepth 100000 in
set_option maxHeartbeats 4000000 in
theorem mf_tracePath (L : Nat) (xs : Nat → Int32) (d : Nat) (τ : kS) (N l D : Nat) (hN : N ≤ 600) (hl : l < N) (hp : ∀ i, 0 < i → i < N → ∃ j, j < i ∧ τ 198 i = nI j) (hD : D ≤ 24) (hD1 : ∀ j, j < D → 0 < tpI (τ 198) l j) (hD2 : tpI (τ 198) l D = 0) : kXM kT L xs (d + 1) 85 [.ref 195, .int (nI l)] τ (fun r ω => r = none ∧ (∀ c, c ≠ 195 → c ≠ 203 → ω c = τ c) ∧ (∀ j, j ≠ 9 → ω 195 j = τ 195 j) ∧ ω 195 9 = nI D ∧ ∀ k, k < D → ω 203 k = τ 199 (tpI (τ 198) l (D - 1 - k))) := by
  have hlt : ∀ j, j ≤ D → tpI (τ 198) l j < N := by
    intro j
    induction j with
    | zero => intro _; exact hl
    | succ j ih =>
      intro hj
      obtain ⟨j', y1, y2⟩ := hp _ (hD1 j (by omega)) (ih (by omega))
      have := ih (by omega)
      show fN (τ 198 (tpI (τ 198) l j)) < N
      rw [y2, fN_nI (by omega)]
      omega
  have k30 : ∀ lv, nk lv = true → ([(0, .ref 195), (1, .int (nI l)), (2, .int (nI D))] : jL).map (fun q => jl lv q.1) = ([(0, .ref 195), (1, .int (nI l)), (2, Value.int (nI D))] : jL).map (fun q => some q.2) → kX kT L xs (d + 1) 85 30 lv [] τ (fun r ω => r = none ∧ (∀ c, c ≠ 195 → c ≠ 203 → ω c = τ c) ∧ (∀ j, j ≠ 9 → ω 195 j = τ 195 j) ∧ ω 195 9 = nI D ∧ ∀ k, k < D → ω 203 k = τ 199 (tpI (τ 198) l (D - 1 - k))) := by
    intro lv hk hlv
    refine kX_lv _ hk rfl hlv ?_
    have loop : ∀ q : Nat × (Nat → Int32), (q.1 ≤ D ∧ ∀ j, q.1 ≤ j → j < D → q.2 j = τ 199 (tpI (τ 198) l (D - 1 - j))) → kX kT L xs (d + 1) 85 42 [(4, .int (pv q.1)), (3, .int (nI (tpI (τ 198) l (D - q.1)))), (0, .ref 195)] [] (va_up (va_up τ 195 (upd (τ 195) 9 (nI D))) 203 q.2) (fun r ω => r = none ∧ (∀ c, c ≠ 195 → c ≠ 203 → ω c = τ c) ∧ (∀ j, j ≠ 9 → ω 195 j = τ 195 j) ∧ ω 195 9 = nI D ∧ ∀ k, k < D → ω 203 k = τ 199 (tpI (τ 198) l (D - 1 - k))) := by
      refine kX_while (fun q : Nat × (Nat → Int32) => [(4, .int (pv q.1)), (3, .int (nI (tpI (τ 198) l (D - q.1)))), (0, .ref 195)]) (fun q => va_up (va_up τ 195 (upd (τ 195) 9 (nI D))) 203 q.2) _ (fun q => q.1) ?_
      rintro ⟨q, A⟩ ⟨j1, j2⟩ ih
      dsimp only at j1 j2 ih ⊢
      cases q with
      | zero =>
        show kX kT L xs (d + 1) 85 42 [(4, .int (-1)), (3, .int (nI (tpI (τ 198) l (D - 0)))), (0, .ref 195)] [] _ _
        iterate 2 (refine kX_one rfl ?_)
        refine kX_ret (i := .return_) (len := 1) rfl (Or.inr rfl) rfl (⟨rfl, fun c c1 c2 => by rw [up_ne c2, up_ne c1], fun j hj => pk_un hj, rfl, fun k hk => j2 k (Nat.zero_le _) hk⟩)
      | succ k =>
        show kX kT L xs (d + 1) 85 42 [(4, .int (nI k)), (3, .int (nI (tpI (τ 198) l (D - (k + 1))))), (0, .ref 195)] [] _ _
        have s1 := hD1 (D - (k + 1)) (by omega)
        have s2 := hlt (D - (k + 1)) (by omega)
        have hnx : tpI (τ 198) l (D - k) = fN (τ 198 (tpI (τ 198) l (D - (k + 1)))) := by
          rw [show D - k = D - (k + 1) + 1 by omega]
          rfl
        have e1 : D - 1 - k = D - (k + 1) := by omega
        have hmv : τ 199 (tpI (τ 198) l (D - 1 - k)) = τ 199 (tpI (τ 198) l (D - (k + 1))) := by rw [e1]
        generalize tpI (τ 198) l (D - (k + 1)) = s at *
        obtain ⟨j, y1, y2⟩ := hp s s1 s2
        have hj : tpI (τ 198) l (D - k) = j := by
          rw [hnx, y2]
          exact fN_nI (by omega)
        repeat refine kX_one rfl ?_
        refine kX_ifF (decide_eq_false (nI_pos (by omega))) ?_
        iterate 7 (refine kX_one rfl ?_)
        refine kX_ialdN rfl rfl (by decide) (s) (by first | rfl | decide) (by omega) ?_
        refine kX_iastN rfl rfl (by decide) (k) (by first | rfl | decide) (by omega) ?_
        iterate 4 (refine kX_one rfl ?_)
        refine kX_ialdV rfl rfl (by decide) (s) (by first | rfl | decide) (by omega) (y2) ?_
        iterate 3 (refine kX_one rfl ?_)
        have := ih (k, upd A k (τ 199 s)) ⟨by simp only; omega, fun j' a b => by
          simp only
          by_cases e : j' = k
          · subst e
            rw [pk_us, hmv]
          · rw [pk_un e]
            exact j2 j' (by simp only at a; omega) b⟩ (by simp only; omega)
        dsimp only at this
        rw [pv_dec, hj] at this
        refine kX_to _ _ rfl rfl rfl ?_ this
        funext c; unfold  va_up; repeat' split
        all_goals first | rfl | omega | (subst_vars; rfl) | (funext j; unfold upd; repeat' split; all_goals first | rfl | omega | (subst_vars; rfl))
    iterate 8 (refine kX_one rfl ?_)
    refine kX_top (y := pv D) (pv_sub D) ?_
    iterate 1 (refine kX_one rfl ?_)
    have := loop (D, τ 203) ⟨Nat.le_refl _, fun j a b => by simp only at a; omega⟩
    dsimp only at this
    rw [Nat.sub_self] at this
    refine kX_to _ _ rfl rfl rfl ?_ this
    funext c; unfold  va_up; repeat' split
    all_goals first | rfl | omega | (subst_vars; rfl) | (funext j; unfold upd; repeat' split; all_goals first | rfl | omega | (subst_vars; rfl))
  have loop : ∀ q : Nat, q ≤ D → kX kT L xs (d + 1) 85 4 [(2, .int (nI q)), (3, .int (nI (tpI (τ 198) l q))), (0, .ref 195), (1, .int (nI l))] [] τ (fun r ω => r = none ∧ (∀ c, c ≠ 195 → c ≠ 203 → ω c = τ c) ∧ (∀ j, j ≠ 9 → ω 195 j = τ 195 j) ∧ ω 195 9 = nI D ∧ ∀ k, k < D → ω 203 k = τ 199 (tpI (τ 198) l (D - 1 - k))) := by
    refine kX_while (fun q => [(2, .int (nI q)), (3, .int (nI (tpI (τ 198) l q))), (0, .ref 195), (1, .int (nI l))]) (fun _ => τ) _ (fun q => 24 - q) ?_
    intro i i1 ih
    have i2 := hlt i i1
    repeat refine kX_one rfl ?_
    refine kX_if (fun q => ?_) (fun q => ?_)
    · have q := qle q (tpI (τ 198) l i) 0
      have hiD : i = D := by
        refine Classical.byContradiction (fun e => ?_)
        have := hD1 i (by omega)
        omega
      subst hiD
      exact k30 _ rfl rfl
    · have q := qleF q (tpI (τ 198) l i) 0
      have hiD : i < D := by
        refine Classical.byContradiction (fun e => ?_)
        have : i = D := by omega
        rw [this, hD2] at q
        omega
      repeat refine kX_one rfl ?_
      refine kX_if (fun q2 => ?_) (fun q2 => ?_)
      · have q2 := qge q2 i 24
        omega
      · obtain ⟨j, y1, y2⟩ := hp _ q i2
        have hj : tpI (τ 198) l (i + 1) = j := by
          show fN (τ 198 (tpI (τ 198) l i)) = j
          rw [y2]
          exact fN_nI (by omega)
        iterate 5 (refine kX_one rfl ?_)
        refine kX_ialdV rfl rfl (by decide) (tpI (τ 198) l i) (by first | rfl | decide) (by omega) (y2) ?_
        iterate 2 (refine kX_one rfl ?_)
        have := ih (i + 1) hiD (by omega)
        rw [hj, ← nI_1] at this
        exact kX_lv _ rfl rfl rfl this
  unfold kXM
  iterate 4 (refine kX_one rfl ?_)
  exact kX_lv _ rfl rfl rfl (loop 0 (Nat.zero_le _))
end
section
/-! alike: reach -/
/-- the first that breaks: 1 + c, or 0 -/
noncomputable def fsB (P : Nat → Prop) : Nat → Nat → Int32
  | 0, _ => 0
  | m + 1, c => cit (P c) (nI (1 + c)) (fsB P m (c + 1))
theorem fsB_no {P : Nat → Prop} : ∀ m i, (∀ c, i ≤ c → c < i + m → ¬ P c) → fsB P m i = 0
  | 0, _, _ => rfl
  | m + 1, i, h => by
    have e : fsB P (m + 1) i = cit (P i) (nI (1 + i)) (fsB P m (i + 1)) := rfl
    rw [e, cit_F (h i (Nat.le_refl _) (by omega)), fsB_no m (i + 1) (fun c c1 c2 => h c (by omega) (by omega))]
theorem fsB_at {P : Nat → Prop} {j : Nat} (hj : P j) : ∀ m i, i ≤ j → j < i + m → (∀ c, i ≤ c → c < j → ¬ P c) → fsB P m i = nI (1 + j)
  | 0, i, h1, h2, _ => by omega
  | m + 1, i, h1, h2, h => by
    have e : fsB P (m + 1) i = cit (P i) (nI (1 + i)) (fsB P m (i + 1)) := rfl
    by_cases q : i = j
    · subst q
      rw [e, cit_T hj]
    · rw [e, cit_F (h i (Nat.le_refl _) (by omega)), fsB_at hj m (i + 1) (by omega) (by omega) (fun c c1 c2 => h c (by omega) c2)]
theorem fsB_congr {P Q : Nat → Prop} : ∀ m i, (∀ c, i ≤ c → c < i + m → (P c ↔ Q c)) → fsB P m i = fsB Q m i
  | 0, _, _ => rfl
  | m + 1, i, h => by
    unfold fsB
    rw [cit_iff (h i (Nat.le_refl _) (by omega)), fsB_congr m (i + 1) (fun c c1 c2 => h c (by omega) (by omega))]
/-- what reach leaves alone -/
def reF (τ ω : kS) (K : Nat) : Prop := ∀ c, c < 195 ∨ c = 202 ∨ 204 ≤ c → c ≠ K + 6 → ω c = τ c
theorem cBk_c {τ ω : kS} {n R S C K st c : Nat} {l : rwT} (hB : cB τ n R S C) (hK : isK K st) (h : reF τ ω K) (hc : c < C) : cBk ω 202 0 c n S l ↔ cBk τ 202 0 c n S l := by
  have hb := isK_b hK
  have hC6 := hB.2.2.1
  have hR4 := hB.1.1
  have e : ∀ c, c < 181 → ω c = τ c := fun c hc => h c (by omega) (by omega)
  have e2 : ω 202 = τ 202 := h 202 (by omega) (by rcases hK with z | z | z <;> omega)
  have e3 : ∀ c, 232 ≤ c → ω c = τ c := fun c hc => h c (by omega) (by omega)
  unfold cBk
  rw [e (163 + 3 * c) (by omega)]
  refine or_congr (and_congr_right (fun _ => exists_congr (fun s => and_congr_right (fun hs => ?_)))) (and_congr_right (fun _ => not_congr (cPn_congr (fun s hs => ?_) (fun s p hs hp _ => ?_))))
  · unfold cLs kMk kIn kTv mA
    rw [e (163 + 3 * c) (by omega), e 15 (by decide), e 16 (by decide), e2, e 2 (by decide), e 3 (by decide), e 4 (by decide), e3 233 (by decide), e3 238 (by decide)]
  · obtain ⟨r, r1, r2⟩ := hB.2.1.2.2 s hs
    unfold cWn cHd
    rw [e (163 + 3 * c) (by omega), e 15 (by decide), e 16 (by decide), e2, r2, fN_nI (by omega), e (23 + 35 * r) (by omega)]
  · unfold cFt
    rw [e (163 + 3 * c) (by omega), e (164 + 3 * c) (by omega), e (165 + 3 * c) (by omega), e 15 (by decide), e2]
theorem iE_far {σ τ : kS} {K st n u m : Nat} {l : rwT} (hK : 204 ≤ K) (hl : ∀ c, c < 195 ∨ 204 ≤ c → τ c = σ c) (h0 : iE σ K st n u m l) : iE τ K st n u m l := by
  unfold iE aT1 kTb kAG cpt kMs kRw kMk kIn kTv mA kDp kQf at h0 ⊢
  simp only [hl 1 (by omega), hl 2 (by decide), hl 3 (by decide), hl 4 (by decide), hl 5 (by decide), hl 8 (by decide), hl 9 (by decide), hl 10 (by decide), hl 11 (by decide), hl 12 (by decide), hl 6 (by decide), hl 233 (by decide), hl 234 (by decide), hl 235 (by decide), hl 236 (by decide), hl 237 (by decide), hl 238 (by decide), hl 239 (by decide), hl 240 (by decide), hl 241 (by decide), hl K (by omega), hl (K + 1) (by omega), hl (K + 2) (by omega), hl (K + 3) (by omega), hl (K + 4) (by omega), hl (K + 5) (by omega), hl (K + 6) (by omega), hl (K + 7) (by omega)]
  exact h0
/-- the draft is added -/
def reA (τ ω : kS) (wd N : Nat) (f s : Int32) : Prop := ω 197 = va_cpy (τ 202) (τ 197) 0 (28 * N) 28 ∧ ω 198 = upd (τ 198) N f ∧ ω 199 = upd (τ 199) N s ∧ sWi ω wd (N + 1)
set_option maxRecDepth 100000 in
set_option maxHeartbeats 4000000 in
theorem mf_reach (L : Nat) (xs : Nat → Int32) (d : Nat) (τ : kS) (n R S C N K st u m D fin : Nat) (l : rwT) (f s : Int32) (hB : cB τ n R S C) (hK : (K = 204 ∧ st = 776) ∨ (K = 213 ∧ st = 1352)) (hE : iE τ K st n u m l) (hwd : τ 195 6 = nI (7 * S)) (hW : sWi τ (7 * S) N) (han : τ 195 12 = 0) (hfi : τ 195 11 = nI fin) (hV : ∀ s k, s < S → k < 6 → τ 202 (0 + 7 * s + 1 + k) = -1 ∨ ∃ z, z < n ∧ τ 202 (0 + 7 * s + 1 + k) = nI z ∧ kGd τ z)
    (hp : ∀ i, 0 < i → i < N + 1 → ∃ j, j < i ∧ upd (τ 198) N f i = nI j) (hD : D ≤ 24) (hD1 : ∀ j, j < D → 0 < tpI (upd (τ 198) N f) N j) (hD2 : tpI (upd (τ 198) N f) N D = 0) : kXM kT L xs (d + 55) 84 [.ref 195, .int f, .int s, .ref K] τ (fun r ω => r = none ∧ ((N = 600 ∧ ω = va_up τ 195 (upd (τ 195) 12 (-7))) ∨ (N < 600 ∧ reF τ ω K ∧ iE ω K st n u m l ∧ reA τ ω (7 * S) N f s ∧ (∀ j, j ≠ 12 → j ≠ 11 → j ≠ 9 → ω 195 j = τ 195 j) ∧ ω 195 11 = nI (fin + cit (∀ s, s < S → cHd τ 202 0 s) 1 0) ∧ ω 195 12 = fsB (fun c => cBk τ 202 0 c n S l) C 0 ∧ (ω 195 12 = 0 → ω 195 9 = τ 195 9) ∧ (ω 195 12 ≠ 0 → ω 195 9 = nI D ∧ ∀ k, k < D → ω 203 k = upd (τ 199) N s (tpI (upd (τ 198) N f) N (D - 1 - k)))))) := by
  have hK' : isK K st := Or.inr hK
  have hKb := isK_b hK'
  have hK6 : K + 6 = 210 ∨ K + 6 = 219 := by rcases hK with z | z <;> omega
  have hC6 := hB.2.2.1
  have hS4 := hB.2.1.1
  have hN6 := hW.1
  unfold kXM
  iterate 3 (refine kX_one rfl ?_)
  refine kX_top (hW.2.1) ?_
  repeat refine kX_one rfl ?_
  refine kX_if (fun q => ?_) (fun q => ?_)
  · have q := qlt q N 600
    iterate 6 (refine kX_one rfl ?_)
    refine kX_top (hwd) ?_
    iterate 2 (refine kX_one rfl ?_)
    refine kX_cal (mf_stAdd L xs (d + 52) τ f s (7 * S) N (by omega) q hW) rfl (Or.inr rfl) rfl rfl rfl (fun r1 τ1 q1 => ?_)
    obtain ⟨rfl, hA, hW1⟩ := q1
    have e1 : ∀ c, c < 196 ∨ 202 ≤ c → τ1 c = τ c := hA.1
    have hB1 : cB τ1 n R S C := cB_eq (fun c c1 c2 => e1 c (by omega)) hB
    have hcd : ∀ s, s < S → (cHd τ1 202 0 s ↔ cHd τ 202 0 s) := fun s hs => by
      obtain ⟨r, r1, r2⟩ := hB.2.1.2.2 s hs
      have := hB.1.1
      unfold cHd
      rw [e1 15 (by decide), e1 202 (by decide), r2, fN_nI (by omega), e1 (23 + 35 * r) (by omega)]
    have hall : (∀ s, s < S → cHd τ1 202 0 s) ↔ (∀ s, s < S → cHd τ 202 0 s) := ⟨fun z s hs => (hcd s hs).mp (z s hs), fun z s hs => (hcd s hs).mpr (z s hs)⟩
    have go : ∀ π0 : kS, (∀ c, c ≠ 195 → π0 c = τ1 c) → (∀ j, j ≠ 11 → π0 195 j = τ 195 j) → π0 195 11 = nI (fin + cit (∀ s, s < S → cHd τ 202 0 s) 1 0) → ∀ lv, nk lv = true → ([(0, .ref 195), (3, .ref K)] : jL).map (fun q => jl lv q.1) = ([(0, Value.ref 195), (3, .ref K)] : jL).map (fun q => some q.2) → kX kT L xs (d + 55) 84 62 lv [] π0 (fun r ω => r = none ∧ ((N = 600 ∧ ω = va_up τ 195 (upd (τ 195) 12 (-7))) ∨ (N < 600 ∧ reF τ ω K ∧ iE ω K st n u m l ∧ reA τ ω (7 * S) N f s ∧ (∀ j, j ≠ 12 → j ≠ 11 → j ≠ 9 → ω 195 j = τ 195 j) ∧ ω 195 11 = nI (fin + cit (∀ s, s < S → cHd τ 202 0 s) 1 0) ∧ ω 195 12 = fsB (fun c => cBk τ 202 0 c n S l) C 0 ∧ (ω 195 12 = 0 → ω 195 9 = τ 195 9) ∧ (ω 195 12 ≠ 0 → ω 195 9 = nI D ∧ ∀ k, k < D → ω 203 k = upd (τ 199) N s (tpI (upd (τ 198) N f) N (D - 1 - k)))))) := by
      intro π0 g1 g2 g3 lv hk hlv
      refine kX_lv _ hk rfl hlv ?_
      have eπ : ∀ c, c < 195 ∨ 202 ≤ c → π0 c = τ c := fun c hc => (g1 c (by omega)).trans (e1 c (by omega))
      have hE0 : iE π0 K st n u m l := iE_far (by omega) (fun c hc => eπ c (by omega)) hE
      have hWc : ∀ c, 196 ≤ c → c < 202 → π0 c = τ1 c := fun c c1 c2 => g1 c (by omega)
      have hre : ∀ ω : kS, (∀ c, c ≠ 195 → c ≠ 203 → c ≠ K + 6 → ω c = π0 c) → reF τ ω K ∧ reA τ ω (7 * S) N f s := fun ω ho => by
        refine ⟨fun c c1 c2 => (ho c (by omega) (by omega) c2).trans (eπ c (by omega)), ?_, ?_, ?_, ?_⟩
        · rw [ho _ (by decide) (by decide) (by omega), hWc _ (by decide) (by decide)]
          exact hA.2.1
        · rw [ho _ (by decide) (by decide) (by omega), hWc _ (by decide) (by decide)]
          exact hA.2.2.1
        · rw [ho _ (by decide) (by decide) (by omega), hWc _ (by decide) (by decide)]
          exact hA.2.2.2.1
        · unfold sWi at hW1 ⊢
          rw [ho 196 (by decide) (by decide) (by omega), ho 197 (by decide) (by decide) (by omega), ho 201 (by decide) (by decide) (by omega), ho 200 (by decide) (by decide) (by omega), hWc 196 (by decide) (by decide), hWc 197 (by decide) (by decide), hWc 201 (by decide) (by decide), hWc 200 (by decide) (by decide)]
          exact hW1
      have loop : ∀ q : Nat × (Nat → Int32), (q.1 ≤ C ∧ iE (va_up π0 (K + 6) q.2) K st n u m l ∧ ∀ c, c < q.1 → ¬ cBk τ 202 0 c n S l) → kX kT L xs (d + 55) 84 65 [(4, .int (nI q.1)), (0, .ref 195), (3, .ref K)] [] (va_up π0 (K + 6) q.2) (fun r ω => r = none ∧ ((N = 600 ∧ ω = va_up τ 195 (upd (τ 195) 12 (-7))) ∨ (N < 600 ∧ reF τ ω K ∧ iE ω K st n u m l ∧ reA τ ω (7 * S) N f s ∧ (∀ j, j ≠ 12 → j ≠ 11 → j ≠ 9 → ω 195 j = τ 195 j) ∧ ω 195 11 = nI (fin + cit (∀ s, s < S → cHd τ 202 0 s) 1 0) ∧ ω 195 12 = fsB (fun c => cBk τ 202 0 c n S l) C 0 ∧ (ω 195 12 = 0 → ω 195 9 = τ 195 9) ∧ (ω 195 12 ≠ 0 → ω 195 9 = nI D ∧ ∀ k, k < D → ω 203 k = upd (τ 199) N s (tpI (upd (τ 198) N f) N (D - 1 - k)))))) := by
        refine kX_while (fun q : Nat × (Nat → Int32) => [(4, .int (nI q.1)), (0, .ref 195), (3, .ref K)]) (fun q => va_up π0 (K + 6) q.2) _ (fun q => C - q.1) ?_
        rintro ⟨i, M⟩ ⟨i1, i2, i3⟩ ih
        dsimp only at i1 i2 i3 ih ⊢
        have hM195 : va_up π0 (K + 6) M 195 = π0 195 := up_ne (by omega)
        obtain ⟨hreF, hreA⟩ := hre (va_up π0 (K + 6) M) (fun c _ _ c3 => up_ne c3)
        have hBω : cB (va_up π0 (K + 6) M) n R S C := cB_eq (fun c c1 c2 => hreF c (by omega) (by omega)) hB
        have han0 : va_up π0 (K + 6) M 195 12 = 0 := by rw [hM195, g2 _ (by decide)]; exact han
        iterate 4 (refine kX_one rfl ?_)
        refine kX_top (y := nI C) hBω.2.2.2.1 ?_
        repeat refine kX_one rfl ?_
        refine kX_if (fun q => ?_) (fun q => ?_)
        · have q := qge q i C
          have hfs : fsB (fun c => cBk τ 202 0 c n S l) C 0 = 0 := fsB_no C 0 (fun c _ c2 => i3 c (by omega))
          refine kX_ret (i := .return_) (len := 1) rfl (Or.inr rfl) rfl ⟨rfl, Or.inr ⟨by assumption, hreF, i2, hreA, fun j j1 j2 _ => by rw [hM195]; exact g2 j j2, by rw [hM195]; exact g3, by rw [han0, hfs], fun _ => by rw [hM195]; exact g2 _ (by decide), fun z => absurd han0 z⟩⟩
        · have q := qgeF q i C
          iterate 2 (refine kX_one rfl ?_)
          refine kX_top (y := 0) han0 ?_
          iterate 1 (refine kX_one rfl ?_)
          have hV1 : ∀ s k, s < S → k < 6 → va_up π0 (K + 6) M 202 (0 + 7 * s + 1 + k) = -1 ∨ ∃ z, z < n ∧ va_up π0 (K + 6) M 202 (0 + 7 * s + 1 + k) = nI z ∧ kGd (va_up π0 (K + 6) M) z := by
            unfold kGd
            rw [hreF 202 (by omega) (by omega), hreF 2 (by decide) (by omega), hreF 3 (by decide) (by omega), hreF 4 (by decide) (by omega)]
            exact hV
          iterate 7 (refine kX_one rfl ?_)
          refine kX_cal (mf_breaks L xs d (va_up π0 (K + 6) M) n R S C 202 28 0 i K st u m l (fun _ => 0) hBω q rfl (by decide) (by decide) (by omega) i2 hV1) rfl (Or.inr rfl) rfl rfl rfl (fun r1 ρ q1 => ?_)
          obtain ⟨rfl, M', rfl, hE3⟩ := q1
          rw [kup_up] at hE3 ⊢
          rw [isB_iff (cBk_c hB hK' hreF q)]
          by_cases hbk : cBk τ 202 0 i n S l
          · rw [isB_T hbk]
            have hfs : fsB (fun c => cBk τ 202 0 c n S l) C 0 = nI (1 + i) := fsB_at hbk C 0 (Nat.zero_le _) (by omega) (fun c _ c2 => i3 c c2)
            have hρ195 : va_up π0 (K + 6) M' 195 = π0 195 := up_ne (by omega)
            have hρo : ∀ c, c ≠ K + 6 → va_up π0 (K + 6) M' c = π0 c := fun c hc => up_ne hc
            generalize va_up π0 (K + 6) M' = ρ at hE3 hρ195 hρo ⊢
            iterate 6 (refine kX_one rfl ?_)
            refine kX_st (va_up ρ 195 (upd (ρ 195) 12 (nI (1 + i)))) (by rw [← nI_add]; rfl) ?_
            have x195 : va_up ρ 195 (upd (ρ 195) 12 (nI (1 + i))) 195 = upd (π0 195) 12 (nI (1 + i)) := by rw [up_eq, hρ195]
            have xo : ∀ c, c ≠ 195 → c ≠ K + 6 → va_up ρ 195 (upd (ρ 195) 12 (nI (1 + i))) c = π0 c := fun c c1 c2 => (up_ne c1).trans (hρo c c2)
            have xE : iE (va_up ρ 195 (upd (ρ 195) 12 (nI (1 + i)))) K st n u m l := iE_far (by omega) (fun c hc => up_ne (by omega)) hE3
            generalize va_up ρ 195 (upd (ρ 195) 12 (nI (1 + i))) = κ at x195 xo xE ⊢
            have ePar : κ 198 = upd (τ 198) N f := by
              rw [xo _ (by decide) (by omega), hWc _ (by decide) (by decide)]
              exact hA.2.2.1
            have eMov : κ 199 = upd (τ 199) N s := by
              rw [xo _ (by decide) (by omega), hWc _ (by decide) (by decide)]
              exact hA.2.2.2.1
            have eCnt : κ 196 5 = nI (N + 1) := by
              rw [xo 196 (by decide) (by omega), hWc 196 (by decide) (by decide)]
              exact hW1.2.1
            iterate 4 (refine kX_one rfl ?_)
            refine kX_top (eCnt) ?_
            iterate 2 (refine kX_one rfl ?_)
            refine kX_top (y := nI N) (nI_pred N) ?_
            refine kX_cal (mf_tracePath L xs (d + 53) κ (N + 1) N D (by omega) (by omega) (by rw [ePar]; exact hp) hD (by rw [ePar]; exact hD1) (by rw [ePar]; exact hD2)) rfl (Or.inr rfl) rfl rfl rfl (fun r1 ω q1 => ?_)
            obtain ⟨rfl, t1, t2, t3, t4⟩ := q1
            rw [ePar, eMov] at t4
            obtain ⟨yF, yA⟩ := hre ω (fun c c1 c2 c3 => (t1 c c1 c2).trans (xo c c1 c3))
            have yE : iE ω K st n u m l := iE_far (by omega) (fun c hc => t1 c (by omega) (by omega)) xE
            have yan : ω 195 12 = nI (1 + i) := by rw [t2 _ (by decide), x195, pk_us]
            have yne : ω 195 12 ≠ 0 := by
              rw [yan]
              exact nI_ne0 (by omega) (by omega)
            have yfi : ω 195 11 = nI (fin + cit (∀ s, s < S → cHd τ 202 0 s) 1 0) := by
              rw [t2 _ (by decide), x195, pk_un (by decide)]
              exact g3
            have yo : ∀ j, j ≠ 12 → j ≠ 11 → j ≠ 9 → ω 195 j = τ 195 j := fun j j1 j2 j3 => by
              rw [t2 j j3, x195, pk_un j1]
              exact g2 j j2
            have yC : ω 13 8 = nI C := by
              rw [yF 13 (by decide) (by omega)]
              exact hB.2.2.2.1
            iterate 6 (refine kX_one rfl ?_)
            refine kX_top (y := nI C) yC ?_
            repeat refine kX_one rfl ?_
            refine kX_if (fun q6 => ?_) (fun q6 => ?_)
            · refine kX_ret (i := .return_) (len := 1) rfl (Or.inr rfl) rfl ⟨rfl, Or.inr ⟨by assumption, yF, yE, yA, yo, yfi, by rw [yan, hfs], fun z => absurd z yne, fun _ => ⟨t3, t4⟩⟩⟩
            · repeat refine kX_one rfl ?_
              refine kX_ifT (decide_eq_true yne) ?_
              refine kX_ret (i := .return_) (len := 1) rfl (Or.inr rfl) rfl ⟨rfl, Or.inr ⟨by assumption, yF, yE, yA, yo, yfi, by rw [yan, hfs], fun z => absurd z yne, fun _ => ⟨t3, t4⟩⟩⟩
          · rw [isB_F hbk]
            iterate 3 (refine kX_one rfl ?_)
            have := ih (i + 1, M') ⟨q, hE3, fun c hc => by
              by_cases e : c = i
              · subst e
                exact hbk
              · exact i3 c (by simp only at hc; omega)⟩ (by simp only; omega)
            dsimp only at this
            rw [← nI_1] at this
            exact kX_lv _ rfl rfl rfl this
      iterate 2 (refine kX_one rfl ?_)
      have := loop (0, π0 (K + 6)) ⟨Nat.zero_le _, by simp only; rw [kup_self]; exact hE0, fun c hc => absurd hc (Nat.not_lt_zero c)⟩
      dsimp only at this
      rw [kup_self] at this
      exact kX_lv _ rfl rfl rfl this
    iterate 5 (refine kX_one rfl ?_)
    refine kX_cal (mf_allDone L xs (d + 51) τ1 n R S C 202 28 0 (fun _ => 0) hB1 rfl (by decide) (by decide)) rfl (Or.inr rfl) rfl rfl rfl (fun r1 σ1 q1 => ?_)
    obtain ⟨rfl, rfl⟩ := q1
    rw [isB_iff hall]
    by_cases hd : ∀ s, s < S → cHd τ 202 0 s
    · rw [isB_T hd]
      iterate 7 (refine kX_one rfl ?_)
      refine go _ (fun c hc => up_ne hc) (fun j hj => ?_) ?_ _ rfl rfl
      · rw [up_eq, pk_un hj, e1 195 (by decide)]
      · rw [up_eq, pk_us, e1 195 (by decide), hfi, cit_T hd]
        exact nI_1 fin
    · rw [isB_F hd]
      iterate 1 (refine kX_one rfl ?_)
      refine go _ (fun c _ => rfl) (fun j _ => by rw [e1 195 (by decide)]) ?_ _ rfl rfl
      rw [e1 195 (by decide), hfi, cit_F hd, Nat.add_zero]
  · have q := qltF q N 600
    have hN : N = 600 := by omega
    iterate 3 (refine kX_one rfl ?_)
    refine kX_ret (i := .return_) (len := 1) rfl (Or.inr rfl) rfl ⟨rfl, Or.inl ⟨hN, rfl⟩⟩
end
