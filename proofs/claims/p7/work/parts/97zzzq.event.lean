/-! alike: event, what is bound -/
/-- VARIABLE x of the role r waits to be received -/
def wfr (σ : kS) (r v : Nat) (x : Int32) : Prop := ∃ k, k < v ∧ x = nI k ∧ σ (24 + 35 * r) k = 2 ∧ σ (26 + 35 * r) k = 0
set_option maxRecDepth 100000 in
set_option maxHeartbeats 4000000 in
theorem mf_waitsFor (L : Nat) (xs : Nat → Int32) (d : Nat) (σ : kS) (r v : Nat) (x : Int32) (hr : r < 4) (hv : v ≤ 6) (h : σ (23 + 35 * r) 3 = nI v) : kXM kT L xs (d + 2) 63 [.ref (23 + 35 * r), .int x] σ (fun q σ' => q = some (.int (isB (wfr σ r v x))) ∧ σ = σ') := by
  unfold kXM
  iterate 2 (refine kX_one rfl ?_)
  refine kX_cal (mc_roHas L xs d σ r v x hr hv h) rfl (Or.inr rfl) rfl (jcall_v rfl rfl rfl (kT_ro hr) rfl rfl) rfl (fun r1 σ1 q1 => ?_)
  obtain ⟨rfl, rfl⟩ := q1
  repeat refine kX_one rfl ?_
  refine kX_if (fun q => ?_) (fun q => ?_)
  · have q : ¬ isN x v := fun z => isB_ne.mpr z (qeq q)
    repeat refine kX_one rfl ?_
    refine kX_ret (i := .ireturn) (len := 1) rfl (Or.inr rfl) rfl (⟨rF (fun ⟨k, k1, k2, _⟩ => q ⟨k, k1, k2⟩), rfl⟩)
  · obtain ⟨k, k1, rfl⟩ := isB_ne.mp (qeqF q)
    iterate 1 (refine kX_one rfl ?_)
    refine kX_getN rfl rfl (kT_ro hr) rfl ?_
    iterate 1 (refine kX_one rfl ?_)
    refine kX_ialdN rfl (kT_ra hr) (by decide) (k) (by first | rfl | decide) (by omega) ?_
    iterate 1 (refine kX_one rfl ?_)
    repeat refine kX_one rfl ?_
    refine kX_if (fun q2 => ?_) (fun q2 => ?_)
    · have q2 : σ (24 + 35 * r) k ≠ 2 := qne q2
      repeat refine kX_one rfl ?_
      refine kX_ret (i := .ireturn) (len := 1) rfl (Or.inr rfl) rfl (⟨rF (fun ⟨k', k1', k2, k3, _⟩ => q2 (by rw [nI_inj k2]; exact k3)), rfl⟩)
    · have q2 : σ (24 + 35 * r) k = 2 := qneF q2
      iterate 1 (refine kX_one rfl ?_)
      refine kX_getN rfl rfl (kT_ro hr) rfl ?_
      iterate 1 (refine kX_one rfl ?_)
      refine kX_baldN rfl (kT_rr hr) (by decide) (k) (by first | rfl | decide) (by omega) ?_
      repeat refine kX_one rfl ?_
      refine kX_if (fun q3 => ?_) (fun q3 => ?_)
      · have q3 : σ (26 + 35 * r) k ≠ 0 := qne q3
        repeat refine kX_one rfl ?_
        refine kX_ret (i := .ireturn) (len := 1) rfl (Or.inr rfl) rfl (⟨rF (fun ⟨k', k1', k2, _, k3⟩ => q3 (by rw [nI_inj k2]; exact k3)), rfl⟩)
      · have q3 : σ (26 + 35 * r) k = 0 := qneF q3
        repeat refine kX_one rfl ?_
        refine kX_ret (i := .ireturn) (len := 1) rfl (Or.inr rfl) rfl (⟨rT ⟨k, k1, rfl, q2, q3⟩, rfl⟩)
/-- the VARIABLE u may stand in an EVENT of the role r -/
def okC (σ : kS) (r v : Nat) (b : Int32) (u : Nat) : Prop := σ 10 u = nI r ∧ (b ≠ 0 → ¬ wfr σ r v (σ 12 u))
set_option maxRecDepth 100000 in
set_option maxHeartbeats 4000000 in
theorem mf_mayBeEvent (L : Nat) (xs : Nat → Int32) (d : Nat) (σ : kS) (n b0 R r t v : Nat) (b : Int32) (h : cT σ n) (hI : mTb σ n b0) (hA : aT σ n) (hR : R ≤ 4) (hr : r < R) (ht : t < n) (hv : v ≤ 6) (hvc : σ (23 + 35 * r) 3 = nI v) : kXM kT L xs (d + 3) 8 [.ref 13, .int (nI r), .int b, .int (nI t)] σ (fun q σ' => q = some (.int (isB (∀ u ∈ tvs (σ 233) (σ 234) (σ 235) t, okC σ r v b u))) ∧ ∃ ST VS, σ' = lvU σ ST VS) := by
  have hn := h.1
  have hr4 : r < 4 := by omega
  unfold kXM
  iterate 2 (refine kX_one rfl ?_)
  refine kX_cal (mf_listVars L xs d σ n b0 t h hI hA ht) rfl (Or.inr rfl) rfl rfl rfl (fun r1 σ1 q1 => ?_)
  obtain ⟨ST, VS, rfl, rfl, hl, m1⟩ := q1
  have hlt : ∀ u ∈ tvs (σ 233) (σ 234) (σ 235) t, u < n := fun u hu => (tvs_mem (mTb_num hI) t ht u hu).1
  generalize hvl : tvs (σ 233) (σ 234) (σ 235) t = vl at *
  have hlv : ∀ e, e ≠ 20 → e ≠ 21 → lvU σ ST VS e = σ e := fun e x1 x2 => by
    unfold lvU
    rw [up_ne x2, up_ne x1]
  have hvc2 : lvU σ ST VS (23 + 35 * r) 3 = nI v := by
    rw [hlv _ (by omega) (by omega)]
    exact hvc
  have hwf : ∀ x, wfr (lvU σ ST VS) r v x ↔ wfr σ r v x := fun x => by
    unfold wfr
    rw [hlv (24 + 35 * r) (by omega) (by omega), hlv (26 + 35 * r) (by omega) (by omega)]
  have loop : ∀ i : Nat, (i ≤ vl.length ∧ ∀ j (hj : j < vl.length), j < i → okC σ r v b vl[j]) → kX kT L xs (d + 3) 8 10 [(5, .int (nI i)), (4, .int (nI vl.length)), (0, .ref 13), (1, .int (nI r)), (2, .int b), (3, .int (nI t))] [] (lvU σ ST VS) (fun q σ' => q = some (.int (isB (∀ u ∈ vl, okC σ r v b u))) ∧ ∃ ST VS, σ' = lvU σ ST VS) := by
    refine kX_while (fun i : Nat => [(5, .int (nI i)), (4, .int (nI vl.length)), (0, .ref 13), (1, .int (nI r)), (2, .int b), (3, .int (nI t))]) (fun _ => lvU σ ST VS) _ (fun i => vl.length - i) ?_
    rintro i ⟨hi, hok⟩ ih
    iterate 2 (refine kX_one rfl ?_)
    repeat refine kX_one rfl ?_
    refine kX_if (fun q => ?_) (fun q => ?_)
    · have q := qge q i vl.length
      have hall : ∀ u ∈ vl, okC σ r v b u := fun u hu => by
        obtain ⟨j, hj, rfl⟩ := List.mem_iff_getElem.mp hu
        exact hok j hj (by omega)
      repeat refine kX_one rfl ?_
      refine kX_ret (i := .ireturn) (len := 1) rfl (Or.inr rfl) rfl (⟨rT hall, ST, VS, rfl⟩)
    · have q := qgeF q i vl.length
      have u2 := hl i q
      have u1 := hlt vl[i] (List.getElem_mem q)
      have hmem := List.getElem_mem q
      generalize hu : vl[i] = u at u1 u2 hmem
      have k70 : okC σ r v b u → kX kT L xs (d + 3) 8 70 [(6, .int (nI u)), (5, .int (nI i)), (4, .int (nI vl.length)), (0, .ref 13), (1, .int (nI r)), (2, .int b), (3, .int (nI t))] [] (lvU σ ST VS) (fun q σ' => q = some (.int (isB (∀ u ∈ vl, okC σ r v b u))) ∧ ∃ ST VS, σ' = lvU σ ST VS) := by
        intro hk
        iterate 2 (refine kX_one rfl ?_)
        have := ih (i + 1) ⟨q, fun j hj hji => by
          by_cases e : j = i
          · subst e
            rw [hu]
            exact hk
          · exact hok j hj (by omega)⟩ (by omega)
        rw [← nI_1] at this
        exact kX_lv _ rfl rfl rfl this
      iterate 3 (refine kX_one rfl ?_)
      refine kX_ialdV rfl rfl (by decide) (i) (by first | rfl | decide) (by omega) (u2) ?_
      iterate 5 (refine kX_one rfl ?_)
      refine kX_ialdN rfl rfl (by decide) (u) (by first | rfl | decide) (by omega) ?_
      iterate 1 (refine kX_one rfl ?_)
      repeat refine kX_one rfl ?_
      refine kX_if (fun q2 => ?_) (fun q2 => ?_)
      · have q2 : σ 10 u = nI r := qeq q2
        iterate 1 (refine kX_one rfl ?_)
        repeat refine kX_one rfl ?_
        refine kX_if (fun q3 => ?_) (fun q3 => ?_)
        · exact k70 ⟨q2, fun z => absurd (qeq q3) z⟩
        · have q3 := qeqF q3
          iterate 3 (refine kX_one rfl ?_)
          refine kX_aaldN rfl (rfl) (by decide) (by decide) (by decide) (r) (by first | rfl | decide) (hr4) (ro_at hr4) ?_
          iterate 4 (refine kX_one rfl ?_)
          refine kX_ialdN rfl rfl (by decide) (u) (by first | rfl | decide) (by omega) ?_
          refine kX_cal (mf_waitsFor L xs d (lvU σ ST VS) r v _ hr4 hv hvc2) rfl (Or.inr rfl) rfl (jcall_v rfl rfl rfl (kT_ro hr4) rfl rfl) rfl (fun r1 σ1 q1 => ?_)
          obtain ⟨rfl, rfl⟩ := q1
          rw [propext (hwf _)]
          repeat refine kX_one rfl ?_
          refine kX_if (fun q4 => ?_) (fun q4 => ?_)
          · exact k70 ⟨q2, fun _ z => isB_ne.mpr z (qeq q4)⟩
          · have q4 := isB_ne.mp (qeqF q4)
            repeat refine kX_one rfl ?_
            refine kX_ret (i := .ireturn) (len := 1) rfl (Or.inr rfl) rfl (⟨rF (fun e => (e u hmem).2 q3 q4), ST, VS, rfl⟩)
      · have q2 : σ 10 u ≠ nI r := qeqF q2
        repeat refine kX_one rfl ?_
        refine kX_ret (i := .ireturn) (len := 1) rfl (Or.inr rfl) rfl (⟨rF (fun e => q2 (e u hmem).1), ST, VS, rfl⟩)
  iterate 3 (refine kX_one rfl ?_)
  exact kX_lv _ rfl rfl rfl (loop 0 ⟨Nat.zero_le _, fun j hj hz => absurd hz (Nat.not_lt_zero j)⟩)
/-- what is bound so far: of the VARIABLES vl, each once -/
noncomputable def bdL (σ : kS) (r v : Nat) (vl : List Nat) : List Nat := fl (fun u => wfr σ r v (σ 12 u)) (ddl [] vl)
theorem fl_app {P : Nat → Prop} : ∀ (l : List Nat) (x : Nat), fl P (l ++ [x]) = fl P l ++ cit (P x) [x] []
  | [], x => by
    show cit (P x) (x :: fl P []) (fl P []) = [] ++ cit (P x) [x] []
    rfl
  | y :: l, x => by
    show cit (P y) (y :: fl P (l ++ [x])) (fl P (l ++ [x])) = cit (P y) (y :: fl P l) (fl P l) ++ cit (P x) [x] []
    rw [fl_app l x]
    by_cases h : P y
    · rw [cit_T h, cit_T h]
      rfl
    · rw [cit_F h, cit_F h]
theorem bdL_step {σ : kS} {r v u : Nat} {l : List Nat} : bdL σ r v (l ++ [u]) = cit (wfr σ r v (σ 12 u) ∧ ¬ u ∈ l) (bdL σ r v l ++ [u]) (bdL σ r v l) := by
  unfold bdL
  rw [ddl_app]
  show fl _ (if u ∈ ddl [] l then ddl [] l else ddl [] l ++ [u]) = _
  have hm : u ∈ ddl [] l ↔ u ∈ l := by
    rw [ddl_mem]
    exact ⟨fun q => q.elim (fun q => by cases q) id, Or.inr⟩
  by_cases h : u ∈ l
  · rw [if_pos (hm.mpr h), cit_F (fun z => z.2 h)]
  · rw [if_neg (fun z => h (hm.mp z)), fl_app]
    by_cases hw : wfr σ r v (σ 12 u)
    · rw [cit_T hw, cit_T ⟨hw, h⟩]
    · rw [cit_F hw, cit_F (fun z => hw z.1), List.append_nil]
theorem bdL_mem {σ : kS} {r v u : Nat} {l : List Nat} : u ∈ bdL σ r v l ↔ u ∈ l ∧ wfr σ r v (σ 12 u) := by
  unfold bdL
  rw [fl_mem, ddl_mem]
  exact ⟨fun q => ⟨q.1.elim (fun q => by cases q) id, q.2⟩, fun q => ⟨Or.inr q.1, q.2⟩⟩
theorem bdL_nd {σ : kS} {r v : Nat} {l : List Nat} : (bdL σ r v l).Pairwise (fun x y => x ≠ y) := fl_nd (ddl_nd _ _ List.Pairwise.nil)
/-- what bindIn has done -/
def bnG (σ τ : kS) (r v a : Nat) (bl : List Nat) : Prop := τ a 4 = nI bl.length ∧ (∀ j (h : j < bl.length), τ (a + 1) j = σ 12 (bl[j]'h) ∧ τ (a + 2) j = σ (25 + 35 * r) (fN (σ 12 (bl[j]'h)))) ∧ ∀ k, k < v → (τ (26 + 35 * r) k = 0 ↔ σ (26 + 35 * r) k = 0 ∧ ∀ u ∈ bl, σ 12 u ≠ nI k)
theorem bdL_le {σ : kS} {r v i : Nat} {l : List Nat} : (bdL σ r v (l.take i)).length ≤ (bdL σ r v l).length := by
  have key : ∀ (a b : List Nat), (bdL σ r v a).length ≤ (bdL σ r v (a ++ b)).length := by
    intro a b
    induction b generalizing a with
    | nil => rw [List.append_nil]; exact Nat.le_refl _
    | cons x b ih =>
      have h1 : (bdL σ r v a).length ≤ (bdL σ r v (a ++ [x])).length := by
        rw [bdL_step]
        by_cases h : wfr σ r v (σ 12 x) ∧ ¬ x ∈ a
        · rw [cit_T h, List.length_append]
          omega
        · rw [cit_F h]
          exact Nat.le_refl _
      have h2 := ih (a ++ [x])
      rw [List.append_assoc] at h2
      exact Nat.le_trans h1 h2
  have := key (l.take i) (l.drop i)
  rw [List.take_append_drop] at this
  exact this
set_option maxRecDepth 100000 in
set_option maxHeartbeats 4000000 in
theorem mf_bindIn (L : Nat) (xs : Nat → Int32) (d : Nat) (σ : kS) (n b0 r k t v : Nat) (h : cT σ n) (hI : mTb σ n b0) (hA : aT σ n) (hpl : ∀ u ∈ tvs (σ 233) (σ 234) (σ 235) t, ∃ k, k < v ∧ σ 12 u = nI k) (hinj : ∀ u ∈ tvs (σ 233) (σ 234) (σ 235) t, ∀ w ∈ tvs (σ 233) (σ 234) (σ 235) t, σ 12 u = σ 12 w → u = w) (h6 : (bdL σ r v (tvs (σ 233) (σ 234) (σ 235) t)).length ≤ 6) (hr : r < 4) (hk : k < 6) (ht : t < n) (hv : v ≤ 6) (hvc : σ (23 + 35 * r) 3 = nI v) (hso : ∀ j, j < v → ∃ so, so ≤ 3 ∧ σ (25 + 35 * r) j = nI so) (hte : σ (28 + 35 * r + 5 * k) 1 = nI t) (hbc : σ (28 + 35 * r + 5 * k) 4 = 0) : kXM kT L xs (d + 3) 10 [.ref 13, .ref (23 + 35 * r), .ref (28 + 35 * r + 5 * k)] σ (fun q σ' => q = none ∧ ∃ ST VS, bnF (lvU σ ST VS) σ' r (28 + 35 * r + 5 * k) ∧ bnI σ' (28 + 35 * r + 5 * k) (bdL σ r v (tvs (σ 233) (σ 234) (σ 235) t)).length ∧ bnG σ σ' r v (28 + 35 * r + 5 * k) (bdL σ r v (tvs (σ 233) (σ 234) (σ 235) t))) := by
  have hn := h.1
  unfold kXM
  iterate 2 (refine kX_one rfl ?_)
  refine kX_getN rfl rfl (kT_ev hr hk) rfl ?_
  refine kX_top (hte) ?_
  refine kX_cal (mf_listVars L xs d σ n b0 t h hI hA ht) rfl (Or.inr rfl) rfl rfl rfl (fun r1 σ1 q1 => ?_)
  obtain ⟨ST, VS, rfl, rfl, hl, c1⟩ := q1
  have hlt : ∀ u ∈ tvs (σ 233) (σ 234) (σ 235) t, u < n := fun u hu => (tvs_mem (mTb_num hI) t ht u hu).1
  generalize hvl : tvs (σ 233) (σ 234) (σ 235) t = vl at *
  have hlv : ∀ e, e ≠ 20 → e ≠ 21 → lvU σ ST VS e = σ e := fun e x1 x2 => by
    unfold lvU
    rw [up_ne x2, up_ne x1]
  have hVS : lvU σ ST VS 21 = VS := rfl
  generalize hρ : lvU σ ST VS = ρ at *
  generalize ha : 28 + 35 * r + 5 * k = a at *
  have haa : 28 + 35 * r ≤ a ∧ a + 5 ≤ 58 + 35 * r := by omega
  have hEv := kT_ev hr hk
  have hE1 := kT_e1 (i := 1) hr hk (Or.inl rfl)
  have hE2 := kT_e1 (i := 2) hr hk (Or.inr rfl)
  rw [ha] at hEv hE1 hE2
  have loop : ∀ q : Nat × kS × Nat, (q.1 ≤ vl.length ∧ bnF ρ q.2.1 r a ∧ bnI q.2.1 a q.2.2 ∧ q.2.2 = (bdL σ r v (vl.take q.1)).length ∧ bnG σ q.2.1 r v a (bdL σ r v (vl.take q.1))) → kX kT L xs (d + 3) 10 12 [(4, .int (nI q.1)), (3, .int (nI vl.length)), (0, .ref 13), (1, .ref (23 + 35 * r)), (2, .ref a)] [] q.2.1 (fun q σ' => q = none ∧ ∃ ST VS, bnF (lvU σ ST VS) σ' r a ∧ bnI σ' a (bdL σ r v vl).length ∧ bnG σ σ' r v a (bdL σ r v vl)) := by
    refine kX_while (fun q : Nat × kS × Nat => [(4, .int (nI q.1)), (3, .int (nI vl.length)), (0, .ref 13), (1, .ref (23 + 35 * r)), (2, .ref a)]) (fun q => q.2.1) _ (fun q => vl.length - q.1) ?_
    rintro ⟨i, τ, m⟩ ⟨i1, ⟨f1, f2⟩, ⟨m6, i3, i4⟩, i5, i6⟩ ih
    dsimp only at i1 f1 f2 m6 i3 i4 i5 i6 ih ⊢
    iterate 2 (refine kX_one rfl ?_)
    repeat refine kX_one rfl ?_
    refine kX_if (fun q => ?_) (fun q => ?_)
    · have q := qge q i vl.length
      rw [List.take_of_length_le (by omega)] at i5 i6
      subst i5
      repeat refine kX_one rfl ?_
      refine kX_ret (i := .return_) (len := 1) rfl (Or.inr rfl) rfl ⟨rfl, ST, VS, ?_, ⟨m6, i3, i4⟩, i6⟩
      rw [hρ]
      exact ⟨f1, f2⟩
    · have q := qgeF q i vl.length
      have u2 := hl i q
      have u1 := hlt vl[i] (List.getElem_mem q)
      have hmem := List.getElem_mem q
      have htk : vl.take (i + 1) = vl.take i ++ [vl[i]] := List.take_succ_eq_append_getElem q
      generalize hu : vl[i] = u at u1 u2 hmem htk
      have hst := bdL_step (σ := σ) (r := r) (v := v) (u := u) (l := vl.take i)
      rw [← htk] at hst
      obtain ⟨p, p1, p2⟩ := hpl u hmem
      have hpo : wfr τ r v (τ 12 u) ↔ wfr σ r v (σ 12 u) ∧ ¬ u ∈ vl.take i := by
        have e12 : τ 12 = σ 12 := by rw [f1 _ (by omega) (by omega) (by omega) (by omega), hlv _ (by decide) (by decide)]
        have e24 : τ (24 + 35 * r) = σ (24 + 35 * r) := by rw [f1 _ (by omega) (by omega) (by omega) (by omega), hlv _ (by omega) (by omega)]
        rw [e12, p2]
        constructor
        · rintro ⟨k', k1, k2, k3, k4⟩
          obtain rfl : p = k' := nI_inj k2
          rw [e24] at k3
          obtain ⟨k5, k6⟩ := (i6.2.2 p k1).mp k4
          refine ⟨⟨p, k1, rfl, k3, k5⟩, fun hin => ?_⟩
          exact k6 u (bdL_mem.mpr ⟨hin, by rw [p2]; exact ⟨p, k1, rfl, k3, k5⟩⟩) p2
        · rintro ⟨⟨k', k1, k2, k3, k4⟩, hno⟩
          obtain rfl : p = k' := nI_inj k2
          refine ⟨p, k1, rfl, by rw [e24]; exact k3, (i6.2.2 p k1).mpr ⟨k4, fun w hw e => ?_⟩⟩
          have hw2 := (bdL_mem.mp hw).1
          exact hno ((hinj u hmem w (List.mem_of_mem_take hw2) (p2.trans e.symm)) ▸ hw2)
      have k98 : ∀ (y : Int32) τ' m', bnF ρ τ' r a → bnI τ' a m' → m' = (bdL σ r v (vl.take (i + 1))).length → bnG σ τ' r v a (bdL σ r v (vl.take (i + 1))) → kX kT L xs (d + 3) 10 98 [(5, .int y), (4, .int (nI i)), (3, .int (nI vl.length)), (0, .ref 13), (1, .ref (23 + 35 * r)), (2, .ref a)] [] τ' (fun q σ' => q = none ∧ ∃ ST VS, bnF (lvU σ ST VS) σ' r a ∧ bnI σ' a (bdL σ r v vl).length ∧ bnG σ σ' r v a (bdL σ r v vl)) := by
        intro y τ' m' x1 x2 x3 x4
        iterate 2 (refine kX_one rfl ?_)
        have := ih (i + 1, τ', m') ⟨q, x1, x2, x3, x4⟩ (by simp only; omega)
        dsimp only at this
        rw [← nI_1] at this
        exact kX_lv _ rfl rfl rfl this
      have e21 : τ 21 i = nI u := by
        rw [f1 _ (by omega) (by omega) (by omega) (by omega), hVS]
        exact u2
      have hvc2 : τ (23 + 35 * r) 3 = nI v := by
        rw [f1 _ (by omega) (by omega) (by omega) (by omega), hlv _ (by omega) (by omega)]
        exact hvc
      iterate 6 (refine kX_one rfl ?_)
      refine kX_ialdV rfl rfl (by decide) (i) (by first | rfl | decide) (by omega) (e21) ?_
      refine kX_ialdN rfl rfl (by decide) (u) (by first | rfl | decide) (by omega) ?_
      iterate 3 (refine kX_one rfl ?_)
      refine kX_cal (mf_waitsFor L xs (d + 0) τ r v _ hr hv hvc2) rfl (Or.inr rfl) rfl (jcall_v rfl rfl rfl (kT_ro hr) rfl rfl) rfl (fun r1 σ1 q1 => ?_)
      obtain ⟨rfl, rfl⟩ := q1
      repeat refine kX_one rfl ?_
      refine kX_if (fun qw => ?_) (fun qw => ?_)
      · have qw : ¬ (wfr σ r v (σ 12 u) ∧ ¬ u ∈ vl.take i) := fun e => isB_ne.mpr (hpo.mpr e) (qeq qw)
        rw [cit_F qw] at hst
        exact kX_lv _ rfl rfl rfl (k98 _ τ m ⟨f1, f2⟩ ⟨m6, i3, i4⟩ (by rw [hst]; exact i5) (by rw [hst]; exact i6))
      · have qw := hpo.mp (isB_ne.mp (qeqF qw))
        rw [cit_T qw] at hst
        have p2s : σ 12 u = nI p := p2
        have p2 : τ 12 u = nI p := by rw [f1 _ (by omega) (by omega) (by omega) (by omega), hlv _ (by decide) (by decide)]; exact p2s
        obtain ⟨so, so1, so2⟩ := hso p p1
        have hm5 : m < 6 := by
          have hsub : (bdL σ r v (vl.take (i + 1))).length ≤ (bdL σ r v vl).length := bdL_le
          rw [hst, List.length_append] at hsub
          simp only [List.length_cons, List.length_nil] at hsub
          omega
        iterate 1 (refine kX_one rfl ?_)
        refine kX_getN rfl rfl (hEv) rfl ?_
        refine kX_top (i3) ?_
        iterate 1 (refine kX_one rfl ?_)
        repeat refine kX_one rfl ?_
        refine kX_if (fun q2 => ?_) (fun q2 => ?_)
        · have q2 := qge q2 m 6
          omega
        · have q2 := qgeF q2 m 6
          refine kX_lv [(5, .int (nI p)), (4, .int (nI i)), (3, .int (nI vl.length)), (0, .ref 13), (1, .ref (23 + 35 * r)), (2, .ref a)] rfl rfl (by rw [← p2]; rfl) ?_
          iterate 1 (refine kX_one rfl ?_)
          refine kX_getN rfl rfl (kT_ro hr) rfl ?_
          iterate 2 (refine kX_one rfl ?_)
          refine kX_bastN rfl (kT_rr hr) (by decide) (p) (by first | rfl | decide) (by omega) (Or.inr rfl) ?_
          iterate 1 (refine kX_one rfl ?_)
          refine kX_getN rfl rfl (hEv) rfl ?_
          iterate 1 (refine kX_one rfl ?_)
          refine kX_getN rfl rfl (hEv) rfl ?_
          refine kX_top (y := nI m) (by rw [up_ne (by omega)]; exact i3) ?_
          iterate 1 (refine kX_one rfl ?_)
          refine kX_iastN rfl (hE1) (by decide) (m) (by first | rfl | decide) (q2) ?_
          iterate 1 (refine kX_one rfl ?_)
          refine kX_getN rfl rfl (hEv) rfl ?_
          iterate 1 (refine kX_one rfl ?_)
          refine kX_getN rfl rfl (hEv) rfl ?_
          refine kX_top (y := nI m) (by rw [up_ne (by omega), up_ne (by omega)]; exact i3) ?_
          iterate 1 (refine kX_one rfl ?_)
          refine kX_getN rfl rfl (kT_ro hr) rfl ?_
          iterate 1 (refine kX_one rfl ?_)
          refine kX_ialdV rfl (kT_rs hr) (by decide) (p) (by first | rfl | decide) (by omega) ((congrFun (up_ne (by omega)) p).trans ((congrFun (up_ne (by omega)) p).trans ((congrFun (f1 _ (by omega) (by omega) (by omega) (by omega)) p).trans ((congrFun (hlv _ (by omega) (by omega)) p).trans so2)))) ?_
          refine kX_iastN rfl (hE2) (by decide) (m) (by first | rfl | decide) (q2) ?_
          iterate 2 (refine kX_one rfl ?_)
          refine kX_getN rfl rfl (hEv) rfl ?_
          refine kX_top (y := nI m) (by rw [up_ne (by omega), up_ne (by omega), up_ne (by omega)]; exact i3) ?_
          iterate 2 (refine kX_one rfl ?_)
          refine kX_putN rfl rfl (hEv) rfl (rfl) rfl ?_
          refine kX_lv _ rfl rfl rfl (k98 (nI p) _ (m + 1) ⟨fun e x1 x2 x3 x4 => ?_, fun j hj => ?_⟩ ⟨by omega, ?_, fun j hj => ?_⟩ (by rw [hst, List.length_append, i5]; rfl) ?_)
          · rw [up_ne x2, up_ne x4, up_ne x3, up_ne x1]
            exact f1 e x1 x2 x3 x4
          · rw [up_eq, up_ne (by omega), up_ne (by omega), up_ne (by omega)]
            exact (pk_un hj).trans (f2 j hj)
          · rw [up_eq, ← nI_1]
            exact pk_us
          · rw [up_ne (show a + 1 ≠ a by omega), up_ne (show a + 1 ≠ a + 2 by omega), up_eq, up_ne (show a + 2 ≠ a by omega), up_eq, up_ne (show a + 1 ≠ 26 + 35 * r by omega)]
            rw [up_ne (show a + 2 ≠ a + 1 by omega), up_ne (show a + 2 ≠ 26 + 35 * r by omega)]
            by_cases e : j = m
            · subst e
              rw [pk_us, pk_us]
              exact ⟨⟨p, by omega, rfl⟩, so, so1, rfl⟩
            · rw [pk_un e, pk_un e]
              exact i4 j (by omega)
          · rw [hst]
            unfold bnG
            rw [up_ne (show a + 1 ≠ a by omega), up_ne (show a + 1 ≠ a + 2 by omega), up_eq, up_ne (show a + 2 ≠ a by omega), up_eq, up_ne (show a + 1 ≠ 26 + 35 * r by omega), up_ne (show a + 2 ≠ a + 1 by omega), up_ne (show a + 2 ≠ 26 + 35 * r by omega), up_eq, up_ne (show 26 + 35 * r ≠ a by omega), up_ne (show 26 + 35 * r ≠ a + 2 by omega), up_ne (show 26 + 35 * r ≠ a + 1 by omega), up_eq]
            refine ⟨?_, fun j hj => ?_, fun k' hk' => ?_⟩
            · rw [List.length_append, ← i5]
              show upd _ 4 (nI m + 1) 4 = nI (m + 1)
              rw [pk_us, nI_1]
            · rw [List.length_append] at hj
              simp only [List.length_cons, List.length_nil] at hj
              by_cases e : j = m
              · subst e
                have ee : (bdL σ r v (vl.take i) ++ [u])[j]'(by rw [List.length_append, ← i5]; exact Nat.lt_succ_self _) = u := by
                  rw [List.getElem_append_right (by omega)]
                  simp
                rw [ee, pk_us, pk_us, p2s, fN_nI (by omega)]
                exact ⟨rfl, so2.symm⟩
              · have hj' : j < (bdL σ r v (vl.take i)).length := by omega
                rw [List.getElem_append_left hj', pk_un e, pk_un e]
                exact i6.2.1 j hj'
            · by_cases e : k' = p
              · subst e
                rw [pk_us]
                refine ⟨fun z => absurd z (by decide), fun z => absurd p2s (z.2 u (List.mem_append.mpr (Or.inr (List.mem_singleton.mpr rfl))))⟩
              · rw [pk_un e, i6.2.2 k' hk']
                refine and_congr_right (fun _ => ⟨fun z w hw => ?_, fun z w hw => z w (List.mem_append.mpr (Or.inl hw))⟩)
                rcases List.mem_append.mp hw with hw | hw
                · exact z w hw
                · rw [List.mem_singleton.mp hw, p2s]
                  exact nI_ne (fun q => e q.symm)
  iterate 3 (refine kX_one rfl ?_)
  have := loop (0, ρ, 0) ⟨Nat.zero_le _, ⟨fun _ _ _ _ _ => rfl, fun _ _ => rfl⟩, ⟨Nat.zero_le _, (congrFun (hlv a (by omega) (by omega)) _).trans hbc, fun j hj => absurd hj (Nat.not_lt_zero j)⟩, rfl, (congrFun (hlv a (by omega) (by omega)) _).trans hbc, fun j hj => absurd hj (Nat.not_lt_zero j), fun k' hk' => by
    simp only
    rw [hlv _ (by omega) (by omega)]
    exact ⟨fun z => ⟨z, fun w hw => by cases hw⟩, fun z => z.1⟩⟩
  exact kX_lv _ rfl rfl rfl this
