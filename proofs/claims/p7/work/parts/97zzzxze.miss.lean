/-! alike: missingFor -/
theorem nd_sub {α : Type} : ∀ (l l' : List α), l.Pairwise (fun x y => x ≠ y) → (∀ x ∈ l, x ∈ l') → l.length ≤ l'.length
  | [], _, _, _ => Nat.zero_le _
  | a :: l, l', hd, hs => by
    obtain ⟨s, t, rfl⟩ := List.append_of_mem (hs a (by simp))
    obtain ⟨h1, h2⟩ := List.pairwise_cons.mp hd
    have := nd_sub l (s ++ t) h2 (fun x hx => by
      have := hs x (List.mem_cons_of_mem _ hx)
      rcases List.mem_append.mp this with q | q
      · exact List.mem_append_left _ q
      · rcases List.mem_cons.mp q with z | z
        · exact absurd z.symm (h1 x hx)
        · exact List.mem_append_right _ z)
    rw [List.length_append] at this
    rw [List.length_append, List.length_cons, List.length_cons]
    omega
def wnW (W W' : Nat → Int32) (u : Nat) (x : Int32) : Prop := ∀ i, i < u → W' i = cit (x = nI (200 + i)) 1 (W i)
set_option maxRecDepth 100000 in
set_option maxHeartbeats 4000000 in
theorem mf_want (L : Nat) (xs : Nat → Int32) (d : Nat) (σ : kS) (n u : Nat) (x : Int32) (h : nB σ 186 200 n u) : kXM kT L xs (d + 2) 57 [.ref 186, .int x] σ (fun r σ' => r = none ∧ ∃ W', σ' = va_up σ 194 W' ∧ wnW (σ 194) W' u x) := by
  have hu := h.2.2.1
  unfold kXM
  iterate 2 (refine kX_one rfl ?_)
  refine kX_cal (mc_unn L xs d σ 186 200 n u x h) rfl (Or.inr rfl) rfl rfl rfl (fun r1 σ1 q1 => ?_)
  obtain ⟨rfl, rfl⟩ := q1
  repeat refine kX_one rfl ?_
  refine kX_if (fun q => ?_) (fun q => ?_)
  · have q := qeq q
    refine kX_ret (i := .return_) (len := 1) rfl (Or.inr rfl) rfl (⟨rfl, σ 194, up_id.symm, fun i hi => ?_⟩)
    rw [cit_F]
    intro e
    exact isB_ne.mpr ⟨200 + i, by omega, by omega, e⟩ q
  · obtain ⟨g, g1, g2, rfl⟩ := isB_ne.mp (qeqF q)
    obtain ⟨i, rfl⟩ : ∃ i, g = 200 + i := ⟨g - 200, by omega⟩
    iterate 5 (refine kX_one rfl ?_)
    refine kX_top (h.2.2.2.2.1) ?_
    iterate 1 (refine kX_one rfl ?_)
    refine kX_top (y := nI i) ?_ ?_
    · show nI (200 + i) - nI 200 = nI i
      rw [← nI_add, Int32.add_comm, Int32.add_sub_cancel]
    iterate 1 (refine kX_one rfl ?_)
    refine kX_iastN rfl rfl (by decide) (i) (by first | rfl | decide) (by omega) ?_
    refine kX_ret (i := .return_) (len := 1) rfl (Or.inr rfl) rfl (⟨rfl, _, rfl, fun j hj => ?_⟩)
    by_cases e : j = i
    · subst e
      rw [pk_us, cit_T rfl]
      rfl
    · rw [pk_un e, cit_F]
      intro z
      have := nI_inj z
      omega
/-- what is wanted, from q on looked through -/
def miI (σ : kS) (n u g q : Nat) (W : Nat → Int32) (ls : List Nat) : Prop := (∀ i, i < u → W i = 0 ∨ W i = 1) ∧ (∀ i, i < u → W i = 1 → kTv σ (200 + i) ∈ poT (knN σ n) (kTv σ g) []) ∧ (∀ i, i < u → g = 200 + i → W i = 1) ∧ (∀ i, q ≤ i → i < u → W i = 1 → ∀ p, p < u → (σ 3 (200 + i) = nI (200 + p) ∨ σ 4 (200 + i) = nI (200 + p)) → W p = 1) ∧ ls.Pairwise (fun x y => x ≠ y) ∧ ∀ i, i ∈ ls ↔ q ≤ i ∧ i < u ∧ W i = 1
set_option maxRecDepth 100000 in
set_option maxHeartbeats 4000000 in
theorem mf_missingFor (L : Nat) (xs : Nat → Int32) (d : Nat) (σ : kS) (n u m g : Nat) (l : rwT) (h : iE σ 186 200 n u m l) (hg : kV n 200 u g) : kXM kT L xs (d + 3) 56 [.ref 186, .int (nI g)] σ (fun r σ' => r = some (.int (nI (poT (knN σ n) (kTv σ g) []).length)) ∧ ∃ W, σ' = va_up σ 194 W) := by
  have hB := iE_nB h
  have hu := hB.2.2.1
  have hn := hB.2.1
  have hW : ∀ W, nB (va_up σ 194 W) 186 200 n u := fun W => ⟨hB.1, hB.2.1, hB.2.2.1, hB.2.2.2.1, hB.2.2.2.2.1, hB.2.2.2.2.2⟩
  obtain ⟨⟨po1, po2⟩, po3, po4⟩ := po_tab h g hg [] cloK_nil List.Pairwise.nil
  have hgl : g < 776 := by unfold kV at hg; omega
  have loop : ∀ q : Nat × List Nat × (Nat → Int32), (q.1 ≤ u ∧ miI σ n u g q.1 q.2.2 q.2.1) → kX kT L xs (d + 3) 56 22 [(3, .int (pv q.1)), (2, .int (nI q.2.1.length)), (0, .ref 186), (1, .int (nI g))] [] (va_up σ 194 q.2.2) (fun r σ' => r = some (.int (nI (poT (knN σ n) (kTv σ g) []).length)) ∧ ∃ W, σ' = va_up σ 194 W) := by
    refine kX_while (fun q : Nat × List Nat × (Nat → Int32) => [(3, .int (pv q.1)), (2, .int (nI q.2.1.length)), (0, .ref 186), (1, .int (nI g))]) (fun q => va_up σ 194 q.2.2) _ (fun q => q.1) ?_
    rintro ⟨q, ls, W⟩ ⟨i1, i2⟩ ih
    dsimp only at i1 i2 ih ⊢
    obtain ⟨j1, j2, j3, j4, j5, j6⟩ := i2
    cases q with
    | zero =>
      show kX kT L xs (d + 3) 56 22 [(3, .int (-1)), (2, .int (nI ls.length)), (0, .ref 186), (1, .int (nI g))] [] (va_up σ 194 W) _
      have hle : (poT (knN σ n) (kTv σ g) []).length = ls.length := by
        have a1 : ls.length ≤ (poT (knN σ n) (kTv σ g) []).length := by
          have := nd_sub (ls.map (fun i => kTv σ (200 + i))) (poT (knN σ n) (kTv σ g) []) (List.pairwise_map.mpr (List.Pairwise.imp_of_mem (fun {a b} ha hb hab e => by
            have ha := (j6 a).mp ha
            have hb := (j6 b).mp hb
            have := kTv_inj h (Or.inr ⟨by omega, by omega⟩) (Or.inr ⟨by omega, by omega⟩) e
            omega) j5)) (fun t ht => by
            obtain ⟨i, hi, rfl⟩ := List.mem_map.mp ht
            have := (j6 i).mp hi
            exact j2 i this.2.1 this.2.2)
          rw [List.length_map] at this
          exact this
        have a2 : (poT (knN σ n) (kTv σ g) []).length ≤ ls.length := by
          have := nd_sub (poT (knN σ n) (kTv σ g) []) (ls.map (fun i => kTv σ (200 + i))) po2 (fun t ht => by
            obtain ⟨x, x1, x2, x3, x4⟩ := po_least h (Z := fun x => W (x - 200) = 1) (fun x x1 x2 hz p p1 p2 hf => by
              refine j4 (x - 200) (Nat.zero_le _) (by omega) hz (p - 200) (by omega) ?_
              rw [show 200 + (x - 200) = x by omega, show 200 + (p - 200) = p by omega]
              exact hf) g hg (fun g2 => j3 (g - 200) (by unfold kV at hg; omega) (by omega)) [] (fun t ht => absurd ht List.not_mem_nil) t ht
            refine List.mem_map.mpr ⟨x - 200, (j6 _).mpr ⟨Nat.zero_le _, by omega, x3⟩, ?_⟩
            rw [show 200 + (x - 200) = x by omega]
            exact x4.symm)
          rw [List.length_map] at this
          exact this
        omega
      rw [hle]
      repeat refine kX_one rfl ?_
      refine kX_ret (i := .ireturn) (len := 1) rfl (Or.inr rfl) rfl (⟨rfl, W, rfl⟩)
    | succ i =>
      show kX kT L xs (d + 3) 56 22 [(3, .int (nI i)), (2, .int (nI ls.length)), (0, .ref 186), (1, .int (nI g))] [] (va_up σ 194 W) _
      have k75 : ∀ ls' W', miI σ n u g i W' ls' → kX kT L xs (d + 3) 56 75 [(2, .int (nI ls'.length)), (3, .int (nI i)), (0, .ref 186), (1, .int (nI g))] [] (va_up σ 194 W') (fun r σ' => r = some (.int (nI (poT (knN σ n) (kTv σ g) []).length)) ∧ ∃ W, σ' = va_up σ 194 W) := by
        intro ls' W' ht
        iterate 2 (refine kX_one rfl ?_)
        have := ih (i, ls', W') ⟨by omega, ht⟩ (by simp only; omega)
        dsimp only at this
        rw [pv_dec] at this
        exact kX_lv _ rfl rfl rfl this
      repeat refine kX_one rfl ?_
      refine kX_ifF (decide_eq_false (nI_pos (by omega))) ?_
      iterate 3 (refine kX_one rfl ?_)
      refine kX_ialdN rfl rfl (by decide) (i) (by first | rfl | decide) (by omega) ?_
      repeat refine kX_one rfl ?_
      refine kX_if (fun q => ?_) (fun q => ?_)
      · have q : W i ≠ 1 := qne q
        refine kX_lv _ rfl rfl rfl (k75 ls W ⟨j1, j2, j3, fun i' h1 h2 h3 p hp hf => ?_, j5, fun i' => ?_⟩)
        · exact j4 i' (Nat.lt_of_le_of_ne h1 (fun e => q (e ▸ h3))) h2 h3 p hp hf
        · rw [j6 i']
          refine ⟨fun z => ⟨by omega, z.2⟩, fun z => ⟨Nat.lt_of_le_of_ne z.1 (fun e => q (e ▸ z.2.2)), z.2⟩⟩
      · have q : W i = 1 := qneF q
        have hpi := j2 i (by omega) q
        have hstep : ∀ x (W1 W2 : Nat → Int32), (x = σ 3 (200 + i) ∨ x = σ 4 (200 + i)) → wnW W1 W2 u x → (∀ j, j < u → W1 j = 0 ∨ W1 j = 1) → (∀ j, j < u → W1 j = 1 → kTv σ (200 + j) ∈ poT (knN σ n) (kTv σ g) []) → (∀ j, j < u → (W2 j = 0 ∨ W2 j = 1)) ∧ (∀ j, j < u → W2 j = 1 → kTv σ (200 + j) ∈ poT (knN σ n) (kTv σ g) []) ∧ (∀ j, j < u → W1 j = 1 → W2 j = 1) ∧ (∀ j, j < u → x = nI (200 + j) → W2 j = 1) ∧ ∀ j, i ≤ j → j < u → W2 j = W1 j := by
          intro x W1 W2 hx hw g1 g2
          refine ⟨fun j hj => ?_, fun j hj h1 => ?_, fun j hj h1 => ?_, fun j hj e => ?_, fun j hij hj => ?_⟩
          · rw [hw j hj]
            by_cases e : x = nI (200 + j)
            · rw [cit_T e]
              exact Or.inr rfl
            · rw [cit_F e]
              exact g1 j hj
          · rw [hw j hj] at h1
            by_cases e : x = nI (200 + j)
            · have := po1 (200 + i) (by omega) (by omega) hpi (200 + j) (by omega) (hx.imp (fun z => z.symm.trans e) (fun z => z.symm.trans e))
              rcases this with z | z
              · exact absurd z (kN_hi h (by omega) (by omega))
              · exact z
            · rw [cit_F e] at h1
              exact g2 j hj h1
          · rw [hw j hj]
            by_cases e : x = nI (200 + j)
            · rw [cit_T e]
            · rw [cit_F e]
              exact h1
          · rw [hw j hj, cit_T e]
          · rw [hw j hj, cit_F]
            intro e
            have hlt : 200 + j < 200 + i := by
              rcases k_of h (x := 200 + i) (by omega) (by omega) with ⟨k, p, z, h3, hk, hp', hz, h4, h5, h6, h7, -⟩ | ⟨k, p, h3, hk, hp', hz, h4, h6, -⟩
              · rcases hx with hx | hx
                · have : p = 200 + j := nI_inj (hp'.symm.trans (hx.symm.trans e))
                  omega
                · have : z = 200 + j := nI_inj (hz.symm.trans (hx.symm.trans e))
                  omega
              · rcases hx with hx | hx
                · have : p = 200 + j := nI_inj (hp'.symm.trans (hx.symm.trans e))
                  omega
                · exact absurd (e.symm.trans (hx.trans hz)) (nI_m1 (by omega))
            omega
        iterate 7 (refine kX_one rfl ?_)
        refine kX_top ((hW W).2.2.2.2.1) ?_
        iterate 2 (refine kX_one rfl ?_)
        refine kX_top (y := nI (200 + i)) (nI_add 200 i) ?_
        refine kX_ialdN rfl rfl (by decide) (200 + i) (by first | rfl | decide) (by omega) ?_
        refine kX_cal (mf_want L xs d (va_up σ 194 W) n u _ (hW W)) rfl (Or.inr rfl) rfl rfl rfl (fun r1 τ1 q1 => ?_)
        obtain ⟨rfl, W1, rfl, w1⟩ := q1
        obtain ⟨s1, s2, s3, s4, s5⟩ := hstep _ _ _ (Or.inl rfl) w1 j1 j2
        rw [kup_up]
        iterate 6 (refine kX_one rfl ?_)
        refine kX_top ((hW W1).2.2.2.2.1) ?_
        iterate 2 (refine kX_one rfl ?_)
        refine kX_top (y := nI (200 + i)) (nI_add 200 i) ?_
        refine kX_ialdN rfl rfl (by decide) (200 + i) (by first | rfl | decide) (by omega) ?_
        refine kX_cal (mf_want L xs d (va_up σ 194 W1) n u _ (hW W1)) rfl (Or.inr rfl) rfl rfl rfl (fun r1 τ2 q1 => ?_)
        obtain ⟨rfl, W2, rfl, w2⟩ := q1
        obtain ⟨v1, v2, v3, v4, v5⟩ := hstep _ _ _ (Or.inr rfl) w2 s1 s2
        rw [kup_up]
        have hW2 : ∀ j, i ≤ j → j < u → W2 j = W j := fun j a b => (v5 j a b).trans (s5 j a b)
        have := k75 (i :: ls) W2 ⟨v1, v2, fun j hj e => v3 j hj (s3 j hj (j3 j hj e)), fun i' h1 h2 h3 p hp hf => ?_, List.Pairwise.cons (fun y hy e => ?_) j5, fun i' => ?_⟩
        · rw [List.length_cons, ← nI_1] at this
          exact kX_lv _ rfl rfl rfl this
        · by_cases e : i' = i
          · subst e
            rcases hf with hf | hf
            · exact v3 p hp (s4 p hp hf)
            · exact v4 p hp hf
          · rw [hW2 i' h1 h2] at h3
            exact v3 p hp (s3 p hp (j4 i' (by omega) h2 h3 p hp hf))
        · have := (j6 y).mp hy
          omega
        · rw [List.mem_cons, j6 i']
          refine ⟨fun z => ?_, fun z => ?_⟩
          · rcases z with rfl | z
            · exact ⟨Nat.le_refl _, by omega, by rw [hW2 i' (Nat.le_refl _) (by omega)]; exact q⟩
            · exact ⟨by omega, z.2.1, by rw [hW2 i' (by omega) z.2.1]; exact z.2.2⟩
          · by_cases e : i' = i
            · exact Or.inl e
            · exact Or.inr ⟨by omega, z.2.1, by rw [← hW2 i' z.1 z.2.1]; exact z.2.2⟩
  unfold kXM
  iterate 3 (refine kX_one rfl ?_)
  refine kX_cal (kX_fill (T := kT) L xs (d + 1) 0 σ (a := 194) (n := 576) (g0 := fun _ => 0) rfl (by decide)) rfl (Or.inr rfl) rfl rfl rfl (fun r1 σ1 q1 => ?_)
  obtain ⟨rfl, rfl⟩ := q1
  iterate 2 (refine kX_one rfl ?_)
  refine kX_cal (mf_want L xs d (va_up σ 194 (fun j => if j < 576 then 0 else σ 194 j)) n u _ (hW _)) rfl (Or.inr rfl) rfl rfl rfl (fun r1 τ1 q1 => ?_)
  obtain ⟨rfl, W, rfl, w⟩ := q1
  rw [kup_up]
  have w0 : ∀ i, i < u → W i = cit (nI g = nI (200 + i)) 1 0 := fun i hi => by
    rw [w i hi]
    show cit _ 1 (if i < 576 then (0 : Int32) else σ 194 i) = _
    rw [if_pos (by omega)]
  have w1 : ∀ i, i < u → W i = 1 → g = 200 + i := fun i hi e => by
    rw [w0 i hi] at e
    by_cases z : nI g = nI (200 + i)
    · exact nI_inj z
    · rw [cit_F z] at e
      exact absurd e (by decide)
  iterate 4 (refine kX_one rfl ?_)
  refine kX_top ((hW W).2.2.2.2.2) ?_
  iterate 2 (refine kX_one rfl ?_)
  refine kX_top (y := pv u) (pv_sub u) ?_
  iterate 1 (refine kX_one rfl ?_)
  refine kX_lv _ rfl rfl rfl (loop (u, [], W) ⟨Nat.le_refl _, fun i hi => ?_, fun i hi e => ?_, fun i hi e => ?_, fun i h1 h2 => by simp only at h1; omega, List.Pairwise.nil, fun i => ⟨fun z => absurd z List.not_mem_nil, fun z => by have := z.1; simp only at this; omega⟩⟩)
  · show W i = 0 ∨ W i = 1
    rw [w0 i hi]
    by_cases z : nI g = nI (200 + i)
    · rw [cit_T z]
      exact Or.inr rfl
    · rw [cit_F z]
      exact Or.inl rfl
  · have eg := w1 i hi e
    rw [← eg]
    rcases po4 with z | z
    · exact absurd z (kN_hi h (by omega) (by omega))
    · exact z
  · show W i = 1
    rw [w0 i hi, cit_T (by rw [e])]
