/-! alike: a way is weighed -/
/-- what a VARIABLE stands for in the draft -/
def wV (τ : kS) (s v : Nat) : Jvm.Term := kTv τ (fN (τ 202 (7 * s + 1 + fN (τ 12 v))))
/-- a part of the EVENT's TERM, as the draft has it -/
def iT (τ : kS) (s t : Nat) : Jvm.Term := tW τ (wV τ s) t
/-- what is stored of it -/
def vaQ (τ : kS) (n u s t : Nat) (x : Int32) : Prop := (∃ g, kV n 776 u g ∧ kGd τ g ∧ kTv τ g = iT τ s t ∧ x = nI g) ∨ (x = -1 ∧ (∀ g, kV n 776 u g → kTv τ g ≠ iT τ s t) ∧ ¬ kGd τ t ∧ τ 2 t ≠ nI 3)
def ptQ (τ : kS) (n u : Nat) (l : rwT) (s t : Nat) : Prop := vaQ τ n u s t (τ 230 t) ∧ τ 231 t = isB (vmk (kIn τ l) (mA τ) (τ 238) (iT τ s t))
section WG
variable {τ : kS} {n u m s : Nat} {l : rwT}
theorem kSt_2 {t k x y : Nat} (h : iE τ 204 776 n u m l) (hk : τ 2 t = nI k) (hx : τ 3 t = nI x) (hy : τ 4 t = nI y) (h3 : 3 < k) (hk9 : k ≤ 9) (h4 : x < t) (h5 : y < t) (h6 : kV n 776 u x) (h7 : kV n 776 u y) : iT τ s t = vnd k (iT τ s x) (some (iT τ s y)) ∧ kVs τ t = kVs τ x ++ kVs τ y := ⟨tA_2 (iE_V h) hk hx hy h3 hk9 h4 h5 h6 h7, tA_2 (iE_V h) hk hx hy h3 hk9 h4 h5 h6 h7⟩
theorem kSt_1 {t k x : Nat} (h : iE τ 204 776 n u m l) (hk : τ 2 t = nI k) (hx : τ 3 t = nI x) (hy : τ 4 t = -1) (h3 : 3 < k) (hk9 : k ≤ 9) (h4 : x < t) (h6 : kV n 776 u x) : iT τ s t = vnd k (iT τ s x) none ∧ kVs τ t = kVs τ x ++ [] := ⟨tA_1 (iE_V h) hk hx hy h3 hk9 h4 h6, tA_1 (iE_V h) hk hx hy h3 hk9 h4 h6⟩
/-- what may be an agent is one in the draft -/
theorem iT_ag {t : Nat} (h : iE τ 204 776 n u m l) (hs : kSt τ n 202 (7 * s + 1) (wV τ s) t) (ha : kAG τ n t) : ∃ z, z < n ∧ τ 2 z = nI 0 ∧ iT τ s t = .arg z ∧ kTv τ z = .arg z ∧ kGd τ z := by
  have key : ∀ z, z < n → τ 2 z = nI 0 → kTv τ z = .arg z ∧ kGd τ z := fun z hz hk => ⟨tvl_0 hk (by decide), by unfold kGd; rw [tgd_0 hk (by decide)]; decide⟩
  rcases ha.2 with hk | ⟨hk, hso⟩
  · refine ⟨t, ha.1, hk, ?_, key t ha.1 hk⟩
    unfold iT tW
    rw [tA_0 hk (by decide), if_neg]
    rw [hk]
    exact nI_ne (by decide)
  · have hvt : t ∈ kVs τ t := by
      unfold kVs tvs
      rw [tA_0 hk (by decide), if_pos hk]
      exact List.mem_singleton.mpr rfl
    obtain ⟨p, z, z1, z2, z3, z4, z5, z6, z7⟩ := hs t hvt
    have hk0 := z7 hso
    refine ⟨z, z2, hk0, ?_, key z z2 hk0⟩
    unfold iT tW
    rw [tA_0 hk (by decide), if_pos hk, ← z6]
    exact (key z z2 hk0).1
/-- the agent's number -/
theorem pt_ag {t : Nat} (h : iE τ 204 776 n u m l) (hs : kSt τ n 202 (7 * s + 1) (wV τ s) t) (ha : kAG τ n t) (hp : ptQ τ n u l s t) : ∃ z, z < n ∧ τ 2 z = nI 0 ∧ iT τ s t = .arg z ∧ τ 230 t = nI z := by
  obtain ⟨z, z1, z2, z3, z4, z5⟩ := iT_ag h hs ha
  refine ⟨z, z1, z2, z3, ?_⟩
  rcases hp.1 with ⟨g, g1, g2, g3, g4⟩ | ⟨-, g2, -⟩
  · have : g = z := kTv_inj h g1 (Or.inl z1) (g3.trans (z3.trans z4.symm))
    rw [g4, this]
  · exact absurd (z4.trans z3.symm) (g2 z (Or.inl z1))
set_option maxRecDepth 100000 in
set_option maxHeartbeats 4000000 in
theorem mf_qValueOf (L : Nat) (xs : Nat → Int32) (d : Nat) (t : Nat) (h : iE τ 204 776 n u m l) (hC : cCn τ n) (hG : gR τ n) (ht : t < n) (hs : s < 4) (hv : τ 222 3 = nI (7 * s + 1)) (hst : kSt τ n 202 (7 * s + 1) (wV τ s) t) (hch : ¬ kGd τ t → τ 2 t ≠ nI 3 → ∀ p, p < n → (τ 3 t = nI p ∨ τ 4 t = nI p) → vaQ τ n u s p (τ 230 p)) : kXM kT L xs (d + 3) 36 [.ref 222, .int (nI t)] τ (fun r σ' => (∃ x, r = some (.int x) ∧ vaQ τ n u s t x) ∧ τ = σ') := by
  have hn := h.2.1
  have hV := iE_V h
  have hu := h.2.2.2.2.1.1
  unfold kXM
  iterate 4 (refine kX_one rfl ?_)
  refine kX_baldV rfl rfl (by decide) (t) (by first | rfl | decide) (by omega) (hG t ht) ?_
  repeat refine kX_one rfl ?_
  refine kX_if (fun q => ?_) (fun q => ?_)
  · have hg0 : ¬ kGd τ t := fun z => isB_ne.mpr z (qeq q)
    have k105 : ∀ (k : Nat) (X Y v : Int32), τ 2 t = nI k → (∀ r : Option Value, cFn τ (fun t => kV n 776 u t ∧ 3 < fN (τ 2 t)) (nI k) X Y r → ∃ x, r = some (.int x) ∧ vaQ τ n u s t x) → kX kT L xs (d + 3) 36 105 [(4, .int Y), (3, .int v), (2, .int X), (0, .ref 222), (1, .int (nI t))] [] τ (fun r σ' => (∃ x, r = some (.int x) ∧ vaQ τ n u s t x) ∧ τ = σ') := by
      intro k X Y v hk hfin
      iterate 11 (refine kX_one rfl ?_)
      refine kX_ialdV rfl rfl (by decide) (t) (by first | rfl | decide) (by omega) (hk) ?_
      iterate 2 (refine kX_one rfl ?_)
      refine kX_cal (mf_kFind L xs d τ 204 776 n u m l (nI k) X Y h hC) rfl (Or.inr rfl) rfl rfl rfl (fun r1 σ1 q1 => ?_)
      obtain ⟨hq, rfl⟩ := q1
      obtain ⟨x, rfl, hx⟩ := hfin r1 hq
      repeat refine kX_one rfl ?_
      refine kX_ret (i := .ireturn) (len := 1) rfl (Or.inr rfl) rfl (⟨⟨x, rfl, hx⟩, rfl⟩)
    iterate 4 (refine kX_one rfl ?_)
    rcases (hV t (Or.inl ht)).2 with ⟨k, h3, hk, -, -⟩ | ⟨k, x, y, h3, hk, hx, hy, h4, h5, h6, h7⟩ | ⟨k, x, h3, hk, hx, hy, h4, h6⟩
    · obtain rfl : k = 3 := Classical.byContradiction fun z => hg0 (by unfold kGd; rw [tgd_0 hk h3]; exact decide_eq_true z)
      have hvt : t ∈ kVs τ t := by
        unfold kVs tvs
        rw [tA_0 hk h3, if_pos hk]
        exact List.mem_singleton.mpr rfl
      obtain ⟨p, z, z1, z2, z3, z4, z5, z6, z7⟩ := hst t hvt
      refine kX_ialdV rfl rfl (by decide) (t) (by first | rfl | decide) (by omega) (hk) ?_
      iterate 2 (refine kX_one rfl ?_)
      iterate 4 (refine kX_one rfl ?_)
      refine kX_top (hv) ?_
      iterate 4 (refine kX_one rfl ?_)
      refine kX_ialdV rfl rfl (by decide) (t) (by first | rfl | decide) (by omega) (z3) ?_
      iterate 1 (refine kX_one rfl ?_)
      refine kX_top (y := nI (7 * s + 1 + p)) (nI_add (7 * s + 1) p) ?_
      refine kX_ialdV rfl rfl (by decide) (7 * s + 1 + p) (by first | rfl | decide) (by omega) (z4) ?_
      have hf : vaQ τ n u s t (nI z) := by
        refine Or.inl ⟨z, Or.inl z2, z5, ?_, rfl⟩
        rw [z6]
        unfold iT tW
        rw [tA_0 hk h3, if_pos hk]
      refine kX_ret (i := .ireturn) (len := 1) rfl (Or.inr rfl) rfl (⟨⟨_, rfl, hf⟩, rfl⟩)
    · have hk3 : τ 2 t ≠ nI 3 := by rw [hk]; exact nI_ne (by omega)
      have hxn : x < n := by omega
      have hyn : y < n := by omega
      obtain ⟨hiT, -⟩ := kSt_2 (s := s) h hk hx hy (by omega) (by omega) h4 h5 h6 h7
      have hX := hch hg0 hk3 x hxn (Or.inl hx)
      have hY := hch hg0 hk3 y hyn (Or.inr hy)
      have hnone : (∀ g, kV n 776 u g → kTv τ g ≠ iT τ s x) ∨ (∀ g, kV n 776 u g → kTv τ g ≠ iT τ s y) → vaQ τ n u s t (-1) := fun hz => by
        refine Or.inr ⟨rfl, fun g hg e => ?_, hg0, hk3⟩
        rw [hiT] at e
        rcases (hV g hg).2 with ⟨k', z3, zk, -, -⟩ | ⟨k', a, c, z3, zk, za, zc, w4, w5, w6, w7⟩ | ⟨k', a, z3, zk, za, zc, w4, w6⟩
        · have e2 : kTv τ g = .arg g := tvl_0 zk z3
          rw [e2] at e
          rcases h3 with rfl | rfl | ⟨rfl | rfl, -⟩ <;> exact absurd e (by simp [vnd])
        · have e2 : kTv τ g = vnd k' (kTv τ a) (some (kTv τ c)) := tvl_2 hV zk za zc (by omega) (by omega) w4 w5 w6 w7
          rw [e2] at e
          obtain ⟨-, e3, e4⟩ := vnd_inj2 (by omega) (by omega) e
          rcases hz with hz | hz
          · exact hz a w6 e3
          · exact hz c w7 e4
        · have e2 : kTv τ g = vnd k' (kTv τ a) none := tvl_1 hV zk za zc (by omega) (by omega) w4 w6
          rw [e2] at e
          exact absurd e.symm (vnd_21 (by omega) (by omega))
      refine kX_ialdV rfl rfl (by decide) (t) (by first | rfl | decide) (by omega) (hk) ?_
      repeat refine kX_one rfl ?_
      refine kX_ifT (decide_eq_true (show nI k ≠ nI 3 from nI_ne (by omega))) ?_
      iterate 6 (refine kX_one rfl ?_)
      refine kX_ialdV rfl rfl (by decide) (t) (by first | rfl | decide) (by omega) (hx) ?_
      rcases hX with ⟨gx, gx1, gx2, gx3, gx4⟩ | ⟨gx4, gx2, -⟩
      · have gxl := iE_lt h gx1
        refine kX_ialdV rfl rfl (by decide) (x) (by first | rfl | decide) (by omega) (gx4) ?_
        iterate 5 (refine kX_one rfl ?_)
        refine kX_ialdV rfl rfl (by decide) (t) (by first | rfl | decide) (by omega) (hy) ?_
        iterate 1 (refine kX_one rfl ?_)
        repeat refine kX_one rfl ?_
        refine kX_ifT (decide_eq_true (show nI y ≠ -1 from nI_m1 (by omega))) ?_
        iterate 3 (refine kX_one rfl ?_)
        rcases hY with ⟨gy, gy1, gy2, gy3, gy4⟩ | ⟨gy4, gy2, -⟩
        · have gyl := iE_lt h gy1
          refine kX_ialdV rfl rfl (by decide) (y) (by first | rfl | decide) (by omega) (gy4) ?_
          iterate 1 (refine kX_one rfl ?_)
          repeat refine kX_one rfl ?_
          refine kX_ifF (decide_eq_false (show nI gx ≠ -1 from nI_m1 (by omega))) ?_
          repeat refine kX_one rfl ?_
          refine kX_ifT (decide_eq_true (show nI gy ≠ -1 from nI_m1 (by omega))) ?_
          refine kX_lv _ rfl rfl rfl (k105 k (nI gx) (nI gy) (nI y) hk (fun r hr => ?_))
          rcases hr with ⟨rfl, hno⟩ | ⟨g, g1, rfl, g3⟩
          · refine ⟨_, rfl, Or.inr ⟨rfl, fun g hg e => ?_, hg0, hk3⟩⟩
            rw [hiT, ← gx3, ← gy3] at e
            rcases (hV g hg).2 with ⟨k', z3, zk, -, -⟩ | ⟨k', a, c, z3, zk, za, zc, w4, w5, w6, w7⟩ | ⟨k', a, z3, zk, za, zc, w4, w6⟩
            · have e2 : kTv τ g = .arg g := tvl_0 zk z3
              rw [e2] at e
              rcases h3 with rfl | rfl | ⟨rfl | rfl, -⟩ <;> exact absurd e (by simp [vnd])
            · have e2 : kTv τ g = vnd k' (kTv τ a) (some (kTv τ c)) := tvl_2 hV zk za zc (by omega) (by omega) w4 w5 w6 w7
              rw [e2] at e
              obtain ⟨e5, e3, e4⟩ := vnd_inj2 (by omega) (by omega) e
              subst e5
              obtain rfl := kTv_inj h w6 gx1 e3
              obtain rfl := kTv_inj h w7 gy1 e4
              exact hno g ⟨hg, by rw [zk, fN_nI (by omega)]; omega⟩ ⟨zk, za, zc⟩
            · have e2 : kTv τ g = vnd k' (kTv τ a) none := tvl_1 hV zk za zc (by omega) (by omega) w4 w6
              rw [e2] at e
              exact absurd e.symm (vnd_21 (by omega) (by omega))
          · have hgv := g1.1
            rcases (hV g hgv).2 with ⟨k', z3, zk, zf, -⟩ | ⟨k', a, c, z3, zk, za, zc, w4, w5, w6, w7⟩ | ⟨k', a, z3, zk, za, zc, w4, w6⟩
            · exact absurd (zf.symm.trans g3.2.1) (fun w => nI_m1 (by omega) w.symm)
            · have al := iE_lt h w6
              have cl := iE_lt h w7
              obtain rfl : k' = k := nI_inj (zk.symm.trans g3.1)
              obtain rfl : a = gx := nI_inj (za.symm.trans g3.2.1)
              obtain rfl : c = gy := nI_inj (zc.symm.trans g3.2.2)
              have e2 : kTv τ g = vnd k' (kTv τ a) (some (kTv τ c)) := tvl_2 hV zk za zc (by omega) (by omega) w4 w5 w6 w7
              refine ⟨_, rfl, Or.inl ⟨g, hgv, ?_, by rw [e2, gx3, gy3, hiT], rfl⟩⟩
              unfold kGd
              rw [tgd_2 hV zk za zc (by omega) (by omega) w4 w5 w6 w7, Bool.and_eq_true]
              exact ⟨gx2, gy2⟩
            · exact absurd (zc.symm.trans g3.2.2) (fun w => nI_m1 (by omega) w.symm)
        · refine kX_ialdV rfl rfl (by decide) (y) (by first | rfl | decide) (by omega) (gy4) ?_
          have hf := hnone (Or.inr gy2)
          iterate 1 (refine kX_one rfl ?_)
          repeat refine kX_one rfl ?_
          refine kX_ifF (decide_eq_false (show nI gx ≠ -1 from nI_m1 (by omega))) ?_
          repeat refine kX_one rfl ?_
          refine kX_ifT (decide_eq_true (show nI y ≠ -1 from nI_m1 (by omega))) ?_
          repeat refine kX_one rfl ?_
          refine kX_ret (i := .ireturn) (len := 1) rfl (Or.inr rfl) rfl (⟨⟨_, rfl, hf⟩, rfl⟩)
      · have hf := hnone (Or.inl gx2)
        refine kX_ialdV rfl rfl (by decide) (x) (by first | rfl | decide) (by omega) (gx4) ?_
        iterate 5 (refine kX_one rfl ?_)
        refine kX_ialdV rfl rfl (by decide) (t) (by first | rfl | decide) (by omega) (hy) ?_
        iterate 1 (refine kX_one rfl ?_)
        repeat refine kX_one rfl ?_
        refine kX_ifT (decide_eq_true (show nI y ≠ -1 from nI_m1 (by omega))) ?_
        iterate 3 (refine kX_one rfl ?_)
        refine kX_ialdN rfl rfl (by decide) (y) (by first | rfl | decide) (by omega) ?_
        repeat refine kX_one rfl ?_
        refine kX_ret (i := .ireturn) (len := 1) rfl (Or.inr rfl) rfl (⟨⟨_, rfl, hf⟩, rfl⟩)
    · have hk3 : τ 2 t ≠ nI 3 := by rw [hk]; exact nI_ne (by omega)
      have hxn : x < n := by omega
      obtain ⟨hiT, -⟩ := kSt_1 (s := s) h hk hx hy (by omega) (by omega) h4 h6
      have hX := hch hg0 hk3 x hxn (Or.inl hx)
      refine kX_ialdV rfl rfl (by decide) (t) (by first | rfl | decide) (by omega) (hk) ?_
      repeat refine kX_one rfl ?_
      refine kX_ifT (decide_eq_true (show nI k ≠ nI 3 from nI_ne (by omega))) ?_
      iterate 6 (refine kX_one rfl ?_)
      refine kX_ialdV rfl rfl (by decide) (t) (by first | rfl | decide) (by omega) (hx) ?_
      have harg : ∀ g : Nat, vnd k (iT τ s x) none ≠ .arg g := fun g e => by
        rcases h3 with rfl | ⟨rfl, -⟩ <;> exact absurd e (by simp [vnd])
      rcases hX with ⟨gx, gx1, gx2, gx3, gx4⟩ | ⟨gx4, gx2, -⟩
      · have gxl := iE_lt h gx1
        refine kX_ialdV rfl rfl (by decide) (x) (by first | rfl | decide) (by omega) (gx4) ?_
        iterate 5 (refine kX_one rfl ?_)
        refine kX_ialdV rfl rfl (by decide) (t) (by first | rfl | decide) (by omega) (hy) ?_
        iterate 6 (refine kX_one rfl ?_)
        iterate 1 (refine kX_one rfl ?_)
        repeat refine kX_one rfl ?_
        refine kX_ifF (decide_eq_false (show nI gx ≠ -1 from nI_m1 (by omega))) ?_
        iterate 6 (refine kX_one rfl ?_)
        refine kX_lv _ rfl rfl rfl (k105 k (nI gx) (-1) (-1) hk (fun r hr => ?_))
        rcases hr with ⟨rfl, hno⟩ | ⟨g, g1, rfl, g3⟩
        · refine ⟨_, rfl, Or.inr ⟨rfl, fun g hg e => ?_, hg0, hk3⟩⟩
          rw [hiT] at e
          rcases (hV g hg).2 with ⟨k', z3, zk, -, -⟩ | ⟨k', a, c, z3, zk, za, zc, w4, w5, w6, w7⟩ | ⟨k', a, z3, zk, za, zc, w4, w6⟩
          · have e2 : kTv τ g = .arg g := tvl_0 zk z3
            rw [e2] at e
            exact absurd e.symm (harg g)
          · have e2 : kTv τ g = vnd k' (kTv τ a) (some (kTv τ c)) := tvl_2 hV zk za zc (by omega) (by omega) w4 w5 w6 w7
            rw [e2] at e
            exact absurd e (vnd_21 (by omega) (by omega))
          · have e2 : kTv τ g = vnd k' (kTv τ a) none := tvl_1 hV zk za zc (by omega) (by omega) w4 w6
            rw [e2, ← gx3] at e
            obtain ⟨e5, e3⟩ := vnd_inj1 (by omega) (by omega) e
            subst e5
            obtain rfl := kTv_inj h w6 gx1 e3
            exact hno g ⟨hg, by rw [zk, fN_nI (by omega)]; omega⟩ ⟨zk, za, zc⟩
        · have hgv := g1.1
          rcases (hV g hgv).2 with ⟨k', z3, zk, zf, -⟩ | ⟨k', a, c, z3, zk, za, zc, w4, w5, w6, w7⟩ | ⟨k', a, z3, zk, za, zc, w4, w6⟩
          · exact absurd (zf.symm.trans g3.2.1) (fun w => nI_m1 (by omega) w.symm)
          · have cl := iE_lt h w7
            exact absurd (zc.symm.trans g3.2.2) (nI_m1 (by omega))
          · have al := iE_lt h w6
            obtain rfl : k' = k := nI_inj (zk.symm.trans g3.1)
            obtain rfl : a = gx := nI_inj (za.symm.trans g3.2.1)
            have e2 : kTv τ g = vnd k' (kTv τ a) none := tvl_1 hV zk za zc (by omega) (by omega) w4 w6
            refine ⟨_, rfl, Or.inl ⟨g, hgv, ?_, by rw [e2, gx3, hiT], rfl⟩⟩
            unfold kGd
            rw [tgd_1 hV zk za zc (by omega) (by omega) w4 w6]
            exact gx2
      · have hf : vaQ τ n u s t (-1) := by
          refine Or.inr ⟨rfl, fun g hg e => ?_, hg0, hk3⟩
          rw [hiT] at e
          rcases (hV g hg).2 with ⟨k', z3, zk, -, -⟩ | ⟨k', a, c, z3, zk, za, zc, w4, w5, w6, w7⟩ | ⟨k', a, z3, zk, za, zc, w4, w6⟩
          · have e2 : kTv τ g = .arg g := tvl_0 zk z3
            rw [e2] at e
            exact absurd e.symm (harg g)
          · have e2 : kTv τ g = vnd k' (kTv τ a) (some (kTv τ c)) := tvl_2 hV zk za zc (by omega) (by omega) w4 w5 w6 w7
            rw [e2] at e
            exact absurd e (vnd_21 (by omega) (by omega))
          · have e2 : kTv τ g = vnd k' (kTv τ a) none := tvl_1 hV zk za zc (by omega) (by omega) w4 w6
            rw [e2] at e
            obtain ⟨-, e3⟩ := vnd_inj1 (by omega) (by omega) e
            exact gx2 a w6 e3
        refine kX_ialdV rfl rfl (by decide) (x) (by first | rfl | decide) (by omega) (gx4) ?_
        iterate 5 (refine kX_one rfl ?_)
        refine kX_ialdV rfl rfl (by decide) (t) (by first | rfl | decide) (by omega) (hy) ?_
        repeat refine kX_one rfl ?_
        refine kX_ret (i := .ireturn) (len := 1) rfl (Or.inr rfl) rfl (⟨⟨_, rfl, hf⟩, rfl⟩)
  · have hg1 : kGd τ t := isB_ne.mp (qeqF q)
    have hf : vaQ τ n u s t (nI t) := Or.inl ⟨t, Or.inl ht, hg1, (tW_gd h t (Or.inl ht) hg1).symm, rfl⟩
    repeat refine kX_one rfl ?_
    refine kX_ret (i := .ireturn) (len := 1) rfl (Or.inr rfl) rfl (⟨⟨_, rfl, hf⟩, rfl⟩)
end WG
