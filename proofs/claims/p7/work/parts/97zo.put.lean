/-! the class: findOrPut, groundOf -/
theorem cKc_G {σ : kS} {n t : Nat} {c : Int32} (hn : n ≤ 200) (ht : t ≤ n) (h : cKc σ n c) : cG σ t c := by
  intro z z1 z2
  rcases h with q | ⟨z', a1, a2, a3⟩ | ⟨z', a1, a2, a3⟩
  · exact absurd (z2.symm.trans q) (nI_m1 (by omega))
  · obtain rfl : z = z' := nI_inj (z2.symm.trans a2)
    exact a3
  · have := nI_inj (z2.symm.trans a3)
    omega
/-- what findOrPut and groundOf answer -/
def fpP (σ τ : kS) (K st n u : Nat) (r : Option Value) : Prop := ∃ u' v, u ≤ u' ∧ r = some (.int v) ∧ cKc σ n v ∧ nF σ τ K st ∧ nW τ K st n u'
def fpS (σ : kS) (K g sl : Nat) (w x y z : Int32) (u : Nat) : kS := va_up (va_up (va_up (va_up (va_up (va_up (va_up σ 2 (upd (σ 2) g w)) 3 (upd (σ 3) g x)) 4 (upd (σ 4) g y)) 5 (upd (σ 5) g z)) 6 (upd (σ 6) g (σ (K + 1) sl))) (K + 1) (upd (σ (K + 1)) sl (nI g))) K (upd (σ K) 3 (nI (u + 1)))
theorem fpS_ok {σ : kS} {K st n u sl k : Nat} {x y z : Int32} (h : nW σ K st n u) (hu : u < 576) (hk : 4 ≤ k) (hk9 : k ≤ 9) (hx : cKc σ n x) (hy : cKc σ n y) (hsl : sl < 256) (hs : cSl (nI k) x y = nI sl) : nF σ (fpS σ K (st + u) sl (nI k) x y z u) K st ∧ nW (fpS σ K (st + u) sl (nI k) x y z u) K st n (u + 1) := by
  obtain ⟨⟨h1, h2, h3, h4, h5, h6⟩, hR, he, hg, hT⟩ := h
  have hb := isK_b h1
  have eK : fpS σ K (st + u) sl (nI k) x y z u K = upd (σ K) 3 (nI (u + 1)) := up_eq
  have eH : fpS σ K (st + u) sl (nI k) x y z u (K + 1) = upd (σ (K + 1)) sl (nI (st + u)) := by
    unfold fpS
    rw [up_ne (by omega), up_eq]
  have e2 : fpS σ K (st + u) sl (nI k) x y z u 2 = upd (σ 2) (st + u) (nI k) := by
    unfold fpS
    rw [up_ne (by omega), up_ne (by omega)]
    rfl
  have e3 : fpS σ K (st + u) sl (nI k) x y z u 3 = upd (σ 3) (st + u) x := by
    unfold fpS
    rw [up_ne (by omega), up_ne (by omega)]
    rfl
  have e4 : fpS σ K (st + u) sl (nI k) x y z u 4 = upd (σ 4) (st + u) y := by
    unfold fpS
    rw [up_ne (by omega), up_ne (by omega)]
    rfl
  have e6 : fpS σ K (st + u) sl (nI k) x y z u 6 = upd (σ 6) (st + u) (σ (K + 1) sl) := by
    unfold fpS
    rw [up_ne (by omega), up_ne (by omega)]
    rfl
  have eo : ∀ c, c ≠ K → c ≠ K + 1 → c ≠ 2 → c ≠ 3 → c ≠ 4 → c ≠ 5 → c ≠ 6 → fpS σ K (st + u) sl (nI k) x y z u c = σ c := fun c a0 a1 a2 a3 a4 a5 a6 => by
    unfold fpS
    rw [up_ne a0, up_ne a1, up_ne a6, up_ne a5, up_ne a4, up_ne a3, up_ne a2]
  generalize fpS σ K (st + u) sl (nI k) x y z u = τ at *
  have hF : nF σ τ K st := by
    refine ⟨fun c a1 a2 a3 a4 a5 a6 => eo c (by omega) (by omega) a2 a3 a4 a5 a6, fun j hj => ?_⟩
    rw [e2, e3, e4, e6, pk_un (by omega), pk_un (by omega), pk_un (by omega), pk_un (by omega)]
    exact ⟨rfl, rfl, rfl, rfl⟩
  have egr : ∀ z', τ 8 z' = σ 8 z' := fun z' => by rw [eo _ (by omega) (by omega) (by decide) (by decide) (by decide) (by decide) (by decide)]
  have hgc : ∀ c, cKc σ n c → cKc τ n c := fun c hc => by
    rcases hc with q | ⟨z', z1, z2, z3⟩ | q
    · exact Or.inl q
    · exact Or.inr (Or.inl ⟨z', z1, z2, (egr z').trans z3⟩)
    · exact Or.inr (Or.inr q)
  refine ⟨hF, ⟨h1, h2, by omega, ?_, ?_, ?_⟩, ?_, ⟨fun s hs' => ?_, fun g g1 g2 => ?_⟩, fun g g1 g2 => ?_, cT_nF h1 hF hT⟩
  · rw [eo 1 (by omega) (by omega) (by decide) (by decide) (by decide) (by decide) (by decide)]
    exact h4
  · rw [eK]
    exact h5
  · rw [eK]
    exact pk_us
  · obtain ⟨ln, l1, l2, l3⟩ := hR
    refine ⟨ln, l1, ?_, ?_⟩
    · rw [eK]
      exact l2
    · rw [eo (K + 2) (by omega) (by omega) (by omega) (by omega) (by omega) (by omega) (by omega)]
      exact l3
  · rw [eH, e2, e3, e4]
    by_cases e : s = sl
    · subst e
      refine Or.inr ⟨st + u, by omega, by omega, pk_us, ?_⟩
      rw [pk_us, pk_us, pk_us]
      exact hs
    · rw [pk_un e]
      rcases he.1 s hs' with q | ⟨g, g1, g2, g3, g4⟩
      · exact Or.inl q
      · refine Or.inr ⟨g, g1, by omega, g3, ?_⟩
        rw [pk_un (by omega), pk_un (by omega), pk_un (by omega)]
        exact g4
  · rw [e2, e6]
    by_cases e : g = st + u
    · subst e
      rw [pk_us, pk_us]
      refine ⟨?_, k, hk, hk9, rfl⟩
      rcases he.1 sl hsl with q | ⟨g, g1, g2, g3, -⟩
      · exact Or.inl q
      · exact Or.inr ⟨g, g1, by omega, g3⟩
    · rw [pk_un e, pk_un e]
      obtain ⟨a1, a2⟩ := he.2 g g1 (by omega)
      refine ⟨?_, a2⟩
      rcases a1 with q | ⟨g', x1, x2, x3⟩
      · exact Or.inl q
      · exact Or.inr ⟨g', x1, by omega, x3⟩
  · rw [e3, e4]
    by_cases e : g = st + u
    · subst e
      rw [pk_us, pk_us]
      exact ⟨hgc x hx, hgc y hy⟩
    · rw [pk_un e, pk_un e]
      exact ⟨hgc _ (hg g g1 (by omega)).1, hgc _ (hg g g1 (by omega)).2⟩
set_option maxRecDepth 100000 in
set_option maxHeartbeats 4000000 in
theorem mc_findOrPut (L : Nat) (xs : Nat → Int32) (d : Nat) (σ : kS) (K st n u k : Nat) (x y : Int32) (h : nW σ K st n u) (hk : 4 ≤ k) (hk9 : k ≤ 9) (hx : cKc σ n x) (hy : cKc σ n y) : kXM kT L xs (d + 3) 49 [.ref K, .int (nI k), .int x, .int y] σ (fun r σ' => fpP σ σ' K st n u r) := by
  have h0 := h
  obtain ⟨hB, hR, he, hg, hT⟩ := h
  have hb := isK_b hB.1
  have hn := hT.1
  have hu := hB.2.2.1
  unfold kXM
  have k33 : ∀ v, cKc σ n v → kX kT L xs (d + 3) 49 33 [(4, .int v), (0, .ref K), (1, .int (nI k)), (2, .int x), (3, .int y)] [] σ (fun r σ' => fpP σ σ' K st n u r) := by
    intro v hv
    repeat refine kX_one rfl ?_
    refine kX_ret (i := .ireturn) (len := 1) rfl (Or.inr rfl) rfl (⟨u, v, Nat.le_refl _, rfl, hv, nF_refl σ K st, h0⟩)
  iterate 4 (refine kX_one rfl ?_)
  refine kX_cal (mc_kFind L xs d σ K st n u (nI k) x y hB he hT) rfl (Or.inr rfl) rfl (jcall_v rfl rfl rfl (kT_kn hB.1) rfl rfl) rfl (fun r1 σ1 q1 => ?_)
  obtain ⟨hq, rfl⟩ := q1
  rcases hq with rfl | ⟨t, t1, rfl, t2, t3, t4⟩ | ⟨g, g1, g2, rfl⟩
  · iterate 5 (refine kX_one rfl ?_)
    refine kX_getN rfl rfl (kT_kn hB.1) rfl ?_
    refine kX_top (hB.2.2.2.2.2) ?_
    iterate 1 (refine kX_one rfl ?_)
    repeat refine kX_one rfl ?_
    refine kX_if (fun q => ?_) (fun q => ?_)
    · exact kX_lv _ rfl rfl rfl (k33 _ (Or.inl rfl))
    · have q := qgeF q u 576
      iterate 2 (refine kX_one rfl ?_)
      refine kX_cal (mc_kHas L xs (d + 1) σ K st n u x hB) rfl (Or.inr rfl) rfl (jcall_v rfl rfl rfl (kT_kn hB.1) rfl rfl) rfl (fun r1 σ1 q1 => ?_)
      obtain ⟨rfl, rfl⟩ := q1
      repeat refine kX_one rfl ?_
      refine kX_if (fun q2 => ?_) (fun q2 => ?_)
      · obtain ⟨gx, hgx, rfl⟩ := nH_lt hn hb.2.2.2 hu (isB_ne.mp (qne q2))
        obtain ⟨sl, s1, s2⟩ := cSl_lt (nI k) (nI gx) y
        have hgl : st + u < 1928 := by omega
        iterate 1 (refine kX_one rfl ?_)
        refine kX_getN rfl rfl (kT_kn hB.1) rfl ?_
        refine kX_top (hB.2.2.2.2.1) ?_
        iterate 1 (refine kX_one rfl ?_)
        refine kX_getN rfl rfl (kT_kn hB.1) rfl ?_
        refine kX_top (hB.2.2.2.2.2) ?_
        iterate 1 (refine kX_one rfl ?_)
        refine kX_top (nI_add st u) ?_
        iterate 4 (refine kX_one rfl ?_)
        refine kX_cal (mc_slot L xs (d + 1) σ (nI k) (nI gx) y) rfl (Or.inr rfl) rfl rfl rfl (fun r1 σ1 q1 => ?_)
        obtain ⟨rfl, rfl⟩ := q1
        refine kX_top (s2) ?_
        iterate 2 (refine kX_one rfl ?_)
        refine kX_getN rfl rfl (kT_kn hB.1) rfl ?_
        iterate 3 (refine kX_one rfl ?_)
        refine kX_iastN rfl rfl (by decide) (st + u) (by first | rfl | decide) (hgl) ?_
        iterate 1 (refine kX_one rfl ?_)
        refine kX_getN rfl rfl (kT_kn hB.1) rfl ?_
        iterate 3 (refine kX_one rfl ?_)
        refine kX_iastN rfl rfl (by decide) (st + u) (by first | rfl | decide) (hgl) ?_
        iterate 1 (refine kX_one rfl ?_)
        refine kX_getN rfl rfl (kT_kn hB.1) rfl ?_
        iterate 3 (refine kX_one rfl ?_)
        refine kX_iastN rfl rfl (by decide) (st + u) (by first | rfl | decide) (hgl) ?_
        iterate 1 (refine kX_one rfl ?_)
        refine kX_getN rfl rfl (kT_kn hB.1) rfl ?_
        iterate 4 (refine kX_one rfl ?_)
        refine kX_getN rfl rfl (kT_kn hB.1) rfl ?_
        iterate 2 (refine kX_one rfl ?_)
        refine kX_ialdN rfl rfl (by decide) (gx) (by first | rfl | decide) (hgx) ?_
        iterate 3 (refine kX_one rfl ?_)
        have hB3 : nB (va_up (va_up (va_up σ 2 (upd (σ 2) (st + u) (nI k))) 3 (upd (σ 3) (st + u) (nI gx))) 4 (upd (σ 4) (st + u) y)) K st n u := by
          obtain ⟨a1, a2, a3, a4, a5, a6⟩ := hB
          refine ⟨a1, a2, a3, a4, ?_, ?_⟩
          · rw [up_ne (by omega), up_ne (by omega), up_ne (by omega)]
            exact a5
          · rw [up_ne (by omega), up_ne (by omega), up_ne (by omega)]
            exact a6
        refine kX_cal (mc_kHas L xs (d + 1) _ K st n u y hB3) rfl (Or.inr rfl) rfl (jcall_v rfl rfl rfl (kT_kn hB.1) rfl rfl) rfl (fun r1 σ1 q1 => ?_)
        obtain ⟨rfl, rfl⟩ := q1
        have k129 : ∀ z1 z2 : Int32, kX kT L xs (d + 3) 49 129 [(6, .int (nI sl)), (5, .int (nI (st + u))), (4, .int (-1)), (0, .ref K), (1, .int (nI k)), (2, .int (nI gx)), (3, .int y)] [.int z2, .int z1, .int (nI (st + u)), .ref 5] (va_up (va_up (va_up σ 2 (upd (σ 2) (st + u) (nI k))) 3 (upd (σ 3) (st + u) (nI gx))) 4 (upd (σ 4) (st + u) y)) (fun r σ' => fpP σ σ' K st n u r) := by
          intro z1 z2
          iterate 1 (refine kX_one rfl ?_)
          refine kX_iastN rfl rfl (by decide) (st + u) (by first | rfl | decide) (hgl) ?_
          iterate 1 (refine kX_one rfl ?_)
          refine kX_getN rfl rfl (kT_kn hB.1) rfl ?_
          iterate 3 (refine kX_one rfl ?_)
          refine kX_getN rfl rfl (kT_kn hB.1) rfl ?_
          iterate 1 (refine kX_one rfl ?_)
          refine kX_ialdV rfl (kT_k1 hB.1) (by decide) (sl) (by first | rfl | decide) (s1) (by rw [up_ne (by omega), up_ne (by omega), up_ne (by omega), up_ne (by omega)]) ?_
          refine kX_iastN rfl rfl (by decide) (st + u) (by first | rfl | decide) (hgl) ?_
          iterate 1 (refine kX_one rfl ?_)
          refine kX_getN rfl rfl (kT_kn hB.1) rfl ?_
          iterate 2 (refine kX_one rfl ?_)
          refine kX_iastN rfl (kT_k1 hB.1) (by decide) (sl) (by first | rfl | decide) (s1) ?_
          iterate 2 (refine kX_one rfl ?_)
          refine kX_getN rfl rfl (kT_kn hB.1) rfl ?_
          refine kX_top (y := nI u) (by rw [up_ne (by omega), up_ne (by omega), up_ne (by omega), up_ne (by omega), up_ne (by omega), up_ne (by omega)]; exact hB.2.2.2.2.2) ?_
          iterate 2 (refine kX_one rfl ?_)
          refine kX_putN rfl rfl (kT_kn hB.1) rfl (rfl) rfl ?_
          refine kX_st (fpS σ K (st + u) sl (nI k) (nI gx) y (z1 + z2) u) ?_ ?_
          · unfold fpS
            rw [← nI_1]
            congr 1
            · congr 1
              rw [up_ne (by omega), up_ne (by omega), up_ne (by omega), up_ne (by omega), up_ne (by omega)]
            · rw [up_ne (by omega), up_ne (by omega), up_ne (by omega), up_ne (by omega), up_ne (by omega), up_ne (by omega)]
              rfl
          iterate 1 (refine kX_one rfl ?_)
          have hok := fpS_ok (z := z1 + z2) h0 q hk hk9 hx hy s1 s2
          refine kX_ret (i := .ireturn) (len := 1) rfl (Or.inr rfl) rfl (⟨u + 1, nI (st + u), by omega, rfl, Or.inr (Or.inr ⟨st + u, by omega, by omega, rfl⟩), hok.1, hok.2⟩)
        repeat refine kX_one rfl ?_
        refine kX_if (fun q3 => ?_) (fun q3 => ?_)
        · iterate 1 (refine kX_one rfl ?_)
          exact kX_lv _ rfl rfl rfl (k129 _ _)
        · obtain ⟨gy, hgy, rfl⟩ := nH_lt hn hb.2.2.2 hu (isB_ne.mp (qeqF q3))
          iterate 1 (refine kX_one rfl ?_)
          refine kX_getN rfl rfl (kT_kn hB.1) rfl ?_
          iterate 2 (refine kX_one rfl ?_)
          refine kX_ialdN rfl rfl (by decide) (gy) (by first | rfl | decide) (hgy) ?_
          iterate 1 (refine kX_one rfl ?_)
          exact kX_lv _ rfl rfl rfl (k129 _ _)
      · exact kX_lv _ rfl rfl rfl (k33 _ (Or.inl rfl))
  · have hgd : σ 8 t = 1 := by
      have := (hT.2.2.2 t t1).2.2.2.2.2.1 (by rw [t2]; exact nI_ne (by omega))
      rw [this, t3, t4]
      exact ⟨cKc_G hn (by omega) hx, cKc_G hn (by omega) hy⟩
    iterate 3 (refine kX_one rfl ?_)
    repeat refine kX_one rfl ?_
    refine kX_if (fun q => ?_) (fun q => ?_)
    · exact kX_lv _ rfl rfl rfl (k33 (nI t) (Or.inr (Or.inl ⟨t, t1, rfl, hgd⟩)))
    · exact absurd (qneF q) (nI_m1 (by omega))
  · iterate 3 (refine kX_one rfl ?_)
    repeat refine kX_one rfl ?_
    refine kX_if (fun q => ?_) (fun q => ?_)
    · exact kX_lv _ rfl rfl rfl (k33 (nI g) (Or.inr (Or.inr ⟨g, by omega, by omega, rfl⟩)))
    · exact absurd (qneF q) (nI_m1 (by omega))
