/-! alike: undo -/
theorem nnI_nI' {a : Nat} (ha : a < 2147483648) : nnI (nI a) = nI a := if_neg (nI_m1 ha)
/-- what is RECEIVED stands for nothing at first -/
theorem aS_op {σ : kS} {n b R S C m s r k : Nat} {kl : List Nat} (h : aJ σ n b R S C kl m) (hs : s < S) (r1 : r < R) (r2 : σ 255 s = nI r) (hk : k < fN (σ 244 r)) (h2 : σ 246 (6 * r + k) = nI 2) : σ 17 (7 * s + 1 + k) = -1 := by
  have hR4 := h.1.2.1.1
  have hn := h.1.1.1
  obtain ⟨⟨v, v6, v2⟩, -⟩ := h.1.2.1.2.2.1 r r1
  have hfv : fN (σ 244 r) = v := by rw [v2]; exact fN_nI (by omega)
  have hk6 : k < 6 := by omega
  have hfr : fN (σ 255 s) = r := by rw [r2]; exact fN_nI (by omega)
  have ha := (h.2.2.2.2.1 s hs).2.2.1 k hk6
  rw [hfr, if_pos hk] at ha
  obtain ⟨r', e1, e2, -, e3⟩ := h.1.2.2.1.2.2 s hs
  obtain rfl : r = r' := nI_inj (r2.symm.trans e2)
  obtain ⟨as, a1, a2⟩ := e3 k hk
  have hcv := h.2.1.2.2.1.2.2.2 s k hs hk6
  rw [show 0 + 7 * s + 1 + k = 7 * s + 1 + k by omega] at hcv
  rcases hcv with q | ⟨z, z1, z2, -⟩
  · exact q
  · rw [z2, nnI_nI' (by omega)] at ha
    rcases a2 with ⟨-, a2⟩ | ⟨a2, -⟩
    · rw [a2] at ha
      exact absurd (show nI z < 0 by rw [ha]; decide) (nI_pos (by omega))
    · have := nI_inj (a1.symm.trans h2) (by omega) (by decide)
      omega
set_option maxRecDepth 100000 in
set_option maxHeartbeats 4000000 in
theorem bo_undo (L : Nat) (xs : Nat → Int32) (d d' m : Nat) (σ : kS) (h : bJ m σ) : kXM kT L xs (d + 3) 131 [.ref 0] σ (fun r τ => ∃ z, r = some (.int z) ∧ kXM kT L xs (d' + 1) 208 [.ref 232] τ (fun r' ω => r' = some (.int z) ∧ bJ m ω)) := by
  have hb := h
  obtain ⟨n, b, R, S, C, kl, h⟩ := h
  have hU := h.2.2.2.2.2.2.2.1
  have hRo := h.1.2.1
  have hR4 := hRo.1
  have hn := h.1.1.1
  unfold kXM
  repeat refine kX_one rfl ?_
  refine kX_if (fun q => ?_) (fun q => ?_)
  · have hon : σ 181 8 ≠ 0 := qne q
    have q : σ 232 52 ≠ 0 := hU.1.mp hon
    obtain ⟨u1, u2, u3, u4, -⟩ := hU.2 q
    rcases h.1.2.2.2.2.2.1 with h6 | ⟨h6, ds, g1, g2, g3⟩
    · exact absurd h6 q
    have hlen := mRn_len hRo h.1.2.2.1.1 g1
    iterate 3 (refine kX_one rfl ?_)
    refine kX_top (y := nI ds.length) (u1.trans g1.1) ?_
    rcases snoc_cases ds with rfl | ⟨ds0, s, rfl⟩
    · repeat refine kX_one rfl ?_
      refine kX_ret (i := .ireturn) (len := 1) rfl (Or.inr rfl) rfl (⟨_, rfl, ?_⟩)
      refine mg_undo L xs d' σ n b R S C kl _ h.1 (fun z => absurd z q) (fun _ _ => ⟨rfl, hb⟩) (fun ds0 s r V _ g _ _ _ _ _ _ _ _ => ?_)
      have gl := mRn_len hRo h.1.2.2.1.1 g
      have := nI_inj (g1.1.symm.trans g.1)
      simp at this
    have hl1 : (ds0 ++ [s]).length = ds0.length + 1 := by simp
    have hs : s < S := g1.2.2.1 s (by simp)
    have hcs : (ds0 ++ [s]).count s = ds0.count s + 1 := by rw [List.count_append]; simp
    obtain ⟨r, r1, r2, r3, r4, -⟩ := g1.2.2.2 s hs
    rw [hcs] at r3 r4
    obtain ⟨p1, p2⟩ := lst_pop g1.2.1
    obtain ⟨-, ev, ev1, ev2⟩ := hRo.2.2.1 r r1
    have hfe : fN (σ 247 r) = ev := by rw [ev2]; exact fN_nI (by omega)
    rw [hfe] at r4
    have hR1 := h.2.2.2.1 r r1
    have hE := hR1.2.2.2.2 (ds0.count s) (by rw [hfe]; omega)
    have hcE : ∀ j, j < (bls σ r (ds0.count s)).length → σ 249 (6 * r + ds0.count s) = 0 → ∃ p, p < 6 ∧ σ (29 + 35 * r + 5 * ds0.count s) j = nI p := fun j hj h0 => by
      obtain ⟨v, e, v1, e1, v2, e2, so1, ev1'⟩ := h.2.1.2.1.2.2 r r1
      have : e = ev := nI_inj (e2.symm.trans (hR1.2.1.trans ev2))
      subst this
      obtain ⟨t, mm, qq, t1, m6, -, t2, m2, -, bd, -⟩ := ev1' (ds0.count s) (by omega)
      have hb6 := (hE.2.2.2 h0).2.1
      have : mm = (bls σ r (ds0.count s)).length := nI_inj (m2.symm.trans (hE.2.2.2 h0).1)
      subst this
      obtain ⟨p, p1, p2⟩ := (bd j hj).1
      exact ⟨p, p1, (congrFun (congrArg σ (by omega : 29 + 35 * r + 5 * ds0.count s = 28 + 35 * r + 5 * ds0.count s + 1)) j).trans p2⟩
    obtain ⟨bl, bl1, bl2, bl3, bl4⟩ : ∃ bl : List Nat, σ (28 + 35 * r + 5 * ds0.count s) 4 = nI bl.length ∧ bl.length ≤ 6 ∧ (∀ j (hj : j < bl.length), (bl[j]'hj) < 6 ∧ σ (29 + 35 * r + 5 * ds0.count s) j = nI (bl[j]'hj)) ∧ ∀ k, k ∈ bl ↔ nbv σ r (ds0.count s) k := by
      by_cases h0 : σ 249 (6 * r + ds0.count s) = 0
      · obtain ⟨c1, c2, c3, -⟩ := hE.2.2.2 h0
        refine ⟨(bls σ r (ds0.count s)).map (fun u => fN (σ 241 u)), by rw [List.length_map]; exact c1, by rw [List.length_map]; exact c2, fun j hj => ?_, fun k => ?_⟩
        · rw [List.length_map] at hj
          obtain ⟨p, p1, p2⟩ := hcE j hj h0
          rw [List.getElem_map]
          have : fN (σ 241 ((bls σ r (ds0.count s))[j]'hj)) = p := by rw [← (c3 j hj).1, p2]; exact fN_nI (by omega)
          rw [this]
          exact ⟨p1, p2⟩
        · rw [nbv_bls h.1.1 hRo r1 (by rw [hfe]; omega), List.mem_map]
          exact ⟨fun z => ⟨h0, z⟩, fun z => z.2⟩
      · refine ⟨[], hE.2.2.1 h0, Nat.zero_le _, fun j hj => absurd hj (Nat.not_lt_zero j), fun k => ?_⟩
        rw [nbv_bls h.1.1 hRo r1 (by rw [hfe]; omega)]
        exact ⟨fun z => absurd z (List.not_mem_nil), fun z => absurd z.1 h0⟩
    repeat refine kX_one rfl ?_
    refine kX_ifT (decide_eq_true (by rw [hl1]; exact nI_ne0 (by omega) (by omega))) ?_
    iterate 2 (refine kX_one rfl ?_)
    refine kX_cal (mf_takeBack L xs d σ n R S C s r (ds0.count s) ds0.length ev bl h.2.1 hon (by rw [u1, g1.1, hl1]) (by omega) ((u2 ds0.length (by rw [g1.1, fN_nI (by omega)]; omega)).trans p1) hs r1 (((h.2.2.2.2.1 s hs).1).trans r2) (((u3 s hs).1).trans r3) (hR1.2.1.trans ev2) ev1 (by omega) bl1 bl2 bl3) rfl (Or.inr rfl) rfl rfl rfl (fun r1 τ q1 => ?_)
    obtain ⟨rfl, B, hB, rfl, hJ⟩ := q1
    refine kX_ret (i := .ireturn) (len := 1) rfl (Or.inr rfl) rfl (⟨_, rfl, ?_⟩)
    have hi : ∀ c, 232 ≤ c → va_up (va_up σ 181 (upd (upd (σ 181) 7 (nI ds0.length)) 9 (-1))) 182 B c = σ c := fun c hc => by rw [up_ne (by omega), up_ne (by omega)]
    refine mg_undo L xs d' _ n b R S C kl _ (mI_hi hi h.1) (fun z => absurd z q) (fun _ z => ?_) (fun ds' s' r' V _ g s1 r1' r2' d1 d2 v1 v2 hI => ?_)
    · have z : σ 232 55 = nI 0 := z
      have := nI_inj (z.symm.trans g1.1)
      omega
    · have g : mRn σ n R S (ds' ++ [s']) := g
      have el : ds' ++ [s'] = ds0 ++ [s] := lst_inj (mRn_len hRo h.1.2.2.1.1 g) hlen (fun s hs => by have := g.2.2.1 s hs; have := h.1.2.2.1.1; omega) (fun s hs => by have := g1.2.2.1 s hs; have := h.1.2.2.1.1; omega) (g.1.symm.trans g1.1) g.2.1 g1.2.1
      obtain ⟨rfl, e2⟩ := List.append_inj' el rfl
      obtain rfl : s' = s := by simpa using e2
      obtain rfl : r' = r := nI_inj (r2'.symm.trans r2)
      refine ⟨rfl, bJ_run h (b' := b) hI (cJ_low (fun c hc => ?_) hJ) (fun c c1 c2 c3 _ => ?_) (fun c c1 c2 c3 _ _ => ?_) (fun j j1 j2 j3 => ?_) ?_⟩
      · show udS (va_up (va_up σ 181 (upd (upd (σ 181) 7 (nI ds'.length)) 9 (-1))) 182 B) V s' ds'.length (ds'.count s') c = _
        unfold udS
        rw [up_ne (by omega), up_ne (by omega), up_ne (by omega), up_ne (by omega)]
      · show udS (va_up (va_up σ 181 (upd (upd (σ 181) 7 (nI ds'.length)) 9 (-1))) 182 B) V s' ds'.length (ds'.count s') c = _
        unfold udS
        rw [up_ne (by omega), up_ne (by omega), up_ne (by omega), up_ne (by omega), up_ne c3, up_ne c2]
      · show udS (va_up (va_up σ 181 (upd (upd (σ 181) 7 (nI ds'.length)) 9 (-1))) 182 B) V s' ds'.length (ds'.count s') c = _
        unfold udS
        rw [up_ne (by omega), up_ne c3, up_ne c2, up_ne (by omega), up_ne (by omega), up_ne (by omega)]
      · show upd (upd (σ 232) 55 (nI ds'.length)) 47 0 j = _
        rw [pk_un j3, pk_un j2]
      · refine ⟨hU.1, fun _ => ⟨rfl, fun i hi => ?_, fun s hs => ⟨?_, fun k hk => ?_⟩, fun s hs k hk ho => ?_, fun hg => ?_⟩⟩
        · have hi : i < fN (nI ds'.length) := hi
          rw [fN_nI (by omega)] at hi
          exact u2 i (by rw [g1.1, hl1, fN_nI (by omega)]; omega)
        · show B (7 * s) = upd (σ 264) s' (nI (ds'.count s')) s
          by_cases e : s = s'
          · subst e
            rw [pk_us]
            exact hB.1
          · rw [pk_un e, hB.2.1 (7 * s) (by omega) (fun k hk => by omega)]
            exact (u3 s hs).1
        · show nnI (B (7 * s + 1 + k)) = V (6 * s + k)
          by_cases e : s = s'
          · subst e
            rw [hB.2.2 k hk, v2 k hk]
            by_cases z : nbv σ r' (ds'.count s) k
            · rw [if_pos ((bl4 k).mpr z)]
              exact (cit_T z).symm
            · rw [if_neg (fun y => z ((bl4 k).mp y))]
              exact ((u3 s hs).2 k hk).trans (cit_F z).symm
          · rw [hB.2.1 (7 * s + 1 + k) (by omega) (fun k' hk' => by omega), v1 (6 * s + k) (fun k' hk' => by omega)]
            exact (u3 s hs).2 k hk
        · have ho : σ 17 (7 * s + 1 + k) ≠ -1 := ho
          show B (7 * s + 1 + k) = σ 17 (7 * s + 1 + k)
          by_cases e : s = s'
          · subst e
            rw [hB.2.2 k hk]
            by_cases z : nbv σ r' (ds'.count s) k
            · refine absurd (aS_op h hs r1' r2' z.1.1 ?_) ho
              exact Classical.byContradiction fun y => z.2 ⟨z.1.1, Or.inl y⟩
            · rw [if_neg (fun y => z ((bl4 k).mp y))]
              exact u4 s hs k hk ho
          · rw [hB.2.1 (7 * s + 1 + k) (by omega) (fun k' hk' => by omega)]
            exact u4 s hs k hk ho
        · exact absurd hg.symm (nI_m1 (by omega))
  · have q : ¬ σ 232 52 ≠ 0 := fun z => hU.1.mpr z (qneF q)
    repeat refine kX_one rfl ?_
    refine kX_ret (i := .ireturn) (len := 1) rfl (Or.inr rfl) rfl (⟨_, rfl, ?_⟩)
    have h6 : σ 232 52 = 0 := Classical.byContradiction q
    exact mg_undo L xs d' σ n b R S C kl _ h.1 (fun _ => ⟨rfl, hb⟩) (fun z => absurd (h6.symm.trans z) (by decide)) (fun ds0 s r V z _ _ _ _ _ _ _ _ _ => absurd (h6.symm.trans z) (by decide))
