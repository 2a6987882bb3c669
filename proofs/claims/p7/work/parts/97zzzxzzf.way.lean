/-! alike: a way to receive, as both sides see it -/
noncomputable def owS (σ : kS) (r e : Nat) : List Nat := (bls σ r e).map (fun u => fN (σ 240 u))
section WT
variable {σ τ : kS} {n b R S C m : Nat} {kl : List Nat}
theorem tb_at (h : aJ σ n b R S C kl m) (hG : cGx σ τ) : mTb τ n b ∧ (∀ t, t < n → aT1 τ t) ∧ cCn τ n ∧ gR τ n := by
  have hn := h.1.1.1
  exact ⟨(mI_hi (sF_hi hG.1) h.1).1, aT1_sF hn hG.1 hG.2.1 h.2.2.1.1, cCn_sF hn hG.1 h.2.2.1.2, gR_sF h.1.1 h.2.2.1.1 hG.1 hG.2.1⟩
theorem kVs_at (h : aJ σ n b R S C kl m) (hG : cGx σ τ) {x : Nat} (hx : x < n) : kVs τ x = tvs (σ 233) (σ 234) (σ 235) x := by
  obtain ⟨t1, t2, -⟩ := tb_at h hG
  have hi := sF_hi hG.1
  rw [aT_vs t1 t2 hx, hi 233 (by decide), hi 234 (by decide), hi 235 (by decide)]
theorem kGd_at (h : aJ σ n b R S C kl m) (hG : cGx σ τ) {x : Nat} (hx : x < n) : tgd (τ 2) (τ 3) (τ 4) x = tgd (σ 233) (σ 234) (σ 235) x := by
  obtain ⟨t1, t2, -⟩ := tb_at h hG
  have hi := sF_hi hG.1
  rw [aT_gd t1 t2 hx, hi 233 (by decide), hi 234 (by decide), hi 235 (by decide)]
theorem kOk_at (h : aJ σ n b R S C kl m) (hG : cGx σ τ) : ∀ t, t < n → t < 100000 ∧ tOk (fun t => t < n) (mAG τ n) (τ 2) (τ 3) (τ 4) t := fun t ht => by
  obtain ⟨t1, t2, -⟩ := tb_at h hG
  obtain ⟨a1, a2, a3, -⟩ := t2 t ht
  exact ⟨(mTb_num t1 t ht).1, tOk_mono (fun _ _ q => q) (fun _ _ q => q) a1 a2 a3 (mTb_num t1 t ht).2⟩
/-- an EVENT that receives, as the class has it -/
theorem ev_facts {r dn t : Nat} (h : aJ σ n b R S C kl m) (hG : cGx σ τ) (r1 : r < R) (hdn : dn < fN (σ 247 r)) (hse : σ 249 (6 * r + dn) = 0) (ht : t < n) (het : σ 248 (6 * r + dn) = nI t) :
    evQ τ (28 + 35 * r + 5 * dn) (owP σ r dn) (owS σ r dn) ∧ ∃ pl, plP τ n (28 + 35 * r + 5 * dn) t pl ∧ (∀ x ∈ pl, x < n ∧ ∀ v ∈ kVs τ x, v ∈ tvs (σ 233) (σ 234) (σ 235) t) ∧ ∀ j, j < (bls σ r dn).length → ∃ f, f ≤ pl.length ∧ τ (28 + 35 * r + 5 * dn + 4) (j + 1) = nI f ∧ ∀ i (hi : i < pl.length), i < f → ∀ v ∈ kVs τ (pl[i]'hi), ∀ j' (hj : j' < (bls σ r dn).length), j ≤ j' → v ≠ (bls σ r dn)[j']'hj := by
  have hT := h.1.1
  have hR := h.1.2.1
  have hn := hT.1
  have hR4 := hR.1
  have he6 : fN (σ 247 r) ≤ 6 := by
    obtain ⟨-, e, e1, e2⟩ := hR.2.2.1 r r1
    rw [e2, fN_nI (by omega)]
    exact e1
  have hft : fN (σ 248 (6 * r + dn)) = t := by rw [het]; exact fN_nI (by omega)
  obtain ⟨b1, b2, b3, b4, b5⟩ := bls_ok hT hR r1 hdn het ht
  obtain ⟨e1, -, -, e4⟩ := (h.2.2.2.1 r r1).2.2.2.2 dn hdn
  obtain ⟨c1, c2, c3, pl, p0, p1, p2, p3, p4, p5, p6⟩ := e4 hse
  rw [hft] at p3 p4
  have cc : ∀ j, j ≤ 4 → τ (28 + 35 * r + 5 * dn + j) = σ (28 + 35 * r + 5 * dn + j) := fun j hj => sF_13 hG.1 _ (by omega) (by omega)
  have cc0 : τ (28 + 35 * r + 5 * dn) = σ (28 + 35 * r + 5 * dn) := cc 0 (by omega)
  have hlt : ∀ x ∈ pl, x < n := fun x hx => by
    have := (p4 x hx).1
    omega
  refine ⟨⟨?_, ?_, ?_, fun j hj => ?_, fun j hj => ?_, ow_pw hT hR r1 hdn het ht⟩, pl, ⟨p0, by rw [cc0]; exact p1, by rw [cc 3 (by omega)]; exact p2, by rw [cc0]; exact e1.trans het, p3, hlt, fun i hi ho hk p hp hfs => ?_⟩, fun x hx => ⟨hlt x hx, ?_⟩, fun j hj => ?_⟩
  · unfold owS
    rw [List.length_map, cc0]
    exact c1
  · unfold owP owS
    rw [List.length_map, List.length_map]
  · unfold owS
    rw [List.length_map]
    exact c2
  · have hj' : j < (bls σ r dn).length := by unfold owP at hj; rw [List.length_map] at hj; exact hj
    obtain ⟨-, ⟨k, k1, k2⟩, -⟩ := b3 _ (List.getElem_mem hj')
    have e : (owP σ r dn)[j]'hj = k := by
      simp only [owP, List.getElem_map]
      rw [k2]
      exact fN_nI (by omega)
    rw [e]
    refine ⟨k1, ?_⟩
    rw [cc 1 (by omega), show 28 + 35 * r + 5 * dn + 1 = 29 + 35 * r + 5 * dn by omega]
    exact (c3 j hj').1.trans k2
  · have hj' : j < (bls σ r dn).length := by unfold owS at hj; rw [List.length_map] at hj; exact hj
    obtain ⟨-, -, so, s1, s2⟩ := b3 _ (List.getElem_mem hj')
    have e : (owS σ r dn)[j]'hj = so := by
      simp only [owS, List.getElem_map]
      rw [s2]
      exact fN_nI (by omega)
    rw [e]
    refine ⟨by omega, ?_⟩
    rw [cc 2 (by omega), show 28 + 35 * r + 5 * dn + 2 = 30 + 35 * r + 5 * dn by omega]
    exact (c3 j hj').2.trans s2
  · have hx := hlt _ (List.getElem_mem hi)
    obtain ⟨-, t2, -⟩ := tb_at h hG
    obtain ⟨a1, a2, a3, -⟩ := t2 _ hx
    have hh := sF_hi hG.1
    rw [hh 233 (by decide)] at a1
    rw [hh 234 (by decide)] at a2
    rw [hh 235 (by decide)] at a3
    have ho' : opn σ (pl[i]'hi) := by
      unfold kGd at ho
      rw [kGd_at h hG hx] at ho
      exact ⟨by simpa using ho, fun e => hk (a1.trans e)⟩
    obtain ⟨⟨j1, hj1, l1, f1⟩, q2⟩ := p5 i hi ho'
    have hb : ∀ j (hj : j < pl.length), (pl[j]'hj) < n := fun j hj => hlt _ (List.getElem_mem hj)
    rcases hfs with w | w
    · refine ⟨j1, hj1, l1, ?_⟩
      have := hb j1 hj1
      exact nI_inj (w.symm.trans (a2.trans f1))
    · rcases q2 with q2 | ⟨j2, hj2, l2, f2⟩
      · exact absurd (w.symm.trans (a3.trans q2)) (nI_m1 (by omega))
      · refine ⟨j2, hj2, l2, ?_⟩
        have := hb j2 hj2
        exact nI_inj (w.symm.trans (a3.trans f2))
  · rw [kVs_at h hG (hlt x hx)]
    exact (p4 x hx).2
  · obtain ⟨f, f1, f2, f3⟩ := p6 j hj
    refine ⟨f, f1, by rw [cc 4 (by omega)]; exact f2, fun i hi hif v hv => ?_⟩
    rw [kVs_at h hG (hlt _ (List.getElem_mem hi))] at hv
    exact f3 i hi hif v hv
/-- what stands for VARIABLES is all that matters -/
theorem tW_cg {W W' : Nat → Jvm.Term} {AG : Nat → Prop} (hV : ∀ t, t < n → t < 100000 ∧ tOk (fun t => t < n) AG (τ 2) (τ 3) (τ 4) t) : ∀ t, t < n → (∀ v ∈ kVs τ t, W v = W' v) → tW τ W t = tW τ W' t := by
  intro t
  induction t using Nat.strongRecOn with
  | _ t ih =>
    intro ht hst
    rcases (hV t ht).2 with ⟨k, h3, hk, -, -⟩ | ⟨k, x, y, h3, hk, hx, hy, h4, h5, h6, h7⟩ | ⟨k, x, h3, hk, hx, hy, h4, h6⟩
    · unfold tW
      rw [tA_0 hk h3, tA_0 hk h3]
      by_cases hk3 : τ 2 t = nI 3
      · rw [if_pos hk3, if_pos hk3]
        refine hst t ?_
        unfold kVs tvs
        rw [tA_0 hk h3, if_pos hk3]
        exact List.mem_singleton.mpr rfl
      · rw [if_neg hk3, if_neg hk3]
    · have evs : kVs τ t = kVs τ x ++ kVs τ y := tA_2 hV hk hx hy (by omega) (by omega) h4 h5 h6 h7
      have e4 : tW τ W t = vnd k (tW τ W x) (some (tW τ W y)) := tA_2 hV hk hx hy (by omega) (by omega) h4 h5 h6 h7
      have e5 : tW τ W' t = vnd k (tW τ W' x) (some (tW τ W' y)) := tA_2 hV hk hx hy (by omega) (by omega) h4 h5 h6 h7
      rw [e4, e5, ih x h4 h6 (fun u hu => hst u (by rw [evs]; exact List.mem_append_left _ hu)), ih y h5 h7 (fun u hu => hst u (by rw [evs]; exact List.mem_append_right _ hu))]
    · have evs : kVs τ t = kVs τ x ++ [] := tA_1 hV hk hx hy (by omega) (by omega) h4 h6
      have e4 : tW τ W t = vnd k (tW τ W x) none := tA_1 hV hk hx hy (by omega) (by omega) h4 h6
      have e5 : tW τ W' t = vnd k (tW τ W' x) none := tA_1 hV hk hx hy (by omega) (by omega) h4 h6
      rw [e4, e5, ih x h4 h6 (fun u hu => hst u (by rw [evs]; exact List.mem_append_left _ hu))]
theorem tin_hi {υ υ' : kS} (e : ∀ c, 232 ≤ c → υ' c = υ c) : tin υ' = tin υ := by
  funext s t
  unfold tin mVl
  rw [e 233 (by decide), e 234 (by decide), e 235 (by decide), e 265 (by decide), e 241 (by decide)]
/-- the draft holds a way: what the EVENT's TERM is -/
theorem wy_iT {s t x : Nat} {a : Nat → Int32} (h : aJ σ n b R S C kl m) (hG : cGx σ τ) (hst : stF τ 202 0 S = a) (hs : s < S) (hx : x < n) (hv : ∀ u ∈ tvs (σ 233) (σ 234) (σ 235) t, ∃ p z, p < 6 ∧ z < n ∧ σ 241 u = nI p ∧ aV a (6 * s + p) = nI z ∧ tgd (σ 233) (σ 234) (σ 235) z = true ∧ (σ 240 u = nI 0 → σ 233 z = nI 0)) (hsub : ∀ v ∈ kVs τ x, v ∈ tvs (σ 233) (σ 234) (σ 235) t) : kSt τ n 202 (7 * s + 1) (wV τ s) x ∧ iT τ s x = tin (stI σ a) s x := by
  have hi := sF_hi hG.1
  obtain ⟨t1, t2, -⟩ := tb_at h hG
  have hn := t1.1
  have hkv := kVs_at h hG hx
  have hmst : mSt (stI τ a) n s x := by
    intro u hu
    have hu : u ∈ tvs (τ 233) (τ 234) (τ 235) x := hu
    rw [hi 233 (by decide), hi 234 (by decide), hi 235 (by decide), ← hkv] at hu
    obtain ⟨p, z, p1, p2, p3, p4, p5, p6⟩ := hv u (hsub u hu)
    refine ⟨p, z, p1, p2, ?_, p4, ?_, ?_⟩
    · show τ 241 u = _
      rw [hi 241 (by decide)]
      exact p3
    · show tgd (τ 233) (τ 234) (τ 235) z = true
      rw [hi 233 (by decide), hi 234 (by decide), hi 235 (by decide)]
      exact p5
    · show τ 240 u = _ → τ 233 z = _
      rw [hi 233 (by decide), hi 240 (by decide)]
      exact p6
  have hval : ∀ k, k < 6 → nnI (τ 202 (7 * s + 1 + k)) = stI τ a 265 (6 * s + k) := fun k hk => by
    rw [stI_va τ a hk, ← hst]
    unfold stF
    rw [if_pos (by omega), Nat.zero_add]
  obtain ⟨g1, g2⟩ := kSt_run (σ := stI τ a) (τ := τ) (A := 202) (base := 7 * s + 1) (b := b) t1 t2 hx hmst hval rfl rfl (fun z _ => ⟨rfl, rfl, rfl⟩)
  have hW : ∀ v ∈ kVs τ x, wV τ s v = (fun v => tvl (stI τ a 233) (stI τ a 234) (stI τ a 235) (mVl (stI τ a) s v)) v := fun v hv' => by
    obtain ⟨p, z, z1, z2, z3, z4, z5, z6, z7⟩ := g1 v hv'
    rw [← z6]
    unfold wV
    rw [z3, fN_nI (by omega), z4, fN_nI (by omega)]
  refine ⟨fun v hv' => ?_, ?_⟩
  · obtain ⟨p, z, z1, z2, z3, z4, z5, z6, z7⟩ := g1 v hv'
    exact ⟨p, z, z1, z2, z3, z4, z5, z6.trans (hW v hv').symm, z7⟩
  · unfold iT
    rw [tW_cg (kOk_at h hG) x hx hW, g2, tin_hi (stI_hi hi a)]
/-- a part stays when the draft changes elsewhere -/
theorem pt_shift {ω : kS} {u s x : Nat} {l : rwT} (h : aJ σ n b R S C kl m) (hG : cGx σ τ) (hF : fF τ ω) (hx : x < n) (hw : ∀ v ∈ kVs τ x, ω 202 (7 * s + 1 + fN (τ 12 v)) = τ 202 (7 * s + 1 + fN (τ 12 v))) (hp : ptQ τ n u l s x) : ptQ ω n u l s x := by
  have e : ∀ c, c < 202 ∨ 232 ≤ c ∨ c = 230 ∨ c = 231 → ω c = τ c := fun c hc => hF c (by omega) (by omega) (by omega)
  have eT : iT ω s x = iT τ s x := by
    have e1 : iT ω s x = tW τ (wV ω s) x := by
      unfold iT tW
      rw [e 2 (by decide), e 3 (by decide), e 4 (by decide)]
    rw [e1]
    refine tW_cg (kOk_at h hG) x hx (fun v hv => ?_)
    unfold wV kTv
    rw [e 2 (by decide), e 3 (by decide), e 4 (by decide), e 12 (by decide), hw v hv]
  unfold ptQ vaQ at hp ⊢
  rw [eT, e 230 (by decide), e 231 (by decide)]
  unfold kIn kTv kGd mA at hp ⊢
  rw [e 2 (by decide), e 3 (by decide), e 4 (by decide), e 233 (by decide), e 238 (by decide)]
  exact hp
end WT
/-- the draft, behind a choice -/
theorem wy_st {σ τ : kS} {n S s r dn w : Nat} {a D : Nat → Int32} (h6 : ∀ u ∈ bls σ r dn, fN (σ 241 u) < 6) (hs : s < S) (hD : ∀ i, i < 7 * S → D i = aUp a s i) (ha0 : ∀ i, 7 * S ≤ i → a i = 0) (hp : (owP σ r dn).Pairwise (fun x y => x ≠ y)) (c4 : ∀ j (h : j < (owP σ r dn).length) (h' : j < (owS σ r dn).length), τ 202 (7 * s + 1 + (owP σ r dn)[j]'h) = nI ((opL σ ((owS σ r dn)[j]'h') n).getD ((dg ((owO σ n r dn).map List.length) w).getD j 0) 0)) (c5 : ∀ i, (∀ j (h : j < (owP σ r dn).length), i ≠ 7 * s + 1 + (owP σ r dn)[j]'h) → τ 202 i = D i) : stF τ 202 0 S = aWy σ n r dn s a w := by
  obtain ⟨l1, l2, l3⟩ := ow_len σ n r dn w
  have l4 : (owS σ r dn).length = (bls σ r dn).length := by unfold owS; rw [List.length_map]
  have hPj : ∀ j (hj : j < (bls σ r dn).length), (owP σ r dn)[j]'(by omega) = fN (σ 241 ((bls σ r dn)[j]'hj)) := fun j hj => by
    simp only [owP, List.getElem_map]
  funext i
  unfold stF
  by_cases hi : i < 7 * S
  · rw [if_pos hi, Nat.zero_add]
    by_cases q : ∀ u ∈ bls σ r dn, i ≠ 7 * s + 1 + fN (σ 241 u)
    · rw [aWy_ne q, c5 i (fun j hj => ?_), hD i hi]
      rw [hPj j (by omega)]
      exact q _ (List.getElem_mem _)
    · obtain ⟨u, hu, e⟩ : ∃ u ∈ bls σ r dn, i = 7 * s + 1 + fN (σ 241 u) := Classical.byContradiction (fun z => q (fun u hu e => z ⟨u, hu, e⟩))
      obtain ⟨j, hj, rfl⟩ := List.getElem_of_mem hu
      have e1 := c4 j (by omega) (by omega)
      rw [hPj j hj] at e1
      rw [e, e1, aWy_at hp hj (by omega)]
      have hd : j < (dg ((owO σ n r dn).map List.length) w).length := by
        rw [dg_len, List.length_map]
        omega
      have e2 : (owO σ n r dn)[j]'(by omega) = opL σ ((owS σ r dn)[j]'(by omega)) n := by
        simp only [owO, owS, List.getElem_map]
      rw [wyT_at (by omega) (by omega) hd, e2, List.getD_eq_getElem?_getD (l := dg ((owO σ n r dn).map List.length) w), List.getElem?_eq_getElem hd]
      rfl
  · rw [if_neg hi, aWy_ne (fun u hu => by have := h6 u hu; omega)]
    unfold aUp
    rw [pk_un (by omega)]
    exact (ha0 i (by omega)).symm
