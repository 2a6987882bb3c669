section
/-! alike: receive -/
theorem aJ_fr {σ ω : kS} {n b b' R S C m : Nat} {kl : List Nat} (h : aJ σ n b R S C kl m) (hl : ∀ c, c < 232 → ω c = σ c) (hF : mFr σ ω n) (hI : mI ω n b' R S C kl) : aJ ω n b' R S C kl m := by
  obtain ⟨h1, h2, h3, h4⟩ := h
  have hn := h1.1.1
  refine ⟨hI, cJ_low hl h2, aT_low hl (fun t ht => ?_) h3, aB_fr h1 hl hF h4⟩
  have hk : ∀ u, u < n → ω 233 u = σ 233 u ∧ ω 234 u = σ 234 u ∧ ω 235 u = σ 235 u := fun u hu => hF.2.2 u (by omega)
  have := mTb_sg h1.1 hI.1 (Nat.le_refl _) hk ht
  exact ⟨(hk t ht).1, (hk t ht).2.1, (hk t ht).2.2, this.1, this.2, by rw [hF.1 238 (by decide)], by rw [hF.1 239 (by decide)], by rw [hF.1 240 (by decide)], by rw [hF.1 241 (by decide)]⟩
theorem aJ_run2 {σ ω : kS} {n b b' R S C m : Nat} {kl : List Nat} (h : aJ σ n b R S C kl m) (hI : mI ω n b' R S C kl) (hJ : cJ ω n R S C) (e : ∀ c, c < 181 ∨ (186 ≤ c ∧ c < 232) → ω c = σ c) (er : ∀ c, 232 < c → c ≠ 264 → c ≠ 265 → c ≠ 274 → c ≠ 275 → ω c = σ c) (eo : ∀ j, j ≠ 52 → j ≠ 55 → j ≠ 47 → ω 232 j = σ 232 j) (hU : aU ω n S kl) : aJ ω n b' R S C kl m := by
  obtain ⟨i, -, t, r, s, c, k, -, f, mm⟩ := h
  have hr : ∀ l : List Nat, l.all (fun c => decide (232 < c ∧ c ≠ 264 ∧ c ≠ 265 ∧ c ≠ 274 ∧ c ≠ 275)) = true → eqC σ ω l := eqC_of (fun c q => er c q.1 q.2.1 q.2.2.1 q.2.2.2.1 q.2.2.2.2)
  have hl : ∀ c, c < 181 → ω c = σ c := fun c hc => e c (by omega)
  have hh : ∀ c, 186 ≤ c → c < 232 → ω c = σ c := fun c c1 c2 => e c (by omega)
  exact ⟨hI, hJ, aT_c (fun c c1 c2 => hl c (by omega)) (hr _ (by decide)) t, aR_c i.1 i.2.1 (fun c c1 c2 => hl c (by omega)) (hr _ (by decide)) r, aS_c i.1.1 i.2.1 i.2.2.1 (hl _ (by decide)) (hl _ (by decide)) (hl _ (by decide)) (hr _ (by decide)) s, aC_c i.2.2.2.2.1 (fun c c1 c2 => hl c (by omega)) (hr _ (by decide)) c, aK_eq (by rw [hl 13 (by decide)]) (hl _ (by decide)) k, hU, aF_c i.1 i.2.1 i.2.2.1 (fun c c1 c2 => hl c (by omega)) (hr _ (by decide)) (hh _ (by decide) (by decide)) (hh _ (by decide) (by decide)) (hh _ (by decide) (by decide)) (hh _ (by decide) (by decide)) ⟨eo _ (by decide) (by decide) (by decide), eo _ (by decide) (by decide) (by decide), eo _ (by decide) (by decide) (by decide), eo _ (by decide) (by decide) (by decide)⟩ (hr _ (by decide)) f, aM_eq (Nat.le_refl _) (fun c c1 c2 => hh c c1 (by omega)) mm⟩
/-- what stands for the VARIABLES of the RUN -/
theorem aU_tr {σ : kS} {n b R S C m s k : Nat} {kl : List Nat} (h : aJ σ n b R S C kl m) (hr0 : σ 232 52 ≠ 0) (hs : s < S) (hk : k < 6) : trR n (σ 182 (7 * s + 1 + k)) (σ 265 (6 * s + k)) := by
  have hn := h.1.1.1
  have hU := h.2.2.2.2.2.2.2.1
  have e := ((hU.2 hr0).2.2.1 s hs).2 k hk
  rcases h.2.1.2.2.2.2.2.2.2.2.1 with z | ⟨-, -, hcV, -⟩
  · exact absurd z (fun z => hU.1.mpr hr0 z)
  · have := hcV s k hs hk
    rw [show 0 + 7 * s + 1 + k = 7 * s + 1 + k by omega] at this
    rcases this with q | ⟨z, z1, z2, -⟩
    · rw [q] at e
      exact Or.inl ⟨q, e.symm⟩
    · rw [z2, nnI_nI (by omega)] at e
      exact Or.inr ⟨z, z1, z2, e.symm⟩
/-- the RUN goes on with what was received -/
theorem aJ_recv {σ τ ρ ω : kS} {n b b' R S C m s r k mm : Nat} {kl ds : List Nat} {V a : Nat → Int32} (h : aJ τ n b R S C kl m) (hr0 : τ 232 52 ≠ 0) (hD : mRn τ n R S ds) (hs : s < S) (hlen : ds.length < 24)
    (hσ : ∀ c, c ≠ 185 → c ≠ 182 → σ c = τ c) (hat : ∀ k, k < 6 → trR n (σ 182 (7 * s + 1 + k)) (a k)) (hat2 : ∀ i, (∀ k, k < 6 → i ≠ 7 * s + 1 + k) → σ 182 i = τ 182 i)
    (hω : ω = spS σ s ds.length) (hJ : cJ ω n R S C) (hF : mFr ω ρ n) (hI : mI ρ n b' R S C kl) (hV1 : ∀ j, (∀ k, k < 6 → j ≠ 6 * s + k) → V j = τ 265 j) (hV2 : ∀ k, k < 6 → V (6 * s + k) = a k) (hk1 : ∀ k, ¬ τ 265 (6 * s + k) < 0 → a k = τ 265 (6 * s + k)) (hd : τ 264 s = nI (ds.count s)) (hI2 : mI (stS ρ V s ds.length (ds.count s) (nI mm)) n b' R S C kl) : aJ (stS ρ V s ds.length (ds.count s) (nI mm)) n b' R S C kl m := by
  have hn := h.1.1.1
  have hU := h.2.2.2.2.2.2.2.1
  obtain ⟨uc, um, uv, uo, -⟩ := hU.2 hr0
  have eω : ∀ c, c < 181 ∨ 186 ≤ c → ω c = τ c := fun c hc => by
    rw [hω]
    unfold spS
    rw [up_ne (by omega), up_ne (by omega), up_ne (by omega)]
    exact hσ c (by omega) (by omega)
  have hl : ∀ c, c < 232 → ρ c = ω c := mLow_fr hF
  have hst : ∀ c, c ≠ 265 → c ≠ 274 → c ≠ 275 → c ≠ 232 → c ≠ 264 → stS ρ V s ds.length (ds.count s) (nI mm) c = ρ c := fun c c1 c2 c3 c4 c5 => by
    unfold stS
    rw [up_ne c5, up_ne c4, up_ne c3, up_ne c2, up_ne c1]
  have hρ0 : ∀ c, 232 ≤ c → hiS ρ τ c = ρ c := fun c hc => if_pos hc
  have hρl : ∀ c, c < 232 → hiS ρ τ c = τ c := fun c hc => if_neg (by omega)
  have hF0 : mFr τ (hiS ρ τ) n := by
    refine ⟨fun c hc => ?_, fun j hj => ?_, fun u hu => ?_⟩
    · by_cases q : 232 ≤ c
      · rw [hρ0 c q, hF.1 c hc]
        exact eω c (by omega)
      · exact hρl c (by omega)
    · rw [hρ0 232 (by decide), hF.2.1 j hj, eω 232 (by decide)]
    · have := hF.2.2 u hu
      rw [hρ0 233 (by decide), hρ0 234 (by decide), hρ0 235 (by decide)]
      rw [eω 233 (by decide), eω 234 (by decide), eω 235 (by decide)] at this
      exact this
  have h0 : aJ (hiS ρ τ) n b' R S C kl m := aJ_fr h hρl hF0 (mI_hi hρ0 hI)
  have hlow : ∀ c, c < 232 → stS ρ V s ds.length (ds.count s) (nI mm) c = ω c := fun c hc => (hst c (by omega) (by omega) (by omega) (by omega) (by omega)).trans (hl c hc)
  refine aJ_run2 h0 hI2 (cJ_low hlow hJ) (fun c hc => ?_) (fun c c1 c2 c3 c4 c5 => ?_) (fun j j1 j2 j3 => ?_) ?_
  · rw [hlow c (by omega), hρl c (by omega)]
    exact eω c (by omega)
  · rw [hst c c3 c4 c5 (by omega) c2, hρ0 c (by omega)]
  · rw [hρ0 232 (by decide)]
    show upd (ρ 232) 55 (nI (ds.length + 1)) j = ρ 232 j
    exact pk_un j2
  · have l181 : stS ρ V s ds.length (ds.count s) (nI mm) 181 = upd (upd (τ 181) 7 (nI (ds.length + 1))) 9 (-1) := by
      rw [hlow 181 (by decide), hω]
      show upd (upd (σ 181) 7 (nI (ds.length + 1))) 9 (-1) = _
      rw [hσ 181 (by decide) (by decide)]
    have lmv : stS ρ V s ds.length (ds.count s) (nI mm) 183 = upd (τ 183) ds.length (nI s) := by
      rw [hlow 183 (by decide), hω]
      show upd (σ 183) ds.length (nI s) = _
      rw [hσ 183 (by decide) (by decide)]
    have hat7 : σ 182 (7 * s) = nI (ds.count s) := by rw [hat2 (7 * s) (fun k hk => by omega), (uv s hs).1, hd]
    have lat : stS ρ V s ds.length (ds.count s) (nI mm) 182 = upd (σ 182) (7 * s) (nI (ds.count s + 1)) := by
      rw [hlow 182 (by decide), hω]
      show upd (σ 182) (7 * s) (σ 182 (7 * s) + Int32.ofInt 1) = _
      rw [hat7, ← nI_1]
      rfl
    have lop : stS ρ V s ds.length (ds.count s) (nI mm) 17 = τ 17 := by
      rw [hlow 17 (by decide)]
      exact eω _ (by decide)
    have l232 : stS ρ V s ds.length (ds.count s) (nI mm) 232 = upd (ρ 232) 55 (nI (ds.length + 1)) := rfl
    have ldo : stS ρ V s ds.length (ds.count s) (nI mm) 264 = upd (τ 264) s (nI (ds.count s + 1)) := by
      show upd (ρ 264) s (nI (ds.count s + 1)) = _
      rw [hF.1 264 (by decide), eω 264 (by decide)]
    have lva : stS ρ V s ds.length (ds.count s) (nI mm) 265 = V := rfl
    have lds : stS ρ V s ds.length (ds.count s) (nI mm) 274 = upd (τ 274) ds.length (nI s) := by
      show upd (ρ 274) ds.length (nI s) = _
      rw [hF.1 274 (by decide), eω 274 (by decide)]
    have lru : ρ 232 52 = τ 232 52 := by rw [hF.2.1 52 (by decide), eω 232 (by decide)]
    unfold aU
    rw [l181, lmv, lat, lop, l232, ldo, lva, lds, pk_un (show 52 ≠ 55 by decide), lru]
    refine ⟨hU.1, fun _ => ⟨rfl, fun i hi => ?_, fun s' hs' => ⟨?_, fun k hk => ?_⟩, fun s' hs' k hk ho => ?_, fun z => absurd z.symm (nI_m1 (by omega))⟩⟩
    · by_cases e : i = ds.length
      · subst e
        rw [pk_us, pk_us]
      · rw [pk_un e, pk_un e]
        refine um i ?_
        have hi' : i < fN (nI (ds.length + 1)) := hi
        rw [fN_nI (by omega)] at hi'
        rw [hD.1, fN_nI (by omega)]
        omega
    · by_cases e : s' = s
      · subst e
        rw [pk_us, pk_us]
      · rw [pk_un (by omega), pk_un e, hat2 (7 * s') (fun k hk => by omega)]
        exact (uv s' hs').1
    · rw [pk_un (by omega)]
      by_cases e : s' = s
      · subst e
        rw [hV2 k hk]
        rcases hat k hk with ⟨q1, q2⟩ | ⟨z, z1, z2, z3⟩
        · rw [q1, q2]
          rfl
        · rw [z2, z3]
          exact nnI_nI (by omega)
      · rw [hV1 (6 * s' + k) (fun k' hk' => by omega), hat2 (7 * s' + 1 + k) (fun k' hk' => by omega)]
        exact (uv s' hs').2 k hk
    · rw [pk_un (by omega)]
      by_cases e : s' = s
      · subst e
        have h1 := uo s' hs' k hk ho
        have h2 := aU_tr h hr0 hs' hk
        rw [h1] at h2
        rcases h2 with q | ⟨z, z1, z2, z3⟩
        · exact absurd q.1 ho
        · have h3 := hk1 k (by rw [z3]; exact nI_pos (by omega))
          rw [z3] at h3
          rcases hat k hk with ⟨q1, q2⟩ | ⟨w, w1, w2, w3⟩
          · rw [h3] at q2
            exact absurd (show nI z < 0 by rw [q2]; decide) (nI_pos (by omega))
          · rw [w2, z2]
            exact w3.symm.trans h3
      · rw [hat2 (7 * s' + 1 + k) (fun k' hk' => by omega)]
        exact uo s' hs' k hk ho
end
section
/-! alike: receive -/
theorem len_4 : ∀ (l : List Nat), (∀ s ∈ l, s < 4) → l.length = l.count 0 + l.count 1 + l.count 2 + l.count 3 := by
  intro l
  induction l with
  | nil => intro _; rfl
  | cons a l ih =>
    intro hl
    have h1 := ih (fun s hs => hl s (List.mem_cons_of_mem _ hs))
    have ha := hl a List.mem_cons_self
    rw [List.length_cons, h1, List.count_cons, List.count_cons, List.count_cons, List.count_cons]
    obtain rfl | rfl | rfl | rfl : a = 0 ∨ a = 1 ∨ a = 2 ∨ a = 3 := by omega
    all_goals simp
    all_goals omega
/-- where an EVENT is left there is room in the RUN -/
theorem rcv_len {σ : kS} {n b R S s r : Nat} {ds : List Nat} (h : mTb σ n b) (hR : mRo σ n R) (hS4 : S ≤ 4) (hD : mRn σ n R S ds) (hs : s < S) (r1 : r < R) (r2 : σ 255 s = nI r) (hlt : ds.count s < fN (σ 247 r)) (hlen : 24 ≤ ds.length) : False := by
  have key : ∀ s', s' < S → ds.count s' ≤ 6 := fun s' hs' => by
    obtain ⟨r', q1, q2, q3, q4, -⟩ := hD.2.2.2 s' hs'
    obtain ⟨-, ev, e1, e2⟩ := hR.2.2.1 r' q1
    rw [e2, fN_nI (by omega)] at q4
    omega
  have h6 : ds.count s < 6 := by
    obtain ⟨-, ev, e1, e2⟩ := hR.2.2.1 r r1
    rw [e2, fN_nI (by omega)] at hlt
    omega
  have hsum : ds.length = ds.count 0 + ds.count 1 + ds.count 2 + ds.count 3 := len_4 ds (fun s' hs' => by have := hD.2.2.1 s' hs'; omega)
  have hz : ∀ s', S ≤ s' → ds.count s' = 0 := fun s' hs' => List.count_eq_zero.mpr (fun hm => by have := hD.2.2.1 s' hm; omega)
  have k : ∀ s', ds.count s' ≤ 6 := fun s' => by
    by_cases q : s' < S
    · exact key s' q
    · rw [hz s' (by omega)]
      omega
  have h0 := k 0
  have h1 := k 1
  have h2 := k 2
  have h3 := k 3
  have : s = 0 ∨ s = 1 ∨ s = 2 ∨ s = 3 := by omega
  rcases this with rfl | rfl | rfl | rfl <;> omega
set_option maxRecDepth 100000 in
set_option maxHeartbeats 4000000 in
theorem bo_receive (L : Nat) (xs : Nat → Int32) (d d' m : Nat) (σ : kS) (x y : Int32) (hm : m < 2147483646) (h : bJ m σ) : kXM kT L xs (d + 56) 125 [.ref 0, .int x, .int y] σ (fun r τ => ∃ z, r = some (.int z) ∧ kXM kT L xs (d' + 8) 197 [.ref 232, .int x, .int y] τ (fun r' ω => r' = some (.int z) ∧ bJ (m + 1) ω)) := by
  have hb := bJ_up (Nat.le_succ m) h
  obtain ⟨n, b, R, S, C, kl, h⟩ := h
  have hcT := h.2.1.1
  have hT := h.1.1
  have hn := hcT.1
  have hcS := h.2.1.2.2.1
  have hS4 := hcS.1
  have hU := h.2.2.2.2.2.2.2.1
  have hRo := h.1.2.1
  have hR4 := hRo.1
  have hgr := aT_gR hT h.2.2.1.1
  have hno1 : ¬ (isN x S ∧ isN y n) → kXM kT L xs (d' + 8) 197 [.ref 232, .int x, .int y] σ (fun r' ω => r' = some (.int (-1)) ∧ bJ (m + 1) ω) := fun hz =>
    mg_receive L xs d' σ n b R S C kl x y _ h.1 (fun _ => ⟨rfl, hb⟩) (fun z1 z2 => absurd ⟨z1, z2⟩ hz) (fun s t _ _ s1 s2 t1 t2 _ _ _ _ _ => absurd ⟨⟨s, s1, s2⟩, ⟨t, t1, t2⟩⟩ hz) (fun s t _ _ _ _ _ s1 s2 t1 t2 _ _ _ _ _ _ _ _ _ _ _ _ => absurd ⟨⟨s, s1, s2⟩, ⟨t, t1, t2⟩⟩ hz) (fun s t _ _ _ _ _ _ _ _ s1 s2 t1 t2 _ _ _ _ _ _ _ _ _ _ _ _ _ _ _ _ _ _ => absurd ⟨⟨s, s1, s2⟩, ⟨t, t1, t2⟩⟩ hz)
  unfold kXM
  iterate 3 (refine kX_one rfl ?_)
  refine kX_cal (mc_hasSession L xs (d + 54) σ S x hS4 hcS.2.1) rfl (Or.inr rfl) rfl rfl rfl (fun r1 σ1 q1 => ?_)
  obtain ⟨rfl, rfl⟩ := q1
  repeat refine kX_one rfl ?_
  refine kX_if (fun q => ?_) (fun q => ?_)
  · have q : ¬ isN x S := fun z => isB_ne.mpr z (qeq q)
    repeat refine kX_one rfl ?_
    refine kX_ret (i := .ireturn) (len := 1) rfl (Or.inr rfl) rfl (⟨_, rfl, hno1 (fun z => q z.1)⟩)
  · obtain ⟨s, hs, rfl⟩ := isB_ne.mp (qeqF q)
    iterate 3 (refine kX_one rfl ?_)
    refine kX_cal (mc_has L xs (d + 54) σ n y hn hcT.2.1) rfl (Or.inr rfl) rfl rfl rfl (fun r1 σ1 q1 => ?_)
    obtain ⟨rfl, rfl⟩ := q1
    repeat refine kX_one rfl ?_
    refine kX_if (fun q => ?_) (fun q => ?_)
    rotate_left
    · have q : ¬ isN y n := fun z => isB_ne.mpr z (qneF q)
      repeat refine kX_one rfl ?_
      refine kX_ret (i := .ireturn) (len := 1) rfl (Or.inr rfl) rfl (⟨_, rfl, hno1 (fun z => q z.2)⟩)
    · obtain ⟨t, ht, rfl⟩ := isB_ne.mp (qne q)
      repeat refine kX_one rfl ?_
      refine kX_if (fun q2 => ?_) (fun q2 => ?_)
      rotate_left
      · have q2 : σ 181 8 = 0 := qneF q2
        have hr0 : σ 232 52 = 0 := Classical.byContradiction fun z => hU.1.mpr z q2
        repeat refine kX_one rfl ?_
        refine kX_ret (i := .ireturn) (len := 1) rfl (Or.inr rfl) rfl (⟨_, rfl, ?_⟩)
        exact mg_receive L xs d' σ n b R S C kl _ _ _ h.1 (fun z => absurd ⟨⟨s, hs, rfl⟩, ⟨t, ht, rfl⟩⟩ z) (fun _ _ _ => ⟨rfl, hb⟩) (fun _ _ _ _ _ _ _ _ z _ _ _ _ => absurd (z.symm.trans hr0) (by decide)) (fun _ _ _ _ _ _ _ _ _ _ _ z _ _ _ _ _ _ _ _ _ _ _ => absurd (z.symm.trans hr0) (by decide)) (fun _ _ _ _ _ _ _ _ _ _ _ _ _ _ z _ _ _ _ _ _ _ _ _ _ _ _ _ _ _ _ _ => absurd (z.symm.trans hr0) (by decide))
      · have hon : σ 181 8 ≠ 0 := qne q2
        have hr0 : σ 232 52 ≠ 0 := hU.1.mp hon
        obtain ⟨hr1, ds, hD, hBi, -⟩ := mI_ds h.1 hr0
        obtain ⟨uc, um, uv, uo, -⟩ := hU.2 hr0
        obtain ⟨r, r1, r2, r3, r4, -⟩ := hD.2.2.2 s hs
        obtain ⟨-, ev, ev1, ev2⟩ := hRo.2.2.1 r r1
        have hfe : fN (σ 247 r) = ev := by rw [ev2]; exact fN_nI (by omega)
        have hR1 := h.2.2.2.1 r r1
        have hr4 : r < 4 := by omega
        have hlenD := mRn_len hRo hS4 hD
        have hat : σ 182 (0 + 7 * s) = nI (ds.count s) := by rw [Nat.zero_add]; exact (uv s hs).1.trans r3
        have hno : ¬ (ds.count s < fN (σ 247 r) ∧ σ 249 (6 * r + ds.count s) = 0 ∧ tgd (σ 233) (σ 234) (σ 235) t = true) → kXM kT L xs (d' + 8) 197 [.ref 232, .int (nI s), .int (nI t)] σ (fun r' ω => r' = some (.int (-5)) ∧ bJ (m + 1) ω) := fun hz => by
          refine mg_receive L xs d' σ n b R S C kl _ _ _ h.1 (fun z => absurd ⟨⟨s, hs, rfl⟩, ⟨t, ht, rfl⟩⟩ z) (fun _ _ z => absurd z hr0) (fun _ _ _ _ _ _ _ _ _ _ _ _ _ => ⟨rfl, hb⟩) (fun s' t' ds' r' _ _ _ hs' es ht' et _ hD' _ er g1 g2 g3 _ _ _ _ _ => ?_) (fun s' t' ds' r' _ _ _ _ _ _ hs' es ht' et _ hD' _ er g1 g2 g3 _ _ _ _ _ _ _ _ _ _ _ => ?_)
          · obtain rfl : s = s' := nI_inj es
            obtain rfl : t = t' := nI_inj et
            obtain rfl : ds = ds' := mRn_u hRo hS4 hD hD'
            obtain rfl : r = r' := nI_inj (r2.symm.trans er)
            exact absurd ⟨g1, g2, g3⟩ hz
          · obtain rfl : s = s' := nI_inj es
            obtain rfl : t = t' := nI_inj et
            obtain rfl : ds = ds' := mRn_u hRo hS4 hD hD'
            obtain rfl : r = r' := nI_inj (r2.symm.trans er)
            exact absurd ⟨g1, g2, g3⟩ hz
        iterate 7 (refine kX_one rfl ?_)
        refine kX_cal (mf_due L xs (d + 53) σ n R S 182 28 0 s r ev (fun _ => 0) h.2.1.2.1 hS4 r1 ((h.2.2.2.2.1 s hs).1.trans r2) (hR1.2.1.trans ev2) hs ev1 rfl (by decide) (by decide)) rfl (Or.inr rfl) rfl rfl rfl (fun r1' σ1 q1 => ?_)
        obtain ⟨hq, rfl⟩ := q1
        rcases hq with ⟨rfl, hn0⟩ | ⟨k, k1, k2, rfl, -⟩
        · repeat refine kX_one rfl ?_
          refine kX_ret (i := .ireturn) (len := 1) rfl (Or.inr rfl) rfl (⟨_, rfl, hno (fun z => hn0 (ds.count s) (by rw [← hfe]; exact z.1) hat)⟩)
        obtain rfl : k = ds.count s := nI_inj (k2.symm.trans hat)
        have hk6 : ds.count s < 6 := by omega
        have hlt : ds.count s < fN (σ 247 r) := by rw [hfe]; exact k1
        have hE := hR1.2.2.2.2 (ds.count s) hlt
        obtain ⟨te, te1, te2, te3, te4⟩ := hRo.2.2.2.2.2 r (ds.count s) r1 hlt
        iterate 4 (refine kX_one rfl ?_)
        refine kX_getN rfl rfl (kT_ev hr4 hk6) rfl ?_
        repeat refine kX_one rfl ?_
        refine kX_if (fun q3 => ?_) (fun q3 => ?_)
        · have hsd : σ 249 (6 * r + ds.count s) ≠ 0 := hE.2.1.mp (qne q3)
          repeat refine kX_one rfl ?_
          refine kX_ret (i := .ireturn) (len := 1) rfl (Or.inr rfl) rfl (⟨_, rfl, hno (fun z => hsd z.2.1)⟩)
        have hsd : σ 249 (6 * r + ds.count s) = 0 := Classical.byContradiction fun z => hE.2.1.mpr z (qneF q3)
        iterate 4 (refine kX_one rfl ?_)
        refine kX_baldV rfl rfl (by decide) (t) (by first | rfl | decide) (by omega) (hgr t ht) ?_
        repeat refine kX_one rfl ?_
        refine kX_if (fun q4 => ?_) (fun q4 => ?_)
        · have q4 : ¬ kGd σ t := fun z => isB_ne.mpr z (qeq q4)
          unfold kGd at q4
          rw [aT_gd hT h.2.2.1.1 ht] at q4
          repeat refine kX_one rfl ?_
          refine kX_ret (i := .ireturn) (len := 1) rfl (Or.inr rfl) rfl (⟨_, rfl, hno (fun z => q4 z.2.2)⟩)
        have q4 : kGd σ t := isB_ne.mp (qeqF q4)
        have hgt : tgd (σ 233) (σ 234) (σ 235) t = true := by
          rw [← aT_gd hT h.2.2.1.1 ht]
          exact q4
        have ref : ∀ (π : kS) (Q : Option Value → kS → Prop), (∀ c, 232 ≤ c → π c = σ c) → (∀ b' σ', (¬ trM σ (trRun σ kl ds) (tvl (σ 233) (σ 234) (σ 235) t) ∨ mtF σ (te + 1) te t (fun k => σ 265 (6 * s + k)) = none) → mFr π σ' n → mI σ' n b' R S C kl → Q (some (.int (-5))) σ') → (∀ b' ρ V a mm, trM σ (trRun σ kl ds) (tvl (σ 233) (σ 234) (σ 235) t) → mtF σ (te + 1) te t (fun k => σ 265 (6 * s + k)) = some a → ds.length < 24 → (∀ k, ¬ σ 265 (6 * s + k) < 0 → a k = σ 265 (6 * s + k)) → mFr π ρ n → mI ρ n b' R S C kl → (∀ j, (∀ k, k < 6 → j ≠ 6 * s + k) → V j = σ 265 j) → (∀ k, k < 6 → V (6 * s + k) = a k) → mI (stS ρ V s ds.length (ds.count s) (nI mm)) n b' R S C kl → Q (some (.int (nI (ds.count s + 1)))) (stS ρ V s ds.length (ds.count s) (nI mm))) → kXM kT L xs (d' + 8) 197 [.ref 232, .int (nI s), .int (nI t)] π Q := by
          intro π Q e hB hA
          have hIp := mI_hi e h.1
          have eD : mRn π n R S ds := mRn_hi e hD
          have em : ∀ f p t a, mtF π f p t a = mtF σ f p t a := mtF_c (eqC_of e _ (by decide))
          have et : trRun π kl ds = trRun σ kl ds := trRun_hi e
          have eM : ∀ g, trM π (trRun π kl ds) g = trM σ (trRun σ kl ds) g := fun g => by
            unfold trM mA
            rw [et, e 233 (by decide), e 238 (by decide)]
          refine mg_receive L xs d' π n b R S C kl _ _ _ hIp (fun z => absurd ⟨⟨s, hs, rfl⟩, ⟨t, ht, rfl⟩⟩ z) (fun _ _ z => absurd ((congrFun (e 232 (by decide)) _).symm.trans z) hr0) (fun s' t' ds' r' hs' es ht' et' _ hD' _ er hz => ?_) (fun s' t' ds' r' te' b' σ' hs' es ht' et' _ hD' _ er _ _ _ _ ete hz hF hI => ?_) (fun s' t' ds' r' te' b' ρ V a mm hs' es ht' et' _ hD' _ er _ _ _ _ ete hz hmt hln hkk hF hI hV1 hV2 hI2 => ?_)
          · obtain rfl : s = s' := nI_inj es
            obtain rfl : t = t' := nI_inj et'
            obtain rfl : ds = ds' := mRn_u hIp.2.1 hS4 eD hD'
            rw [e 255 (by decide)] at er
            obtain rfl : r = r' := nI_inj (r2.symm.trans er)
            rw [e 247 (by decide), e 249 (by decide), e 233 (by decide), e 234 (by decide), e 235 (by decide)] at hz
            exact absurd ⟨hlt, hsd, hgt⟩ hz
          · obtain rfl : s = s' := nI_inj es
            obtain rfl : t = t' := nI_inj et'
            obtain rfl : ds = ds' := mRn_u hIp.2.1 hS4 eD hD'
            rw [e 255 (by decide)] at er
            obtain rfl : r = r' := nI_inj (r2.symm.trans er)
            rw [e 248 (by decide)] at ete
            obtain rfl : te = te' := nI_inj (te2.symm.trans ete)
            rw [eM, em, e 233 (by decide), e 234 (by decide), e 235 (by decide), e 265 (by decide)] at hz
            exact hB b' σ' hz hF hI
          · obtain rfl : s = s' := nI_inj es
            obtain rfl : t = t' := nI_inj et'
            obtain rfl : ds = ds' := mRn_u hIp.2.1 hS4 eD hD'
            rw [e 255 (by decide)] at er
            obtain rfl : r = r' := nI_inj (r2.symm.trans er)
            rw [e 248 (by decide)] at ete
            obtain rfl : te = te' := nI_inj (te2.symm.trans ete)
            rw [eM, e 233 (by decide), e 234 (by decide), e 235 (by decide)] at hz
            rw [em, e 265 (by decide)] at hmt
            rw [e 265 (by decide)] at hkk hV1
            exact hA b' ρ V a mm hz hmt hln hkk hF hI hV1 hV2 hI2
        iterate 2 (refine kX_one rfl ?_)
        refine kX_cal (mf_intruder L xs d σ σ n b R S C m kl ds (vw_refl σ) h hm hr0 hD) rfl (Or.inr rfl) rfl rfl rfl (fun r1' τ q1 => ?_)
        obtain ⟨rfl, u, m', l, hm', hQ⟩ := q1
        have hEt := hQ.2.2.2.1
        have hgd : kGd τ t := by
          have h2 := hQ.2.2.2.2.2.1 t ht
          rw [inQ_cell hQ (c := 8) (by decide) (by decide) (by decide) (by decide), hgr t ht, isB_T q4] at h2
          exact isB_1.mp h2.symm
        iterate 2 (refine kX_one rfl ?_)
        refine kX_cal (mf_canMake L xs 186 200 n u m' l 49 (d + 4) 0 τ t rfl (by have := hEt.2.2.2.2.2.2.2.2.1 t ht; omega) hEt (Or.inl ht) hgd) rfl (Or.inr rfl) rfl rfl rfl (fun r1' ω q1 => ?_)
        obtain ⟨rfl, M, hω, hE2⟩ := q1
        subst hω
        have hQ2 := inQ_mk hQ hE2
        have hJ2 := inQ_J h hr0 hD hQ2 hm'
        have e : ∀ c, 232 ≤ c → va_up τ 192 M c = σ c := fun c hc => inQ_cell hQ2 (by omega) (by omega) (by omega) (by omega)
        have hkk := kMk_tr hT hQ ht
        have hcell : va_up τ 192 M (28 + 35 * r + 5 * ds.count s) = σ (28 + 35 * r + 5 * ds.count s) := inQ_cell hQ2 (by omega) (by omega) (by omega) (by omega)
        generalize va_up τ 192 M = ω at hQ2 hJ2 e hcell ⊢
        by_cases hmk : kMk τ l t
        rotate_left
        · rw [isB_F hmk]
          repeat refine kX_one rfl ?_
          refine kX_ret (i := .ireturn) (len := 1) rfl (Or.inr rfl) rfl (⟨_, rfl, ref ω _ e (fun b' σ' _ hF hI => ⟨rfl, bJ_fr hJ2 (mLow_fr hF) hF hI⟩) (fun _ _ _ _ _ hz => absurd (hkk.mpr hz) hmk)⟩)
        rw [isB_T hmk]
        have hrω : ω 232 52 ≠ 0 := by rw [e 232 (by decide)]; exact hr0
        have hDω := mRn_hi e hD
        iterate 6 (refine kX_one rfl ?_)
        refine kX_cal (mf_accepts L xs (d + 3) ω n b S s r (ds.count s) te t hJ2.2.1.1 hJ2.1.1 hJ2.2.2.1.1 hS4 hs hr4 hk6 ht te1 (by rw [e 233 (by decide), e 234 (by decide), e 235 (by decide)]; exact hgt) (by rw [hcell]; exact hE.1.trans te2) (fun k hk => aU_tr hJ2 hrω hs hk)) rfl (Or.inr rfl) rfl rfl rfl (fun r1' ρ q1 => ?_)
        obtain ⟨hρ, hq⟩ := q1
        have eρ : ∀ c, 232 ≤ c → ρ c = σ c := fun c hc => (hρ c (by omega) (by omega)).trans (e c hc)
        have emt : mtF ω (te + 1) te t (fun k => ω 265 (6 * s + k)) = mtF σ (te + 1) te t (fun k => σ 265 (6 * s + k)) := by rw [mtF_c (eqC_of e _ (by decide)), e 265 (by decide)]
        rw [emt] at hq
        rcases hq with ⟨hmt, rfl, hat0⟩ | ⟨a, hmt, rfl, hat1, hat2⟩
        · have eρω : ∀ c, c ≠ 185 → ρ c = ω c := fun c hc => by
            by_cases z : c = 182
            · subst z
              exact hat0
            · exact hρ c hc z
          have hJ3 : aJ ρ n b R S C kl (m + 1) := by
            have hU3 : aU ρ n S kl := by
              have hU2 := hJ2.2.2.2.2.2.2.2.1
              unfold aU at hU2 ⊢
              rw [eρω 181 (by decide), eρω 17 (by decide), eρω 183 (by decide), eρω 182 (by decide), eρω 232 (by decide), eρω 274 (by decide), eρω 264 (by decide), eρω 265 (by decide)]
              refine ⟨hU2.1, fun q => ?_⟩
              obtain ⟨g1, g2, g3, g5, g4⟩ := hU2.2 q
              refine ⟨g1, g2, g3, g5, fun hg => ?_⟩
              obtain ⟨ds', d1, d2, d4, d5, d3⟩ := g4 hg
              refine ⟨ds', d1, d2, d4, d5, ?_⟩
              rw [trRun_hi (fun c hc => eρω c (by omega))]
              exact kOk_eq (fun c c1 c2 => eρω c (by omega)) (fun c c1 c2 => eρω c (by omega)) (fun t _ => by rw [eρω 233 (by decide)]) (eρω _ (by decide)) d3
            refine aJ_run2 hJ2 (mI_hi (fun c hc => hρ c (by omega) (by omega)) hJ2.1) ?_ (fun c hc => hρ c (by omega) (by omega)) (fun c c1 _ _ _ _ => hρ c (by omega) (by omega)) (fun j _ _ _ => by rw [hρ 232 (by decide) (by decide)]) hU3
            refine cJ_run hJ2.2.1 (fun c hc => hρ c (by omega) (by omega)) ?_
            have hRu := hJ2.2.1.2.2.2.2.2.2.2.2.1
            unfold cRu at hRu ⊢
            rw [eρω 181 (by decide), eρω 183 (by decide), eρω 182 (by decide), eρω 186 (by decide)]
            unfold cV cKg cKc at hRu ⊢
            rw [eρω 8 (by decide), eρω 3 (by decide), eρω 4 (by decide)]
            exact hRu
          repeat refine kX_one rfl ?_
          refine kX_ret (i := .ireturn) (len := 1) rfl (Or.inr rfl) rfl (⟨_, rfl, ref ρ _ eρ (fun b' σ' _ hF hI => ⟨rfl, bJ_fr hJ3 (mLow_fr hF) hF hI⟩) (fun _ _ _ a _ _ hz => absurd (hmt.symm.trans hz) (by simp))⟩)
        · obtain ⟨b1, b2, b3⟩ := mSn_iff hT hRo (hD.2.2.2 s hs) r2 r1
          obtain ⟨k1', k2', -, -⟩ := mtF_ok hT hRo r1 (te + 1) te t _ a te1 ht hgt te3 (fun k hk hne => by
            by_cases hb' : bdv σ r (ds.count s) k
            · exact (b3 k hk).1 hb'
            · exact absurd (by rw [(b3 k hk).2 hb']; decide) hne) hmt
          have egr : ω 8 = σ 8 := inQ_cell hQ2 (by decide) (by decide) (by decide) (by decide)
          have hRu := hJ2.2.1.2.2.2.2.2.2.2.2.1
          have honω : ω 181 8 ≠ 0 := by rw [hQ2.2.1 _ (by decide)]; exact hon
          have e181 : ρ 181 = ω 181 := hρ _ (by decide) (by decide)
          rcases hRu with hRu | ⟨on1, cnt, hcV, hgf⟩
          · exact absurd hRu honω
          have hcV2 : cV ω n S (ρ 182) 0 := fun s' k' hs' hk' => by
            rw [show 0 + 7 * s' + 1 + k' = 7 * s' + 1 + k' by omega]
            by_cases z : s' = s
            · subst z
              rcases hat1 k' hk' with q | ⟨w, w1, w2, w3⟩
              · exact Or.inl q.1
              · refine Or.inr ⟨w, w1, w2, ?_⟩
                obtain ⟨w', v1, v2, v3, -⟩ := k2' k' hk' (by rw [w3]; exact nI_pos (by omega))
                obtain rfl : w = w' := nI_inj (w3.symm.trans v2)
                rw [egr, hgr w w1]
                refine isB_T ?_
                unfold kGd
                rw [aT_gd hT h.2.2.1.1 w1]
                exact v3
            · rw [hat2 (7 * s' + 1 + k') (fun k hk => by omega)]
              have := hcV s' k' hs' hk'
              rw [show 0 + 7 * s' + 1 + k' = 7 * s' + 1 + k' by omega] at this
              exact this
          have eρω : ∀ c, c < 181 ∨ 186 ≤ c → ρ c = ω c := fun c hc => hρ c (by omega) (by omega)
          have hgrω : ∀ z, z < n → ρ 8 z = ω 8 z := fun z _ => by rw [eρω _ (by decide)]
          have hJρ : cJ ρ n R S C := by
            refine cJ_run hJ2.2.1 eρω (Or.inr ⟨by rw [e181]; exact on1, by rw [e181, hρ 183 (by decide) (by decide)]; exact cnt, cV_eq hgrω hcV2, ?_⟩)
            rw [e181, eρω 186 (by decide)]
            rcases hgf with z | ⟨g, z1, z2, z3⟩
            · exact Or.inl z
            · refine Or.inr ⟨g, z1, z2, fun hg => ?_⟩
              obtain ⟨u, u1, u2, u3⟩ := z3 hg
              exact ⟨u, u1, u2, cKg_eq hgrω (fun g _ _ => by rw [eρω 3 (by decide), eρω 4 (by decide)]; exact ⟨rfl, rfl⟩) u3⟩
          have hUω := (hJ2.2.2.2.2.2.2.2.1.2 hrω)
          have hlen24 : ds.length < 24 := by
            exact Classical.byContradiction fun hz => rcv_len hT hRo hS4 hD hs r1 r2 hlt (by omega)
          iterate 4 (refine kX_one rfl ?_)
          refine kX_cal (mf_step L xs (d + 54) ρ n R S C s ds.length hJρ (by rw [e181]; exact honω) hs hlen24 (by rw [e181, hUω.1]; exact (congrFun (e 232 (by decide)) _).trans hD.1)) rfl (Or.inr rfl) rfl rfl rfl (fun r1' π q1 => ?_)
          obtain ⟨rfl, hπ, hJπ⟩ := q1
          iterate 7 (refine kX_one rfl ?_)
          refine kX_cal (mc_doneBy L xs (d + 54) π 182 28 0 s (fun _ => 0) rfl (by decide) (by omega)) rfl (Or.inr rfl) rfl rfl rfl (fun r1 σ1 q1 => ?_)
          obtain ⟨rfl, rfl⟩ := q1
          have hv7 : π 182 (0 + 7 * s) = nI (ds.count s + 1) := by
            rw [hπ, Nat.zero_add]
            show upd (ρ 182) (7 * s) (ρ 182 (7 * s) + Int32.ofInt 1) (7 * s) = _
            rw [pk_us, hat2 (7 * s) (fun k hk => by omega), (hUω.2.2.1 s hs).1, e 264 (by decide), r3, ← nI_1]
            rfl
          have eπ : ∀ c, 232 ≤ c → π c = σ c := fun c hc => by
            rw [hπ]
            unfold spS
            rw [up_ne (by omega), up_ne (by omega), up_ne (by omega)]
            exact eρ c hc
          refine kX_top (y := nI (ds.count s + 1)) hv7 ?_
          refine kX_ret (i := .ireturn) (len := 1) rfl (Or.inr rfl) rfl (⟨_, rfl, ref π _ eπ (fun b' σ' hz _ _ => ?_) (fun b' ρ' V a' mm _ hmt' _ hkk' hF hI hV1 hV2 hI2 => ?_)⟩)
          · rcases hz with hz | hz
            · exact absurd (hkk.mp hmk) hz
            · exact absurd (hmt.symm.trans hz) (by simp)
          · obtain rfl : a = a' := Option.some.inj (hmt.symm.trans hmt')
            refine ⟨rfl, ⟨n, b', R, S, C, kl, aJ_recv (σ := ρ) (ω := π) (r := r) (k := 0) hJ2 hrω hDω hs hlen24 hρ hat1 hat2 hπ hJπ hF hI (by rw [e 265 (by decide)]; exact hV1) hV2 (by rw [e 265 (by decide)]; exact hkk') (by rw [e 264 (by decide)]; exact r3) hI2⟩⟩
end
section
/-! alike: the order in which TERMS get numbers -/
/-- what has no number in g, each behind what it is of, behind acc -/
noncomputable def poT (N : Jvm.Term → Prop) : Jvm.Term → List Jvm.Term → List Jvm.Term
  | .add a b, acc => cit (N (.add a b) ∨ .add a b ∈ acc) acc (poT N b (poT N a acc) ++ [.add a b])
  | .sub a b, acc => cit (N (.sub a b) ∨ .sub a b ∈ acc) acc (poT N b (poT N a acc) ++ [.sub a b])
  | .mul a b, acc => cit (N (.mul a b) ∨ .mul a b ∈ acc) acc (poT N b (poT N a acc) ++ [.mul a b])
  | .div a b, acc => cit (N (.div a b) ∨ .div a b ∈ acc) acc (poT N b (poT N a acc) ++ [.div a b])
  | .sum a, acc => cit (N (.sum a) ∨ .sum a ∈ acc) acc (poT N a acc ++ [.sum a])
  | .length a, acc => cit (N (.length a) ∨ .length a ∈ acc) acc (poT N a acc ++ [.length a])
  | _, acc => acc
section PO
variable {N : Jvm.Term → Prop}
theorem poT_2 {k : Nat} (hk : k = 4 ∨ k = 5 ∨ k = 6 ∨ k = 8) (a b : Jvm.Term) (acc : List Jvm.Term) : poT N (vnd k a (some b)) acc = cit (N (vnd k a (some b)) ∨ vnd k a (some b) ∈ acc) acc (poT N b (poT N a acc) ++ [vnd k a (some b)]) := by
  rcases hk with rfl | rfl | rfl | rfl <;> rfl
theorem poT_1 {k : Nat} (hk : k = 7 ∨ k = 9) (a : Jvm.Term) (acc : List Jvm.Term) : poT N (vnd k a none) acc = cit (N (vnd k a none) ∨ vnd k a none ∈ acc) acc (poT N a acc ++ [vnd k a none]) := by
  rcases hk with rfl | rfl <;> rfl
theorem poT_in {g : Jvm.Term} {acc : List Jvm.Term} (h : N g ∨ g ∈ acc) : poT N g acc = acc := by
  cases g <;> first | rfl | exact cit_T h
theorem poT_pre : ∀ (g : Jvm.Term) (acc : List Jvm.Term), ∃ r, poT N g acc = acc ++ r := by
  intro g
  have two : ∀ (a b g : Jvm.Term) (acc : List Jvm.Term), (∀ acc, ∃ r, poT N a acc = acc ++ r) → (∀ acc, ∃ r, poT N b acc = acc ++ r) → ∃ r, cit (N g ∨ g ∈ acc) acc (poT N b (poT N a acc) ++ [g]) = acc ++ r := fun a b g acc ha hb => by
    by_cases h : N g ∨ g ∈ acc
    · exact ⟨[], by rw [cit_T h, List.append_nil]⟩
    · obtain ⟨r1, e1⟩ := ha acc
      obtain ⟨r2, e2⟩ := hb (acc ++ r1)
      exact ⟨r1 ++ r2 ++ [g], by rw [cit_F h, e1, e2]; simp⟩
  have one : ∀ (a g : Jvm.Term) (acc : List Jvm.Term), (∀ acc, ∃ r, poT N a acc = acc ++ r) → ∃ r, cit (N g ∨ g ∈ acc) acc (poT N a acc ++ [g]) = acc ++ r := fun a g acc ha => by
    by_cases h : N g ∨ g ∈ acc
    · exact ⟨[], by rw [cit_T h, List.append_nil]⟩
    · obtain ⟨r1, e1⟩ := ha acc
      exact ⟨r1 ++ [g], by rw [cit_F h, e1]; simp⟩
  induction g with
  | add a b ha hb => exact fun acc => two a b _ acc ha hb
  | sub a b ha hb => exact fun acc => two a b _ acc ha hb
  | mul a b ha hb => exact fun acc => two a b _ acc ha hb
  | div a b ha hb => exact fun acc => two a b _ acc ha hb
  | sum a ha => exact fun acc => one a _ acc ha
  | length a ha => exact fun acc => one a _ acc ha
  | _ => exact fun acc => ⟨[], (List.append_nil _).symm⟩
theorem poT_mono {g h : Jvm.Term} {acc : List Jvm.Term} (hm : h ∈ acc) : h ∈ poT N g acc := by
  obtain ⟨r, e⟩ := poT_pre (N := N) g acc
  rw [e]
  exact List.mem_append_left _ hm
theorem poT_len {g : Jvm.Term} {acc : List Jvm.Term} : acc.length ≤ (poT N g acc).length := by
  obtain ⟨r, e⟩ := poT_pre (N := N) g acc
  rw [e, List.length_append]
  omega
/-- what comes is not larger -/
theorem poT_sz : ∀ (g h : Jvm.Term) (acc : List Jvm.Term), h ∈ poT N g acc → h ∈ acc ∨ vsz h ≤ vsz g := by
  intro g
  have two : ∀ (a b g h : Jvm.Term) (acc : List Jvm.Term), (∀ h acc, h ∈ poT N a acc → h ∈ acc ∨ vsz h ≤ vsz a) → (∀ h acc, h ∈ poT N b acc → h ∈ acc ∨ vsz h ≤ vsz b) → vsz a ≤ vsz g → vsz b ≤ vsz g → h ∈ cit (N g ∨ g ∈ acc) acc (poT N b (poT N a acc) ++ [g]) → h ∈ acc ∨ vsz h ≤ vsz g := fun a b g h acc ha hb h1 h2 hm => by
    by_cases hh : N g ∨ g ∈ acc
    · rw [cit_T hh] at hm
      exact Or.inl hm
    · rw [cit_F hh] at hm
      rcases List.mem_append.mp hm with q | q
      · rcases hb h _ q with z | z
        · rcases ha h _ z with y | y
          · exact Or.inl y
          · exact Or.inr (by omega)
        · exact Or.inr (by omega)
      · rw [List.mem_singleton] at q
        subst q
        exact Or.inr (Nat.le_refl _)
  have one : ∀ (a g h : Jvm.Term) (acc : List Jvm.Term), (∀ h acc, h ∈ poT N a acc → h ∈ acc ∨ vsz h ≤ vsz a) → vsz a ≤ vsz g → h ∈ cit (N g ∨ g ∈ acc) acc (poT N a acc ++ [g]) → h ∈ acc ∨ vsz h ≤ vsz g := fun a g h acc ha h1 hm => by
    by_cases hh : N g ∨ g ∈ acc
    · rw [cit_T hh] at hm
      exact Or.inl hm
    · rw [cit_F hh] at hm
      rcases List.mem_append.mp hm with q | q
      · rcases ha h _ q with y | y
        · exact Or.inl y
        · exact Or.inr (by omega)
      · rw [List.mem_singleton] at q
        subst q
        exact Or.inr (Nat.le_refl _)
  induction g with
  | add a b ha hb => exact fun h acc => two a b _ h acc ha hb (by simp only [vsz]; omega) (by simp only [vsz]; omega)
  | sub a b ha hb => exact fun h acc => two a b _ h acc ha hb (by simp only [vsz]; omega) (by simp only [vsz]; omega)
  | mul a b ha hb => exact fun h acc => two a b _ h acc ha hb (by simp only [vsz]; omega) (by simp only [vsz]; omega)
  | div a b ha hb => exact fun h acc => two a b _ h acc ha hb (by simp only [vsz]; omega) (by simp only [vsz]; omega)
  | sum a ha => exact fun h acc => one a _ h acc ha (by simp only [vsz]; omega)
  | length a ha => exact fun h acc => one a _ h acc ha (by simp only [vsz]; omega)
  | _ => exact fun h acc hm => Or.inl hm
/-- g itself has a number or comes -/
theorem poT_self2 {k : Nat} (hk : k = 4 ∨ k = 5 ∨ k = 6 ∨ k = 8) (a b : Jvm.Term) (acc : List Jvm.Term) : N (vnd k a (some b)) ∨ vnd k a (some b) ∈ poT N (vnd k a (some b)) acc := by
  rw [poT_2 hk]
  by_cases h : N (vnd k a (some b)) ∨ vnd k a (some b) ∈ acc
  · rw [cit_T h]
    exact h
  · rw [cit_F h]
    exact Or.inr (by simp)
theorem poT_self1 {k : Nat} (hk : k = 7 ∨ k = 9) (a : Jvm.Term) (acc : List Jvm.Term) : N (vnd k a none) ∨ vnd k a none ∈ poT N (vnd k a none) acc := by
  rw [poT_1 hk]
  by_cases h : N (vnd k a none) ∨ vnd k a none ∈ acc
  · rw [cit_T h]
    exact h
  · rw [cit_F h]
    exact Or.inr (by simp)
/-- a stack that still waits, its top last -/
noncomputable def fiT (N : Jvm.Term → Prop) (sk l : List Jvm.Term) : List Jvm.Term := sk.foldr (poT N) l
theorem fiT_snoc {sk l : List Jvm.Term} {x : Jvm.Term} : fiT N (sk ++ [x]) l = fiT N sk (poT N x l) := by
  unfold fiT
  rw [List.foldr_append]
  rfl
/-- the first waits -/
theorem po_push1 {k : Nat} (hk : k = 4 ∨ k = 5 ∨ k = 6 ∨ k = 8) {a b : Jvm.Term} {l : List Jvm.Term} (h1 : ¬ N (vnd k a (some b))) (h2 : vnd k a (some b) ∉ l) (hs : N a ∨ a ∈ poT N a l) : poT N (vnd k a (some b)) (poT N a l) = poT N (vnd k a (some b)) l := by
  have h3 : vnd k a (some b) ∉ poT N a l := fun q => by
    rcases poT_sz a _ l q with z | z
    · exact h2 z
    · rw [vsz_nd2] at z
      omega
  rw [poT_2 hk, poT_2 hk, cit_F (not_or.mpr ⟨h1, h3⟩), cit_F (not_or.mpr ⟨h1, h2⟩), poT_in hs]
/-- the second waits -/
theorem po_push2 {k : Nat} (hk : k = 4 ∨ k = 5 ∨ k = 6 ∨ k = 8) {a b : Jvm.Term} {l : List Jvm.Term} (h1 : ¬ N (vnd k a (some b))) (h2 : vnd k a (some b) ∉ l) (ha : N a ∨ a ∈ l) (hs : N b ∨ b ∈ poT N b l) : poT N (vnd k a (some b)) (poT N b l) = poT N (vnd k a (some b)) l := by
  have h3 : vnd k a (some b) ∉ poT N b l := fun q => by
    rcases poT_sz b _ l q with z | z
    · exact h2 z
    · rw [vsz_nd2] at z
      omega
  rw [poT_2 hk, poT_2 hk, cit_F (not_or.mpr ⟨h1, h3⟩), cit_F (not_or.mpr ⟨h1, h2⟩), poT_in (acc := poT N b l) (ha.imp id poT_mono), poT_in hs, poT_in ha]
theorem po_ord2 {k : Nat} (hk : k = 4 ∨ k = 5 ∨ k = 6 ∨ k = 8) {a b : Jvm.Term} {l : List Jvm.Term} (h1 : ¬ N (vnd k a (some b))) (h2 : vnd k a (some b) ∉ l) (ha : N a ∨ a ∈ l) (hb : N b ∨ b ∈ l) : poT N (vnd k a (some b)) l = l ++ [vnd k a (some b)] := by
  rw [poT_2 hk, cit_F (not_or.mpr ⟨h1, h2⟩), poT_in ha, poT_in hb]
theorem po_pushA {k : Nat} (hk : k = 7 ∨ k = 9) {a : Jvm.Term} {l : List Jvm.Term} (h1 : ¬ N (vnd k a none)) (h2 : vnd k a none ∉ l) (hs : N a ∨ a ∈ poT N a l) : poT N (vnd k a none) (poT N a l) = poT N (vnd k a none) l := by
  have h3 : vnd k a none ∉ poT N a l := fun q => by
    rcases poT_sz a _ l q with z | z
    · exact h2 z
    · rw [vsz_nd1] at z
      omega
  rw [poT_1 hk, poT_1 hk, cit_F (not_or.mpr ⟨h1, h3⟩), cit_F (not_or.mpr ⟨h1, h2⟩), poT_in hs]
theorem po_ord1 {k : Nat} (hk : k = 7 ∨ k = 9) {a : Jvm.Term} {l : List Jvm.Term} (h1 : ¬ N (vnd k a none)) (h2 : vnd k a none ∉ l) (ha : N a ∨ a ∈ l) : poT N (vnd k a none) l = l ++ [vnd k a none] := by
  rw [poT_1 hk, cit_F (not_or.mpr ⟨h1, h2⟩), poT_in ha]
end PO
end
section
/-! alike: findOrder -/
abbrev mtv (σ : kS) (t : Nat) : Jvm.Term := tvl (σ 233) (σ 234) (σ 235) t
/-- a tree that has a number -/
def numN (σ : kS) (n : Nat) (g : Jvm.Term) : Prop := ∃ t, t < n ∧ mtv σ t = g
/-- what findOrder still has to do -/
def foF (σ : kS) (n t : Nat) (sk l : List Nat) : Prop := fiT (numN σ n) (sk.map (mtv σ)) (l.map (mtv σ)) = poT (numN σ n) (mtv σ t) []
section FOF
variable {σ : kS} {n b : Nat}
theorem mtv_inj (h : mTb σ n b) {t u : Nat} (ht : mv n b t) (hu : mv n b u) (e : mtv σ t = mtv σ u) : t = u := tvl_inj h.2.2.2.2.2.1.1 h.2.2.2.2.2.1.2.2 t u ht hu e
theorem numN_hi (h : mTb σ n b) {x : Nat} (x1 : 200 ≤ x) (x2 : x < b) : ¬ numN σ n (mtv σ x) := fun ⟨t, t1, t2⟩ => by
  have := mtv_inj h (Or.inl t1) (Or.inr ⟨x1, x2⟩) t2
  have := h.1
  omega
theorem mem_tv (h : mTb σ n b) {l : List Nat} {x : Nat} (hx : mv n b x) (h1 : ∀ y ∈ l, 200 ≤ y) (h2 : ∀ y ∈ l, y < b) (hm : mtv σ x ∈ l.map (mtv σ)) : x ∈ l := by
  obtain ⟨y, y1, y2⟩ := List.mem_map.mp hm
  have := mtv_inj h (Or.inr ⟨h1 y y1, h2 y y1⟩) hx y2
  exact this ▸ y1
theorem tv_self (h : mTb σ n b) {y : Nat} (hy : mv n b y) (l : List Jvm.Term) : numN σ n (mtv σ y) ∨ mtv σ y ∈ poT (numN σ n) (mtv σ y) l := by
  by_cases q : y < n
  · exact Or.inl ⟨y, q, rfl⟩
  · have hy2 : 200 ≤ y ∧ y < b := by unfold mv at hy; omega
    have hk := h.2.2.2.2.2.2.2.2.1 y hy2.1 hy2.2
    have hV := h.2.2.2.2.2.1.1
    rcases (hV y hy).2 with ⟨k, h3, hk', -, -⟩ | ⟨k, p, z, h3, hk', hp, hz, h4, h5, h6, h7⟩ | ⟨k, p, h3, hk', hp, hz, h4, h6⟩
    · rw [hk', fN_nI (by omega)] at hk
      omega
    · unfold mtv
      rw [tvl_2 hV hk' hp hz (by omega) (by omega) h4 h5 h6 h7]
      exact poT_self2 (by omega) _ _ _
    · unfold mtv
      rw [tvl_1 hV hk' hp hz (by omega) (by omega) h4 h6]
      exact poT_self1 (by omega) _ _
/-- x of the stretch: what it is of -/
theorem tv_of (h : mTb σ n b) {x : Nat} (x1 : 200 ≤ x) (x2 : x < b) : (∃ k p z, (k = 4 ∨ k = 5 ∨ k = 6 ∨ k = 8) ∧ σ 234 x = nI p ∧ σ 235 x = nI z ∧ p < x ∧ z < x ∧ mv n b p ∧ mv n b z ∧ mtv σ x = vnd k (mtv σ p) (some (mtv σ z))) ∨ ∃ k p, (k = 7 ∨ k = 9) ∧ σ 234 x = nI p ∧ σ 235 x = -1 ∧ p < x ∧ mv n b p ∧ mtv σ x = vnd k (mtv σ p) none := by
  have hk := h.2.2.2.2.2.2.2.2.1 x x1 x2
  have hV := h.2.2.2.2.2.1.1
  rcases (hV x (Or.inr ⟨x1, x2⟩)).2 with ⟨k, h3, hk', -, -⟩ | ⟨k, p, z, h3, hk', hp, hz, h4, h5, h6, h7⟩ | ⟨k, p, h3, hk', hp, hz, h4, h6⟩
  · rw [hk', fN_nI (by omega)] at hk
    omega
  · exact Or.inl ⟨k, p, z, by omega, hp, hz, h4, h5, h6, h7, tvl_2 hV hk' hp hz (by omega) (by omega) h4 h5 h6 h7⟩
  · exact Or.inr ⟨k, p, by omega, hp, hz, h4, h6, tvl_1 hV hk' hp hz (by omega) (by omega) h4 h6⟩
theorem foF_1 (h : mTb σ n b) {t x z : Nat} {s l : List Nat} (hX : foF σ n t (s ++ [x]) l) (x1 : 200 ≤ x) (x2 : x < b) (x4 : x ∉ l) (l1 : ∀ y ∈ l, 200 ≤ y) (l2 : ∀ y ∈ l, y < b) (z2 : z < x) (z5 : σ 234 x = nI z) : foF σ n t (s ++ [x] ++ [z]) l := by
  have hb1 := h.2.2.1
  have hN := numN_hi h x1 x2
  have hM : mtv σ x ∉ l.map (mtv σ) := fun q => x4 (mem_tv h (Or.inr ⟨x1, x2⟩) l1 l2 q)
  unfold foF at hX ⊢
  rw [List.map_append, List.map_singleton, fiT_snoc] at hX ⊢
  rw [List.map_append, List.map_singleton, fiT_snoc, ← hX]
  refine congrArg (fiT _ _) ?_
  rcases tv_of h x1 x2 with ⟨k, p, y, hk, hp, hy, h4, h5, h6, h7, e⟩ | ⟨k, p, hk, hp, hy, h4, h6, e⟩
  · obtain rfl : p = z := nI_inj (hp.symm.trans z5)
    rw [e] at hN hM ⊢
    exact po_push1 hk hN hM (tv_self h h6 _)
  · obtain rfl : p = z := nI_inj (hp.symm.trans z5)
    rw [e] at hN hM ⊢
    exact po_pushA hk hN hM (tv_self h h6 _)
/-- what is not open -/
theorem tv_cl (h : mTb σ n b) {p : Nat} {l : List Nat} (hp : mv n b p) (hc : 200 ≤ p → p ∈ l) : numN σ n (mtv σ p) ∨ mtv σ p ∈ l.map (mtv σ) := by
  by_cases q : p < n
  · exact Or.inl ⟨p, q, rfl⟩
  · exact Or.inr (List.mem_map.mpr ⟨p, hc (by unfold mv at hp; omega), rfl⟩)
theorem foF_2 (h : mTb σ n b) {t x z : Nat} {s l : List Nat} (hX : foF σ n t (s ++ [x]) l) (x1 : 200 ≤ x) (x2 : x < b) (x4 : x ∉ l) (l1 : ∀ y ∈ l, 200 ≤ y) (l2 : ∀ y ∈ l, y < b) (hfi : ∀ y, 200 ≤ y → σ 234 x = nI y → y < 1000 → y ∈ l) (z2 : z < x) (z5 : σ 235 x = nI z) : foF σ n t (s ++ [x] ++ [z]) l := by
  have hb1 := h.2.2.1
  have hN := numN_hi h x1 x2
  have hM : mtv σ x ∉ l.map (mtv σ) := fun q => x4 (mem_tv h (Or.inr ⟨x1, x2⟩) l1 l2 q)
  unfold foF at hX ⊢
  rw [List.map_append, List.map_singleton, fiT_snoc] at hX ⊢
  rw [List.map_append, List.map_singleton, fiT_snoc, ← hX]
  refine congrArg (fiT _ _) ?_
  rcases tv_of h x1 x2 with ⟨k, p, y, hk, hp, hy, h4, h5, h6, h7, e⟩ | ⟨k, p, hk, hp, hy, h4, h6, e⟩
  · obtain rfl : y = z := nI_inj (hy.symm.trans z5)
    rw [e] at hN hM ⊢
    exact po_push2 hk hN hM (tv_cl h h6 (fun q => hfi p q hp (by omega))) (tv_self h h7 _)
  · exact absurd (z5.symm.trans hy) (nI_m1 (by omega))
theorem foF_o (h : mTb σ n b) {t x : Nat} {s l : List Nat} (hX : foF σ n t (s ++ [x]) l) (x1 : 200 ≤ x) (x2 : x < b) (x4 : x ∉ l) (l1 : ∀ y ∈ l, 200 ≤ y) (l2 : ∀ y ∈ l, y < b) (hcl : ∀ y, 200 ≤ y → (σ 234 x = nI y ∨ σ 235 x = nI y) → y < 1000 → y ∈ l) : foF σ n t s (l ++ [x]) := by
  have hb1 := h.2.2.1
  have hN := numN_hi h x1 x2
  have hM : mtv σ x ∉ l.map (mtv σ) := fun q => x4 (mem_tv h (Or.inr ⟨x1, x2⟩) l1 l2 q)
  unfold foF at hX ⊢
  rw [List.map_append, List.map_singleton, fiT_snoc] at hX
  rw [List.map_append, List.map_singleton, ← hX]
  refine congrArg (fiT _ _) ?_
  rcases tv_of h x1 x2 with ⟨k, p, y, hk, hp, hy, h4, h5, h6, h7, e⟩ | ⟨k, p, hk, hp, hy, h4, h6, e⟩
  · rw [e] at hN hM ⊢
    exact (po_ord2 hk hN hM (tv_cl h h6 (fun q => hcl p q (Or.inl hp) (by omega))) (tv_cl h h7 (fun q => hcl y q (Or.inr hy) (by omega)))).symm
  · rw [e] at hN hM ⊢
    exact (po_ord1 hk hN hM (tv_cl h h6 (fun q => hcl p q (Or.inl hp) (by omega)))).symm
end FOF
set_option maxRecDepth 100000 in
set_option maxHeartbeats 4000000 in
theorem mf_fo_loop (L : Nat) (xs : Nat → Int32) (d : Nat) (σ : kS) (n b t : Nat) (h : mTb σ n b) (hb : b ≤ 776) (tv : Int32) (Q : Option Value → kS → Prop)
    (he : ∀ l W I O, lst O l → foL σ b l → t ∈ l → foF σ n t [] l → kX kT L xs (d + 2) 199 169 [(0, .ref 232), (1, .int tv)] [] (foS σ W I O (nI l.length)) Q) :
    ∀ q : List Nat × List Nat × (Nat → Int32) × (Nat → Int32) × (Nat → Int32), (foI σ b t q.1 q.2.1 q.2.2.1 q.2.2.2.1 q.2.2.2.2 ∧ foF σ n t q.1 q.2.1) → kX kT L xs (d + 2) 199 39 [(2, .int (nI q.1.length)), (0, .ref 232), (1, .int tv)] [] (foS σ q.2.2.1 q.2.2.2.1 q.2.2.2.2 (nI q.2.1.length)) Q := by
  refine kX_while (fun q : List Nat × List Nat × (Nat → Int32) × (Nat → Int32) × (Nat → Int32) => [(2, .int (nI q.1.length)), (0, .ref 232), (1, .int tv)]) (fun q => foS σ q.2.2.1 q.2.2.2.1 q.2.2.2.2 (nI q.2.1.length)) _ (fun q => 2 * (1000 - q.2.1.length) + (1000 - q.1.length)) ?_
  rintro ⟨sk, l, W, I, O⟩ ⟨hI, hX⟩ ih
  dsimp only at hI hX ih ⊢
  have hlk := foI_len hI hb
  have hll := foL_len hI.2.2.2.2.2.2.1 hb
  rcases snoc_cases sk with rfl | ⟨s, x, rfl⟩
  · iterate 2 (refine kX_one rfl ?_)
    exact kX_lv _ rfl rfl rfl (he l W I O hI.2.1 hI.2.2.2.2.2.2.1 (hI.2.2.2.2.2.2.2.elim (fun q => (by cases q)) id) hX)
  · obtain ⟨w1, -⟩ := lst_pop hI.1
    obtain ⟨x1, x2, x3, x4⟩ := hI.2.2.1 x (by simp)
    have hV := h.2.2.2.2.2.1.1
    have hkx := h.2.2.2.2.2.2.2.2.1 x x1 x2
    have hsl : (s ++ [x]).length = s.length + 1 := by simp
    have hx0 : I x = 0 := by rw [hI.2.2.2.2.2.1 x x1 x2, isB_F x4]
    have hback : ∀ (sk' l' : List Nat) (W' I' O' : Nat → Int32) (τ : kS), (foI σ b t sk' l' W' I' O' ∧ foF σ n t sk' l') → τ = foS σ W' I' O' (nI l'.length) → 2 * (1000 - l'.length) + (1000 - sk'.length) < 2 * (1000 - l.length) + (1000 - (s ++ [x]).length) → ∀ lv, nk lv = true → ([(2, Value.int (nI sk'.length)), (0, .ref 232), (1, .int tv)] : jL).map (fun q => jl lv q.1) = ([(2, Value.int (nI sk'.length)), (0, .ref 232), (1, .int tv)] : jL).map (fun q => some q.2) → kX kT L xs (d + 2) 199 166 lv [] τ Q := by
      intro sk' l' W' I' O' τ j1 e j2 lv hk hlv
      refine kX_lv _ hk rfl hlv ?_
      rw [e]
      iterate 1 (refine kX_one rfl ?_)
      exact ih (sk', l', W', I', O') j1 j2
    have hpush : ∀ y, 200 ≤ y → y < x → tsz (σ 233) (σ 234) (σ 235) y ≤ 24 → I y = 0 → foI σ b t (s ++ [x] ++ [y]) l (upd W (s.length + 1) (nI y)) I O := by
      intro y y1 y2 y3 y4
      rw [← hsl]
      refine foI_push hI y1 y2 y3 (fun hh => ?_)
      rw [hI.2.2.2.2.2.1 y y1 (by omega), isB_T hh] at y4
      exact absurd y4 (by decide)
    have k136 : (∀ y, 200 ≤ y → (σ 234 x = nI y ∨ σ 235 x = nI y) → y < 1000 → y ∈ l) → kX kT L xs (d + 2) 199 136 [(3, .int (nI x)), (2, .int (nI (s.length + 1))), (0, .ref 232), (1, .int tv)] [] (foS σ W I O (nI l.length)) Q := by
      intro hcl
      iterate 4 (refine kX_one rfl ?_)
      refine kX_bastN rfl rfl (by decide) (x) (by first | rfl | decide) (by omega) (Or.inr rfl) ?_
      iterate 5 (refine kX_one rfl ?_)
      refine kX_iastN rfl rfl (by decide) (l.length) (by first | rfl | decide) (by omega) ?_
      iterate 7 (refine kX_one rfl ?_)
      refine hback s (l ++ [x]) W (upd I x 1) (upd O l.length (nI x)) _ ⟨foI_ord hI (by omega) hcl, foF_o h hX x1 x2 x4 (fun y hy => (hI.2.2.2.2.2.2.1.1 y hy).1) (fun y hy => (hI.2.2.2.2.2.2.1.1 y hy).2.1) hcl⟩ ?_ (by simp; omega) _ rfl ?_
      · rw [show (l ++ [x]).length = l.length + 1 by simp, ← nI_1]
        funext c; unfold foS va_up; repeat' split
        all_goals first | rfl | omega | (subst_vars; rfl) | (funext j; unfold upd; repeat' split; all_goals first | rfl | omega | (subst_vars; rfl))
      · rw [show nI s.length = nI (s.length + 1) + Int32.ofInt (-1) from (pk_m1 _).symm]
        rfl
    have k118 : ∀ z, 200 ≤ z → z < x → tsz (σ 233) (σ 234) (σ 235) z ≤ 24 → I z = 0 → σ 235 x = nI z → (∀ y, 200 ≤ y → σ 234 x = nI y → y < 1000 → y ∈ l) → kX kT L xs (d + 2) 199 118 [(3, .int (nI x)), (2, .int (nI (s.length + 1))), (0, .ref 232), (1, .int tv)] [] (foS σ W I O (nI l.length)) Q := by
      intro z z1 z2 z3 z4 z5 hfi
      iterate 6 (refine kX_one rfl ?_)
      refine kX_ialdV rfl rfl (by decide) (x) (by first | rfl | decide) (by omega) (z5) ?_
      refine kX_iastN rfl rfl (by decide) (s.length + 1) (by first | rfl | decide) (by omega) ?_
      iterate 2 (refine kX_one rfl ?_)
      refine hback (s ++ [x] ++ [z]) l (upd W (s.length + 1) (nI z)) I O _ ⟨hpush z z1 z2 z3 z4, foF_2 h hX x1 x2 x4 (fun y hy => (hI.2.2.2.2.2.2.1.1 y hy).1) (fun y hy => (hI.2.2.2.2.2.2.1.1 y hy).2.1) hfi z2 z5⟩ ?_ (by simp; omega) _ rfl ?_
      · funext c; unfold foS va_up; repeat' split
        all_goals first | rfl | omega | (subst_vars; rfl) | (funext j; unfold upd; repeat' split; all_goals first | rfl | omega | (subst_vars; rfl))
      · rw [show nI (s ++ [x] ++ [z]).length = nI (s.length + 1) + 1 by rw [nI_1]; simp]
        rfl
    have k87 : ∀ z, 200 ≤ z → z < x → tsz (σ 233) (σ 234) (σ 235) z ≤ 24 → I z = 0 → σ 234 x = nI z → kX kT L xs (d + 2) 199 87 [(3, .int (nI x)), (2, .int (nI (s.length + 1))), (0, .ref 232), (1, .int tv)] [] (foS σ W I O (nI l.length)) Q := by
      intro z z1 z2 z3 z4 z5
      iterate 6 (refine kX_one rfl ?_)
      refine kX_ialdV rfl rfl (by decide) (x) (by first | rfl | decide) (by omega) (z5) ?_
      refine kX_iastN rfl rfl (by decide) (s.length + 1) (by first | rfl | decide) (by omega) ?_
      iterate 2 (refine kX_one rfl ?_)
      refine hback (s ++ [x] ++ [z]) l (upd W (s.length + 1) (nI z)) I O _ ⟨hpush z z1 z2 z3 z4, foF_1 h hX x1 x2 x4 (fun y hy => (hI.2.2.2.2.2.2.1.1 y hy).1) (fun y hy => (hI.2.2.2.2.2.2.1.1 y hy).2.1) z2 z5⟩ ?_ (by simp; omega) _ rfl ?_
      · funext c; unfold foS va_up; repeat' split
        all_goals first | rfl | omega | (subst_vars; rfl) | (funext j; unfold upd; repeat' split; all_goals first | rfl | omega | (subst_vars; rfl))
      · rw [show nI (s ++ [x] ++ [z]).length = nI (s.length + 1) + 1 by rw [nI_1]; simp]
        rfl
    have hno : ∀ y, 200 ≤ y → y < b → ¬ (200 ≤ y ∧ I y = 0) → y ∈ l := by
      intro y y1 y2 y3
      refine Classical.byContradiction (fun hh => y3 ⟨y1, ?_⟩)
      rw [hI.2.2.2.2.2.1 y y1 y2, isB_F hh]
    have k105 : (∀ y, 200 ≤ y → σ 234 x = nI y → y < 1000 → y ∈ l) → ((∃ z, z < x ∧ mv n b z ∧ tsz (σ 233) (σ 234) (σ 235) z ≤ 24 ∧ σ 235 x = nI z) ∨ σ 235 x = -1) → kX kT L xs (d + 2) 199 105 [(3, .int (nI x)), (2, .int (nI (s.length + 1))), (0, .ref 232), (1, .int tv)] [] (foS σ W I O (nI l.length)) Q := by
      intro hfi hse
      iterate 4 (refine kX_one rfl ?_)
      rcases hse with ⟨z, z1, z2, z3, z4⟩ | hse
      · refine kX_ialdV rfl rfl (by decide) (x) (by first | rfl | decide) (by omega) (z4) ?_
        refine kX_cal (mr_isOpen L xs d _ z (by omega)) rfl (Or.inr rfl) rfl rfl rfl (fun r1 σ1 q1 => ?_)
        obtain ⟨rfl, rfl⟩ := q1
        repeat refine kX_one rfl ?_
        refine kX_if (fun q => ?_) (fun q => ?_)
        · have q : ¬ (200 ≤ z ∧ I z = 0) := fun hh => isB_ne.mpr hh (qeq q)
          refine k136 (fun y y1 y2 y3 => ?_)
          rcases y2 with y2 | y2
          · exact hfi y y1 y2 y3
          · obtain rfl : z = y := nI_inj (z4.symm.trans y2)
            exact hno z y1 (by omega) q
        · have q : 200 ≤ z ∧ I z = 0 := isB_ne.mp (qeqF q)
          exact k118 z q.1 z1 z3 q.2 z4 hfi
      · refine kX_ialdV rfl rfl (by decide) (x) (by first | rfl | decide) (by omega) (hse) ?_
        refine kX_cal (mr_isOpenN L xs d _) rfl (Or.inr rfl) rfl rfl rfl (fun r1 σ1 q1 => ?_)
        obtain ⟨rfl, rfl⟩ := q1
        iterate 1 (refine kX_one rfl ?_)
        refine k136 (fun y y1 y2 y3 => ?_)
        rcases y2 with y2 | y2
        · exact hfi y y1 y2 y3
        · exact absurd (y2.symm.trans hse) (nI_m1 (by omega))
    have k74 : ∀ y, y < x → mv n b y → tsz (σ 233) (σ 234) (σ 235) y ≤ 24 → σ 234 x = nI y → ((∃ z, z < x ∧ mv n b z ∧ tsz (σ 233) (σ 234) (σ 235) z ≤ 24 ∧ σ 235 x = nI z) ∨ σ 235 x = -1) → kX kT L xs (d + 2) 199 74 [(3, .int (nI x)), (2, .int (nI (s.length + 1))), (0, .ref 232), (1, .int tv)] [] (foS σ W I O (nI l.length)) Q := by
      intro z z1 z2 z3 z4 hse
      iterate 4 (refine kX_one rfl ?_)
      refine kX_ialdV rfl rfl (by decide) (x) (by first | rfl | decide) (by omega) (z4) ?_
      refine kX_cal (mr_isOpen L xs d _ z (by omega)) rfl (Or.inr rfl) rfl rfl rfl (fun r1 σ1 q1 => ?_)
      obtain ⟨rfl, rfl⟩ := q1
      repeat refine kX_one rfl ?_
      refine kX_if (fun q => ?_) (fun q => ?_)
      · have q : ¬ (200 ≤ z ∧ I z = 0) := fun hh => isB_ne.mpr hh (qeq q)
        refine k105 (fun y y1 y2 y3 => ?_) hse
        obtain rfl : z = y := nI_inj (z4.symm.trans y2)
        exact hno z y1 (by omega) q
      · have q : 200 ≤ z ∧ I z = 0 := isB_ne.mp (qeqF q)
        exact k87 z q.1 z1 z3 q.2 z4
    rw [show nI (s ++ [x]).length = nI (s.length + 1) by rw [hsl]]
    iterate 1 (refine kX_one rfl ?_)
    repeat refine kX_one rfl ?_
    refine kX_ifF (decide_eq_false (nI_nle (by omega) (by omega))) ?_
    iterate 5 (refine kX_one rfl ?_)
    refine kX_ialdV rfl rfl (by decide) (s.length) (nI_pred _) (by omega) (w1) ?_
    iterate 3 (refine kX_one rfl ?_)
    repeat refine kX_one rfl ?_
    refine kX_if (fun q => ?_) (fun q => ?_)
    · have q := qlt q x 200
      omega
    iterate 3 (refine kX_one rfl ?_)
    refine kX_baldV rfl rfl (by decide) (x) (by first | rfl | decide) (by omega) (hx0) ?_
    iterate 1 (refine kX_one rfl ?_)
    refine kX_lv [(3, .int (nI x)), (2, .int (nI (s.length + 1))), (0, .ref 232), (1, .int tv)] rfl rfl rfl ?_
    rcases (hV x (Or.inr ⟨x1, x2⟩)).2 with ⟨k, h3, hk, -, -⟩ | ⟨k, y, z, h3, hk, hy, hz2, h4, h5, h6, h7⟩ | ⟨k, y, h3, hk, hy, hz2, h4, h6⟩
    · rw [hk, fN_nI (by omega)] at hkx
      omega
    · have e7 : tsz (σ 233) (σ 234) (σ 235) x = 1 + tsz (σ 233) (σ 234) (σ 235) y + tsz (σ 233) (σ 234) (σ 235) z := by
        unfold tsz
        rw [tA_2 hV hk hy hz2 (by omega) (by omega) h4 h5 h6 h7]
        rfl
      exact k74 y h4 h6 (by omega) hy (Or.inl ⟨z, h5, h7, by omega, hz2⟩)
    · have e7 : tsz (σ 233) (σ 234) (σ 235) x = 1 + tsz (σ 233) (σ 234) (σ 235) y := by
        unfold tsz
        rw [tA_1 hV hk hy hz2 (by omega) (by omega) h4 h6]
        rfl
      exact k74 y h4 h6 (by omega) hy (Or.inr hz2)
set_option maxRecDepth 100000 in
set_option maxHeartbeats 4000000 in
theorem mf_findOrder (L : Nat) (xs : Nat → Int32) (d : Nat) (σ : kS) (n b t : Nat) (h : mTb σ n b) (hb : b ≤ 776) (ht : 200 ≤ t) (htb : t < b) (h24 : tsz (σ 233) (σ 234) (σ 235) t ≤ 24) : kXM kT L xs (d + 2) 199 [.ref 232, .int (nI t)] σ (fun r σ' => r = none ∧ ∃ l W I O, σ' = foS σ W I O (nI l.length) ∧ lst O l ∧ foL σ b l ∧ t ∈ l ∧ foF σ n t [] l) := by
  unfold kXM
  have hl := mf_fo_loop L xs d σ n b t h hb (nI t) (fun r σ' => r = none ∧ ∃ l W I O, σ' = foS σ W I O (nI l.length) ∧ lst O l ∧ foL σ b l ∧ t ∈ l ∧ foF σ n t [] l) (fun l W I O h1 h2 h3 h4 => by
    refine kX_ret (i := .return_) (len := 1) rfl (Or.inr rfl) rfl (⟨rfl, l, W, I, O, rfl, h1, h2, h3, h4⟩))
  iterate 5 (refine kX_one rfl ?_)
  have hT : mTb (va_up σ 232 (upd (σ 232) 61 (Int32.ofInt 0))) n b := h
  have := mr_fo_init L xs (d + 1) (va_up σ 232 (upd (σ 232) 61 (Int32.ofInt 0))) n b hT (nI t) (fun r σ' => r = none ∧ ∃ l W I O, σ' = foS σ W I O (nI l.length) ∧ lst O l ∧ foL σ b l ∧ t ∈ l ∧ foF σ n t [] l) (fun I hI => ?_) (200, σ 280) ⟨Nat.le_refl _, h.2.1, fun j j1 j2 => absurd j2 (by simp only; omega)⟩
  · refine kX_to _ _ rfl rfl rfl ?_ this
    funext c; unfold  va_up; repeat' split
    all_goals first | rfl | omega | (subst_vars; rfl) | (funext j; unfold upd; repeat' split; all_goals first | rfl | omega | (subst_vars; rfl))
  · iterate 6 (refine kX_one rfl ?_)
    refine kX_iastN rfl rfl (by decide) (0) (by first | rfl | decide) (by decide) ?_
    refine kX_to _ _ rfl rfl rfl ?_ (hl ([t], [], upd (σ 252) 0 (nI t), I, σ 279) ⟨⟨lst_push (lst_nil _) t, lst_nil _, fun x hx => ?_, List.pairwise_singleton _ _, fun i hi => ?_, fun j j1 j2 => ?_, foL_nil σ b, Or.inl (by simp)⟩, rfl⟩)
    · funext c; unfold foS va_up; repeat' split
      all_goals first | rfl | omega | (subst_vars; rfl) | (funext j; unfold upd; repeat' split; all_goals first | rfl | omega | (subst_vars; rfl))
    · rw [List.mem_singleton] at hx
      subst hx
      exact ⟨ht, htb, h24, by simp⟩
    · simp at hi
      subst hi
      exact htb
    · show I j = isB (j ∈ [])
      rw [hI j j1 j2, isB_F (by simp)]
end
section
/-! alike: lasting, the reference's row -/
def laP (σ : kS) (n b R S C : Nat) (kl : List Nat) (t : Nat) (r : Option Value) (σ' : kS) : Prop := (∃ z, r = some (.int z)) ∧ ((200 < n + (poT (numN σ n) (mtv σ t) []).length ∧ mFr σ σ' n ∧ mI σ' n b R S C kl) ∨ (n + (poT (numN σ n) (mtv σ t) []).length ≤ 200 ∧ mGr σ σ' n ∧ mI σ' (n + (poT (numN σ n) (mtv σ t) []).length) 200 R S C kl ∧ ∀ j (h : j < (poT (numN σ n) (mtv σ t) []).length), mtv σ' (n + j) = (poT (numN σ n) (mtv σ t) [])[j]'h))
theorem loK_tv {σ τ : kS} {n b bk k : Nat} {l : List Nat} (h : mTb σ n b) (hb : b ≤ 776) (hT : mTb τ (n + k) bk) (hG : mGr σ τ n) (hL : ∀ x ∈ l, 200 ≤ x ∧ x < b) (hll : l.length ≤ 576) (hK : loK σ τ n l k) : ∀ j (hj : j < l.length), j < k → mtv τ (n + j) = mtv σ l[j] := by
  intro j
  induction j using Nat.strongRecOn with
  | _ j ih =>
    intro hj hjk
    have hn := h.1
    obtain ⟨x1, x2⟩ := hL _ (List.getElem_mem hj)
    obtain ⟨e1, e2, e3⟩ := hK j hj hjk
    have hV := h.2.2.2.2.2.1.1
    have hV' := hT.2.2.2.2.2.1.1
    have hnum : ∀ p, p < n → mtv τ p = mtv σ p := fun p hp => tA_congr (mTb_num h) (fun u hu => ⟨(hG.2.2 u hu).1, (hG.2.2 u hu).2.1, (hG.2.2 u hu).2.2, rfl⟩) p hp
    have hpart : ∀ p w, p < 1000 → loT l n j (nI p) w → ∃ p', w = nI p' ∧ p' < n + j ∧ mtv τ p' = mtv σ p := by
      intro p w hp hq
      rcases hq with ⟨a1, a2⟩ | ⟨y, y1, y2, y3⟩ | ⟨i, i0, i1, i2, i3⟩
      · exact absurd a1 (nI_m1 (by omega))
      · obtain rfl : p = y := nI_inj y2
        exact ⟨p, y3, by omega, hnum p y1⟩
      · have hi := (hL _ (List.getElem_mem i0)).2
        have : p = l[i] := nI_inj i2
        exact ⟨n + i, i3, by omega, by rw [this]; exact ih i i1 i0 (by omega)⟩
    generalize l[j] = x at *
    rcases lo_tok h x1 x2 with ⟨kd, p, q, h3, hk, hp, hq, h4, h5, h6, h7⟩ | ⟨kd, p, h3, hk, hp, hq, h4, h6⟩
    · rw [hp] at e2
      rw [hq] at e3
      obtain ⟨p', p1, p2, p3⟩ := hpart p _ (by omega) e2
      obtain ⟨q', q1, q2, q3⟩ := hpart q _ (by omega) e3
      unfold mtv at p3 q3 ⊢
      rw [tvl_2 hV' (e1.trans hk) p1 q1 (by omega) (by omega) p2 q2 (Or.inl (by omega)) (Or.inl (by omega)), tvl_2 hV hk hp hq (by omega) (by omega) h4 h5 h6 h7, p3, q3]
    · rw [hp] at e2
      rw [hq] at e3
      obtain ⟨p', p1, p2, p3⟩ := hpart p _ (by omega) e2
      have q1 := loT_m1 e3 hn (fun x hx => by have := (hL x hx).2; omega)
      unfold mtv at p3 ⊢
      rw [tvl_1 hV' (e1.trans hk) p1 q1 (by omega) (by omega) p2 (Or.inl (by omega)), tvl_1 hV hk hp hq (by omega) (by omega) h4 h6, p3]
set_option maxRecDepth 100000 in
set_option maxHeartbeats 4000000 in
theorem mf_lasting (L : Nat) (xs : Nat → Int32) (d : Nat) (σ : kS) (n b R S C : Nat) (kl : List Nat) (t : Nat) (h : mI σ n b R S C kl) (hb : b ≤ 776) (ht : 200 ≤ t) (htb : t < b) (h24 : tsz (σ 233) (σ 234) (σ 235) t ≤ 24) : kXM kT L xs (d + 4) 203 [.ref 232, .int (nI t)] σ (laP σ n b R S C kl t) := by
  have hT := h.1
  have hn := hT.1
  unfold kXM
  iterate 2 (refine kX_one rfl ?_)
  refine kX_cal (mf_findOrder L xs (d + 1) σ n b t hT hb ht htb h24) rfl (Or.inr rfl) rfl rfl rfl (fun r1 σ1 q1 => ?_)
  obtain ⟨rfl, l, W, I, O, rfl, hl, hL, htl, hX⟩ := q1
  have hX : l.map (mtv σ) = poT (numN σ n) (mtv σ t) [] := hX
  have hPl : (poT (numN σ n) (mtv σ t) []).length = l.length := by rw [← hX, List.length_map]
  have hF0 : mFr σ (foS σ W I O (nI l.length)) n := by
    refine ⟨fun c hc => ?_, fun j hj => ?_, fun _ _ => ⟨rfl, rfl, rfl⟩⟩
    · simp only [rowC, List.mem_cons, List.not_mem_nil, or_false, not_or] at hc
      unfold foS
      rw [up_ne (by omega), up_ne (by omega), up_ne (by omega), up_ne (by omega)]
    · simp only [rowJ, List.mem_cons, List.not_mem_nil, or_false, not_or] at hj
      show upd (σ 232) 61 (nI l.length) j = _
      exact pk_un (by omega)
  have hk0 : foS σ W I O (nI l.length) 233 = σ 233 ∧ foS σ W I O (nI l.length) 234 = σ 234 ∧ foS σ W I O (nI l.length) 235 = σ 235 := ⟨rfl, rfl, rfl⟩
  have hll := foL_len hL hb
  have hI1 : mI (foS σ W I O (nI l.length)) n b R S C kl := mI_fo h
  have hL1 : foL (foS σ W I O (nI l.length)) b l := hL
  have hlow : mLow σ (foS σ W I O (nI l.length)) := fun c hc => by
    unfold foS va_up
    rw [if_neg (by omega), if_neg (by omega), if_neg (by omega), if_neg (by omega)]
  have hord : foS σ W I O (nI l.length) 232 61 = nI l.length := rfl
  have hord2 : lst (foS σ W I O (nI l.length) 279) l := hl
  have hter : foS σ W I O (nI l.length) 232 9 = nI n := hI1.1.2.2.2.1
  generalize foS σ W I O (nI l.length) = ρ at *
  have k23 : n + l.length ≤ 200 → kX kT L xs (d + 4) 203 23 [(0, .ref 232), (1, .int (nI t))] [] ρ (laP σ n b R S C kl t) := by
    intro h200
    iterate 2 (refine kX_one rfl ?_)
    have h1 := mr_lo_one L xs (d + 2) ρ n b l hI1.1 hb hord2 hord hL1 (nI t) (laP σ n b R S C kl t) (fun NK NF NS hlo => ?_) (0, ρ 281, ρ 282, ρ 283) ⟨Nat.zero_le _, fun j _ hj => absurd hj (Nat.not_lt_zero _)⟩
    · refine kX_to _ _ rfl rfl rfl ?_ h1
      funext c; unfold loS va_up; repeat' split
      all_goals first | rfl | omega | (subst_vars; rfl) | (funext j; unfold upd; repeat' split; all_goals first | rfl | omega | (subst_vars; rfl))
    · have hT3 : mTb (loS ρ NK NF NS) n b := hI1.1
      have hI3 : mI (loS ρ NK NF NS) n b R S C kl := mI_lo hI1
      have hL3 : foL (loS ρ NK NF NS) b l := hL1
      have hlo3 : loI (loS ρ NK NF NS) n l NK NF NS l.length := hlo
      have hlow3 : mLow σ (loS ρ NK NF NS) := mLow_trans hlow (fun c hc => by
        unfold loS va_up
        rw [if_neg (by omega), if_neg (by omega), if_neg (by omega)])
      have h2 := mr_lo_two L xs d (loS ρ NK NF NS) n b l hT3 hb hL3 h200 NK NF NS hlo3 (nI t) (laP σ n b R S C kl t) (fun τ g1 g2 g3 => ?_) (0, loS ρ NK NF NS) ⟨Nat.zero_le _, ⟨b, hT3⟩, ⟨fun _ _ => rfl, fun _ _ => rfl, fun _ _ => ⟨rfl, rfl, rfl⟩⟩, rfl, rfl, rfl, fun j _ hj => absurd hj (Nat.not_lt_zero _), fun hj => absurd hj (Nat.lt_irrefl _)⟩
      · iterate 2 (refine kX_one rfl ?_)
        refine kX_top (hord) ?_
        iterate 3 (refine kX_one rfl ?_)
        refine kX_top (hter) ?_
        iterate 3 (refine kX_one rfl ?_)
        exact kX_lv _ rfl rfl rfl h2
      · have hpos : 0 < l.length := List.length_pos_of_mem htl
        obtain ⟨g4, g5⟩ := g3 hpos
        repeat refine kX_one rfl ?_
        have hfin : mI τ (n + l.length) 200 R S C kl := by
          refine mI_gr hI3 g1 (by omega) (fun u u1 u2 => ?_) g4 g5
          obtain ⟨j, rfl⟩ : ∃ j, u = n + j := ⟨u - n, by omega⟩
          have hj : j < l.length := by omega
          obtain ⟨x1, x2, -⟩ := hL3.1 _ (List.getElem_mem hj)
          have := hT3.2.2.2.2.2.2.2.2.1 _ x1 x2
          rw [(g2 j hj hj).1]
          intro e
          rw [e, fN_nI (by omega)] at this
          omega
        have hGr : mGr σ τ n := by
          refine ⟨fun c hc => ?_, fun j hj => ?_, fun u hu => ?_⟩
          · rw [g1.1 c hc, ← hF0.1 c hc]
            simp only [rowC, List.mem_cons, List.not_mem_nil, or_false, not_or] at hc
            unfold loS
            rw [up_ne (by omega), up_ne (by omega), up_ne (by omega)]
          · rw [g1.2.1 j hj, ← hF0.2.1 j (fun z => hj (List.mem_cons_of_mem _ z))]
            rfl
          · have := g1.2.2 u hu
            have e1 : loS ρ NK NF NS 233 = σ 233 := hk0.1
            have e2 : loS ρ NK NF NS 234 = σ 234 := hk0.2.1
            have e3 : loS ρ NK NF NS 235 = σ 235 := hk0.2.2
            rw [e1, e2, e3] at this
            exact this
        have hK2 : loK σ τ n l l.length := by
          have e1 : loS ρ NK NF NS 233 = σ 233 := hk0.1
          have e2 : loS ρ NK NF NS 234 = σ 234 := hk0.2.1
          have e3 : loS ρ NK NF NS 235 = σ 235 := hk0.2.2
          unfold loK at g2 ⊢
          rw [e1, e2, e3] at g2
          exact g2
        refine kX_ret (i := .ireturn) (len := 1) rfl (Or.inr rfl) rfl ⟨⟨_, rfl⟩, Or.inr ⟨by rw [hPl]; exact h200, hGr, by rw [hPl]; exact hfin, fun j hj => ?_⟩⟩
        have hj' : j < l.length := by rw [← hPl]; exact hj
        rw [loK_tv hT hb g4 hGr (fun x hx => ⟨(hL.1 x hx).1, (hL.1 x hx).2.1⟩) hll hK2 j hj' hj']
        simp only [← hX, List.getElem_map]
  iterate 2 (refine kX_one rfl ?_)
  refine kX_top (hter) ?_
  iterate 2 (refine kX_one rfl ?_)
  refine kX_top (hord) ?_
  iterate 1 (refine kX_one rfl ?_)
  refine kX_top (nI_add n l.length) ?_
  iterate 1 (refine kX_one rfl ?_)
  repeat refine kX_one rfl ?_
  refine kX_if (fun q => ?_) (fun q => ?_)
  · have q := qle q (n + l.length) 200
    exact k23 q
  · have q := qleF q (n + l.length) 200
    repeat refine kX_one rfl ?_
    refine kX_ret (i := .ireturn) (len := 1) rfl (Or.inr rfl) rfl (⟨⟨_, rfl⟩, Or.inl ⟨by rw [hPl]; exact q, hF0, hI1⟩⟩)
end
section
/-! alike: the reference's row -/
/-- the place i of the row gets a number -/
def rowOk (σ : kS) (n : Nat) (tr : trT) (i : Nat) (q : Jvm.Term × Int32 × Int32) : Prop := tr[i]? = some q ∧ ¬ numN σ n q.1 ∧ vsz q.1 ≤ 24 ∧ n + (poT (numN σ n) q.1 []).length ≤ 200
set_option maxRecDepth 100000 in
set_option maxHeartbeats 4000000 in
theorem mg_row (L : Nat) (xs : Nat → Int32) (d : Nat) (σ : kS) (n b R S C : Nat) (kl : List Nat) (x w : Int32) (Q : Option Value → kS → Prop) (h : mI σ n b R S C kl) (hO : ¬ (isN w 5 ∧ σ 232 52 = 1) → ∀ z, Q (some (.int z)) σ)
    (hF : ∀ ds b' σ' z, isN w 5 → σ 232 52 = 1 → mRn σ n R S ds → ¬ (w = nI 4 ∧ ∃ i q, x = nI i ∧ rowOk σ n (trRun σ kl ds) i q) → mFr σ σ' n → mI σ' n b' R S C kl → Q (some (.int z)) σ')
    (hM : ∀ ds i q σ' z, w = nI 4 → σ 232 52 = 1 → mRn σ n R S ds → x = nI i → rowOk σ n (trRun σ kl ds) i q → mGr σ σ' n → mI σ' (n + (poT (numN σ n) q.1 []).length) 200 R S C kl → (∀ j (h : j < (poT (numN σ n) q.1 []).length), mtv σ' (n + j) = (poT (numN σ n) q.1 [])[j]'h) → Q (some (.int z)) σ') : kXM kT L xs (d + 8) 204 [.ref 232, .int x, .int w] σ Q := by
  have h0 := h
  obtain ⟨h1, h2, h3, h4, h5, h6, h7⟩ := h
  have hn := h1.1
  unfold kXM
  repeat refine kX_one rfl ?_
  refine kX_cal (mr_in L xs (d + 7) σ _ _ _) rfl (Or.inr rfl) rfl rfl rfl (fun r1 σ1 q1 => ?_)
  obtain ⟨rfl, rfl⟩ := q1
  rw [isB_dec]
  repeat refine kX_one rfl ?_
  refine kX_if (fun q => ?_) (fun q => ?_)
  · obtain ⟨k, -, k2, rfl⟩ := in_R (lo := 0) (hi := 4) (by omega) (by omega) (isB_ne.mp (qne q)).1 (isB_ne.mp (qne q)).2
    rcases h6 with h6 | ⟨h6, ds, g1, g2, g3⟩
    · iterate 2 (refine kX_one rfl ?_)
      refine kX_top (h6) ?_
      repeat refine kX_one rfl ?_
      refine kX_ret (i := .ireturn) (len := 1) rfl (Or.inr rfl) rfl (hO (fun z => absurd (z.2.symm.trans h6) (by decide)) _)
    · iterate 2 (refine kX_one rfl ?_)
      refine kX_top (h6) ?_
      repeat refine kX_one rfl ?_
      refine kX_cal (mr_row L xs d σ n b R S C kl ds h0 h6 g1 g2 g3) rfl (Or.inr rfl) rfl rfl rfl (fun r1 σ1 q1 => ?_)
      obtain ⟨rfl, f1, f2, b', l, f3, f4, f5, f6, f7⟩ := q1
      have hI1 := (mI_there h0 h6 g1 g2 f1 f2 f3 f4 f5 f6 f7).1
      have hw5 : isN (nI k) 5 := ⟨k, by omega, rfl⟩
      have hA1 : ¬ (nI k = nI 4 ∧ ∃ i q, x = nI i ∧ rowOk σ n (trRun σ kl ds) i q) → ∀ z, Q (some (.int z)) σ1 := fun hz z => hF ds b' σ1 z hw5 h6 g1 hz f1 hI1
      have hlr : l.length ≤ 1000 := by
        rw [← f5.2.2.2.2]
        exact cnt_le _ _
      repeat refine kX_one rfl ?_
      refine kX_cal (mr_in L xs (d + 7) σ1 _ _ _) rfl (Or.inr rfl) rfl rfl rfl (fun r1 σ1 q1 => ?_)
      obtain ⟨rfl, rfl⟩ := q1
      rw [isB_dec]
      repeat refine kX_one rfl ?_
      refine kX_if (fun q => ?_) (fun q => ?_)
      · obtain ⟨i, hi, rfl⟩ : isN x l.length := (in_N (by omega)).mp (by rw [← f5.1]; exact isB_ne.mp (qne q))
        obtain ⟨e1, -, -⟩ := f5.2.1 i hi
        have hv : mvG σ1 n b' (l[i]).1 := f5.2.2.1 _ ⟨l[i], List.getElem_mem hi, rfl⟩
        have htr : ∃ q, (trRun σ kl ds)[i]? = some q ∧ q.1 = mtv σ1 (l[i]).1 := by
          rw [← f7]
          unfold rwM
          rw [List.getElem?_map, List.getElem?_eq_getElem hi]
          exact ⟨_, rfl, rfl⟩
        have hz := rwM_sz h1 h2 h4 g1 f4 f7 ⟨l[i], List.getElem_mem hi, rfl⟩ hv.1
        generalize (l[i]).1 = t at e1 hv hz htr
        obtain ⟨q0, hq0, hq1⟩ := htr
        have hnn : numN σ1 n = numN σ n := by
          funext g
          refine propext ⟨fun ⟨t, t1, t2⟩ => ⟨t, t1, (mFr_all h1 f1 t1).1.symm.trans t2⟩, fun ⟨t, t1, t2⟩ => ⟨t, t1, (mFr_all h1 f1 t1).1.trans t2⟩⟩
        have hszt : vsz q0.1 = tsz (σ1 233) (σ1 234) (σ1 235) t := by
          rw [hq1]
          exact vsz_tvl f4.2.2.2.2.2.1.1 t hv.1
        have huq : ∀ i' q', nI i = nI i' → (trRun σ kl ds)[i']? = some q' → q' = q0 := fun i' q' e1 e2 => by
          have hi' : i' < (trRun σ kl ds).length := (List.getElem?_eq_some_iff.mp e2).1
          have hlt : (trRun σ kl ds).length = l.length := by rw [← f7, rwM_len]
          obtain rfl : i = i' := nI_inj e1
          exact Option.some.inj (e2.symm.trans hq0)
        have ht : t < 1000 := by
          have := hv.1
          unfold mv at this
          omega
        iterate 3 (refine kX_one rfl ?_)
        refine kX_ialdV rfl rfl (by decide) (i) (by first | rfl | decide) (by omega) (e1) ?_
        have : k = 0 ∨ k = 1 ∨ k = 2 ∨ k = 3 ∨ k = 4 := by omega
        rcases this with rfl | rfl | rfl | rfl | rfl
        · repeat refine kX_one rfl ?_
          refine kX_ialdN rfl rfl (by decide) (t) (by first | rfl | decide) (ht) ?_
          refine kX_ret (i := .ireturn) (len := 1) rfl (Or.inr rfl) rfl (hA1 (fun z => absurd (nI_inj z.1) (by decide)) _)
        · repeat refine kX_one rfl ?_
          refine kX_ialdN rfl rfl (by decide) (t) (by first | rfl | decide) (ht) ?_
          refine kX_ret (i := .ireturn) (len := 1) rfl (Or.inr rfl) rfl (hA1 (fun z => absurd (nI_inj z.1) (by decide)) _)
        · repeat refine kX_one rfl ?_
          refine kX_ialdN rfl rfl (by decide) (i) (by first | rfl | decide) (by omega) ?_
          refine kX_ret (i := .ireturn) (len := 1) rfl (Or.inr rfl) rfl (hA1 (fun z => absurd (nI_inj z.1) (by decide)) _)
        · repeat refine kX_one rfl ?_
          refine kX_ialdN rfl rfl (by decide) (i) (by first | rfl | decide) (by omega) ?_
          refine kX_ret (i := .ireturn) (len := 1) rfl (Or.inr rfl) rfl (hA1 (fun z => absurd (nI_inj z.1) (by decide)) _)
        · repeat refine kX_one rfl ?_
          refine kX_if (fun q => ?_) (fun q => ?_)
          · have q := qge q t 200
            have hvt : 200 ≤ t ∧ t < b' := by
              have := hv.1
              unfold mv at this
              omega
            iterate 3 (refine kX_one rfl ?_)
            refine kX_ialdV rfl rfl (by decide) (t) (by first | rfl | decide) (ht) (f4.2.2.2.2.2.1.2.1 t hv.1) ?_
            repeat refine kX_one rfl ?_
            refine kX_if (fun q2 => ?_) (fun q2 => ?_)
            · have h24 : tsz (σ1 233) (σ1 234) (σ1 235) t ≤ 24 := by
                exact qle q2 _ 24
              repeat refine kX_one rfl ?_
              refine kX_cal (mf_lasting L xs (d + 3) σ1 n b' R S C kl t hI1 f3 hvt.1 hvt.2 h24) rfl (Or.inr rfl) rfl rfl rfl (fun r1 σ2 q1 => ?_)
              obtain ⟨⟨y, rfl⟩, hA2⟩ := q1
              rw [hnn, ← hq1] at hA2
              have hnN : ¬ numN σ n q0.1 := by
                rw [← hnn, hq1]
                exact numN_hi f4 hvt.1 hvt.2
              rcases hA2 with ⟨a1, a2, a3⟩ | ⟨a1, a2, a3, a4⟩
              · refine kX_ret (i := .ireturn) (len := 1) rfl (Or.inr rfl) rfl (hF ds b' σ2 y hw5 h6 g1 (fun ⟨_, i', q', e1, e2, _, _, e5⟩ => by rw [huq i' q' e1 e2] at e5; omega) (mFr_trans f1 a2) a3)
              · have hGr : mGr σ σ2 n := by
                  refine ⟨fun c hc => (a2.1 c hc).trans (f1.1 c hc), fun j hj => (a2.2.1 j hj).trans (f1.2.1 j (fun z => hj (List.mem_cons_of_mem _ z))), fun u hu => ?_⟩
                  obtain ⟨x1, x2, x3⟩ := a2.2.2 u hu
                  obtain ⟨y1, y2, y3⟩ := f1.2.2 u (by omega)
                  exact ⟨x1.trans y1, x2.trans y2, x3.trans y3⟩
                refine kX_ret (i := .ireturn) (len := 1) rfl (Or.inr rfl) rfl (hM ds i q0 σ2 y rfl h6 g1 rfl ⟨hq0, hnN, by omega, a1⟩ hGr a3 a4)
            · have q2 := qleF q2 _ 24
              repeat refine kX_one rfl ?_
              refine kX_ret (i := .ireturn) (len := 1) rfl (Or.inr rfl) rfl (hA1 (fun ⟨_, i', q', e1, e2, _, e4, _⟩ => by rw [huq i' q' e1 e2] at e4; omega) _)
          · have q := qgeF q t 200
            have htn : t < n := by
              have := hv.1
              unfold mv at this
              omega
            repeat refine kX_one rfl ?_
            refine kX_ret (i := .ireturn) (len := 1) rfl (Or.inr rfl) rfl (hA1 (fun ⟨_, i', q', e1, e2, e3, _⟩ => by rw [huq i' q' e1 e2, hq1, ← hnn] at e3; exact e3 ⟨t, htn, rfl⟩) _)
      · have q : ¬ isN x l.length := fun z => isB_ne.mpr (by have := (in_N (by omega)).mpr z; rw [← f5.1] at this; exact this) (qneF q)
        repeat refine kX_one rfl ?_
        refine kX_ret (i := .ireturn) (len := 1) rfl (Or.inr rfl) rfl (hA1 (fun ⟨_, i', q', e1, e2, _⟩ => q ⟨i', by have := (List.getElem?_eq_some_iff.mp e2).1; rw [← f7, rwM_len] at this; exact this, e1⟩) _)
  · have q : ¬ isN w 5 := fun ⟨j, j1, j2⟩ => by
      subst j2
      refine absurd (qneF q) (isB_ne.mpr ⟨?_, ?_⟩)
      · show ¬ (nI j).toInt64 < (nI 0).toInt64
        rw [i64_lt, Int32.lt_iff_toInt_lt, nI_toInt (by omega), nI_toInt (by omega)]
        omega
      · show ¬ (nI 4).toInt64 < (nI j).toInt64
        rw [i64_lt, Int32.lt_iff_toInt_lt, nI_toInt (by omega), nI_toInt (by omega)]
        omega
    repeat refine kX_one rfl ?_
    refine kX_ret (i := .ireturn) (len := 1) rfl (Or.inr rfl) rfl (hO (fun z => q z.1) _)
end
section
/-! alike: missingFor -/
def knN (σ : kS) (n : Nat) (g : Jvm.Term) : Prop := ∃ t, t < n ∧ kTv σ t = g
/-- with each tree what it is of -/
def cloK (σ : kS) (n u : Nat) (L : List Jvm.Term) : Prop := ∀ x, 200 ≤ x → x < 200 + u → kTv σ x ∈ L → ∀ p, p < 2000 → (σ 3 x = nI p ∨ σ 4 x = nI p) → knN σ n (kTv σ p) ∨ kTv σ p ∈ L
section MISS
variable {σ : kS} {n u m : Nat} {l : rwT}
theorem kN_hi (h : iE σ 186 200 n u m l) {x : Nat} (x1 : 200 ≤ x) (x2 : x < 200 + u) : ¬ knN σ n (kTv σ x) := fun ⟨t, t1, t2⟩ => by
  have := kTv_inj h (Or.inl t1) (Or.inr ⟨x1, x2⟩) t2
  have := h.2.1
  omega
theorem k_of (h : iE σ 186 200 n u m l) {x : Nat} (x1 : 200 ≤ x) (x2 : x < 200 + u) : (∃ k p z, (k = 4 ∨ k = 5 ∨ ((k = 6 ∨ k = 8) ∧ kAG σ n z)) ∧ σ 2 x = nI k ∧ σ 3 x = nI p ∧ σ 4 x = nI z ∧ p < x ∧ z < x ∧ kV n 200 u p ∧ kV n 200 u z ∧ kTv σ x = vnd k (kTv σ p) (some (kTv σ z))) ∨ ∃ k p, (k = 9 ∨ (k = 7 ∧ kAG σ n p)) ∧ σ 2 x = nI k ∧ σ 3 x = nI p ∧ σ 4 x = -1 ∧ p < x ∧ kV n 200 u p ∧ kTv σ x = vnd k (kTv σ p) none := by
  have hk := (h.2.2.2.2.1.2.2.2.2.1 x x1 x2).1
  have hV := iE_V h
  rcases (hV x (Or.inr ⟨x1, x2⟩)).2 with ⟨k, h3, hk', -, -⟩ | ⟨k, p, z, h3, hk', hp, hz, h4, h5, h6, h7⟩ | ⟨k, p, h3, hk', hp, hz, h4, h6⟩
  · rw [hk', fN_nI (by omega)] at hk
    omega
  · exact Or.inl ⟨k, p, z, h3, hk', hp, hz, h4, h5, h6, h7, tvl_2 hV hk' hp hz (by omega) (by omega) h4 h5 h6 h7⟩
  · exact Or.inr ⟨k, p, h3, hk', hp, hz, h4, h6, tvl_1 hV hk' hp hz (by omega) (by omega) h4 h6⟩
/-- the order over the intruder's table -/
theorem po_tab (h : iE σ 186 200 n u m l) : ∀ g, kV n 200 u g → ∀ acc, cloK σ n u acc → acc.Pairwise (fun x y => x ≠ y) → (cloK σ n u (poT (knN σ n) (kTv σ g) acc) ∧ (poT (knN σ n) (kTv σ g) acc).Pairwise (fun x y => x ≠ y)) ∧ (∀ t ∈ poT (knN σ n) (kTv σ g) acc, t ∈ acc ∨ ∃ x, 200 ≤ x ∧ x < 200 + u ∧ x ≤ g ∧ t = kTv σ x) ∧ (knN σ n (kTv σ g) ∨ kTv σ g ∈ poT (knN σ n) (kTv σ g) acc) := by
  have hu := h.2.2.2.2.1.1
  intro g
  induction g using Nat.strongRecOn with
  | _ g ih =>
    intro hg acc hc hp
    by_cases hin : knN σ n (kTv σ g) ∨ kTv σ g ∈ acc
    · rw [poT_in hin]
      exact ⟨⟨hc, hp⟩, fun t ht => Or.inl ht, hin⟩
    obtain ⟨hn1, hn2⟩ := not_or.mp hin
    have hg2 : 200 ≤ g ∧ g < 200 + u := by
      rcases hg with q | q
      · exact absurd ⟨g, q, rfl⟩ hn1
      · exact q
    have fin : ∀ A : List Jvm.Term, cloK σ n u A → A.Pairwise (fun x y => x ≠ y) → (∀ t ∈ A, t ∈ acc ∨ ∃ x, 200 ≤ x ∧ x < 200 + u ∧ x < g ∧ t = kTv σ x) → (∀ p, p < 2000 → (σ 3 g = nI p ∨ σ 4 g = nI p) → knN σ n (kTv σ p) ∨ kTv σ p ∈ A) → (cloK σ n u (A ++ [kTv σ g]) ∧ (A ++ [kTv σ g]).Pairwise (fun x y => x ≠ y)) ∧ (∀ t ∈ A ++ [kTv σ g], t ∈ acc ∨ ∃ x, 200 ≤ x ∧ x < 200 + u ∧ x ≤ g ∧ t = kTv σ x) ∧ (knN σ n (kTv σ g) ∨ kTv σ g ∈ A ++ [kTv σ g]) := by
      intro A a1 a2 a3 a4
      have hgA : kTv σ g ∉ A := fun q => by
        rcases a3 _ q with z | ⟨x, x1, x2, x3, x4⟩
        · exact hn2 z
        · have := kTv_inj h (Or.inr hg2) (Or.inr ⟨x1, x2⟩) x4
          omega
      refine ⟨⟨fun x x1 x2 hx p hp' hf => ?_, ?_⟩, fun t ht => ?_, Or.inr (by simp)⟩
      · rcases List.mem_append.mp hx with q | q
        · exact (a1 x x1 x2 q p hp' hf).imp id (fun z => List.mem_append_left _ z)
        · rw [List.mem_singleton] at q
          obtain rfl := kTv_inj h (Or.inr ⟨x1, x2⟩) (Or.inr hg2) q
          exact (a4 p hp' hf).imp id (fun z => List.mem_append_left _ z)
      · refine List.pairwise_append.mpr ⟨a2, List.pairwise_singleton _ _, fun x hx y hy => ?_⟩
        rw [List.mem_singleton] at hy
        subst hy
        exact fun e => hgA (e ▸ hx)
      · rcases List.mem_append.mp ht with q | q
        · exact (a3 t q).imp id (fun ⟨x, x1, x2, x3, x4⟩ => ⟨x, x1, x2, by omega, x4⟩)
        · rw [List.mem_singleton] at q
          exact Or.inr ⟨g, hg2.1, hg2.2, Nat.le_refl _, q⟩
    rcases k_of h hg2.1 hg2.2 with ⟨k, p, z, h3, hk, hp', hz, h4, h5, h6, h7, e⟩ | ⟨k, p, h3, hk, hp', hz, h4, h6, e⟩
    · obtain ⟨⟨b1, b2⟩, b3, b4⟩ := ih p h4 h6 acc hc hp
      obtain ⟨⟨c1, c2⟩, c3, c4⟩ := ih z h5 h7 _ b1 b2
      have e2 : poT (knN σ n) (kTv σ g) acc = poT (knN σ n) (kTv σ z) (poT (knN σ n) (kTv σ p) acc) ++ [kTv σ g] := by
        rw [e] at hin ⊢
        rw [poT_2 (by omega), cit_F hin]
      rw [e2]
      refine fin _ c1 c2 (fun t ht => ?_) (fun q hq hf => ?_)
      · rcases c3 t ht with y | ⟨x, x1, x2, x3, x4⟩
        · rcases b3 t y with w | ⟨x, x1, x2, x3, x4⟩
          · exact Or.inl w
          · exact Or.inr ⟨x, x1, x2, by omega, x4⟩
        · exact Or.inr ⟨x, x1, x2, by omega, x4⟩
      · rcases hf with hf | hf
        · obtain rfl : p = q := nI_inj (hp'.symm.trans hf)
          exact b4.imp id poT_mono
        · obtain rfl : z = q := nI_inj (hz.symm.trans hf)
          exact c4
    · obtain ⟨⟨b1, b2⟩, b3, b4⟩ := ih p h4 h6 acc hc hp
      have e2 : poT (knN σ n) (kTv σ g) acc = poT (knN σ n) (kTv σ p) acc ++ [kTv σ g] := by
        rw [e] at hin ⊢
        rw [poT_1 (by omega), cit_F hin]
      rw [e2]
      refine fin _ b1 b2 (fun t ht => ?_) (fun q hq hf => ?_)
      · rcases b3 t ht with w | ⟨x, x1, x2, x3, x4⟩
        · exact Or.inl w
        · exact Or.inr ⟨x, x1, x2, by omega, x4⟩
      · rcases hf with hf | hf
        · obtain rfl : p = q := nI_inj (hp'.symm.trans hf)
          exact b4
        · exact absurd (hf.symm.trans hz) (nI_m1 (by omega))
theorem cloK_nil : cloK σ n u [] := fun _ _ _ hx => absurd hx List.not_mem_nil
/-- the least: what holds of g and of all that this is of -/
theorem po_least (h : iE σ 186 200 n u m l) {Z : Nat → Prop} (hZ : ∀ x, 200 ≤ x → x < 200 + u → Z x → ∀ p, 200 ≤ p → p < 200 + u → (σ 3 x = nI p ∨ σ 4 x = nI p) → Z p) : ∀ g, kV n 200 u g → (200 ≤ g → Z g) → ∀ acc, (∀ t ∈ acc, ∃ x, 200 ≤ x ∧ x < 200 + u ∧ Z x ∧ t = kTv σ x) → ∀ t ∈ poT (knN σ n) (kTv σ g) acc, ∃ x, 200 ≤ x ∧ x < 200 + u ∧ Z x ∧ t = kTv σ x := by
  have hn := h.2.1
  intro g
  induction g using Nat.strongRecOn with
  | _ g ih =>
    intro hg hZg acc ha t ht
    by_cases hin : knN σ n (kTv σ g) ∨ kTv σ g ∈ acc
    · rw [poT_in hin] at ht
      exact ha t ht
    have hg2 : 200 ≤ g ∧ g < 200 + u := by
      rcases hg with q | q
      · exact absurd (Or.inl ⟨g, q, rfl⟩) hin
      · exact q
    have hch : ∀ p, kV n 200 u p → (σ 3 g = nI p ∨ σ 4 g = nI p) → 200 ≤ p → Z p := fun p hp hf h2 => hZ g hg2.1 hg2.2 (hZg hg2.1) p h2 (by unfold kV at hp; omega) hf
    rcases k_of h hg2.1 hg2.2 with ⟨k, p, z, h3, hk, hp', hz, h4, h5, h6, h7, e⟩ | ⟨k, p, h3, hk, hp', hz, h4, h6, e⟩
    · rw [show poT (knN σ n) (kTv σ g) acc = poT (knN σ n) (kTv σ z) (poT (knN σ n) (kTv σ p) acc) ++ [kTv σ g] by rw [e] at hin ⊢; rw [poT_2 (by omega), cit_F hin]] at ht
      rcases List.mem_append.mp ht with q | q
      · exact ih z h5 h7 (hch z h7 (Or.inr hz)) _ (ih p h4 h6 (hch p h6 (Or.inl hp')) acc ha) t q
      · rw [List.mem_singleton] at q
        exact ⟨g, hg2.1, hg2.2, hZg hg2.1, q⟩
    · rw [show poT (knN σ n) (kTv σ g) acc = poT (knN σ n) (kTv σ p) acc ++ [kTv σ g] by rw [e] at hin ⊢; rw [poT_1 (by omega), cit_F hin]] at ht
      rcases List.mem_append.mp ht with q | q
      · exact ih p h4 h6 (hch p h6 (Or.inl hp')) acc ha t q
      · rw [List.mem_singleton] at q
        exact ⟨g, hg2.1, hg2.2, hZg hg2.1, q⟩
end MISS
end
section
/-! alike: missingFor -/
theorem nd_sub {α : Type} : ∀ (l l' : List α), l.Pairwise (fun x y => x ≠ y) → (∀ x ∈ l, x ∈ l') → l.length ≤ l'.length
  | [], _, _, _ => Nat.zero_le _
  | a :: l, l', hd, hs => by
    obtain ⟨s, t, rfl⟩ := List.append_of_mem (hs a (by simp))
    obtain ⟨h1, h2⟩ := List.pairwise_cons.mp hd
    have := nd_sub l (s ++ t) h2 (fun x hx => by
      have := hs x (List.mem_cons_of_mem _ hx)
      rcases List.mem_append.mp this with q | q
      · exact List.mem_append_left _ q
      · rcases List.mem_cons.mp q with z | z
        · exact absurd z.symm (h1 x hx)
        · exact List.mem_append_right _ z)
    rw [List.length_append] at this
    rw [List.length_append, List.length_cons, List.length_cons]
    omega
def wnW (W W' : Nat → Int32) (u : Nat) (x : Int32) : Prop := ∀ i, i < u → W' i = cit (x = nI (200 + i)) 1 (W i)
set_option maxRecDepth 100000 in
set_option maxHeartbeats 4000000 in
theorem mf_want (L : Nat) (xs : Nat → Int32) (d : Nat) (σ : kS) (n u : Nat) (x : Int32) (h : nB σ 186 200 n u) : kXM kT L xs (d + 2) 57 [.ref 186, .int x] σ (fun r σ' => r = none ∧ ∃ W', σ' = va_up σ 194 W' ∧ wnW (σ 194) W' u x) := by
  have hu := h.2.2.1
  unfold kXM
  iterate 2 (refine kX_one rfl ?_)
  refine kX_cal (mc_unn L xs d σ 186 200 n u x h) rfl (Or.inr rfl) rfl rfl rfl (fun r1 σ1 q1 => ?_)
  obtain ⟨rfl, rfl⟩ := q1
  repeat refine kX_one rfl ?_
  refine kX_if (fun q => ?_) (fun q => ?_)
  · have q := qeq q
    refine kX_ret (i := .return_) (len := 1) rfl (Or.inr rfl) rfl (⟨rfl, σ 194, up_id.symm, fun i hi => ?_⟩)
    rw [cit_F]
    intro e
    exact isB_ne.mpr ⟨200 + i, by omega, by omega, e⟩ q
  · obtain ⟨g, g1, g2, rfl⟩ := isB_ne.mp (qeqF q)
    obtain ⟨i, rfl⟩ : ∃ i, g = 200 + i := ⟨g - 200, by omega⟩
    iterate 5 (refine kX_one rfl ?_)
    refine kX_top (h.2.2.2.2.1) ?_
    iterate 1 (refine kX_one rfl ?_)
    refine kX_top (y := nI i) ?_ ?_
    · show nI (200 + i) - nI 200 = nI i
      rw [← nI_add, Int32.add_comm, Int32.add_sub_cancel]
    iterate 1 (refine kX_one rfl ?_)
    refine kX_iastN rfl rfl (by decide) (i) (by first | rfl | decide) (by omega) ?_
    refine kX_ret (i := .return_) (len := 1) rfl (Or.inr rfl) rfl (⟨rfl, _, rfl, fun j hj => ?_⟩)
    by_cases e : j = i
    · subst e
      rw [pk_us, cit_T rfl]
      rfl
    · rw [pk_un e, cit_F]
      intro z
      have := nI_inj z
      omega
/-- what is wanted, from q on looked through -/
def miI (σ : kS) (n u g q : Nat) (W : Nat → Int32) (ls : List Nat) : Prop := (∀ i, i < u → W i = 0 ∨ W i = 1) ∧ (∀ i, i < u → W i = 1 → kTv σ (200 + i) ∈ poT (knN σ n) (kTv σ g) []) ∧ (∀ i, i < u → g = 200 + i → W i = 1) ∧ (∀ i, q ≤ i → i < u → W i = 1 → ∀ p, p < u → (σ 3 (200 + i) = nI (200 + p) ∨ σ 4 (200 + i) = nI (200 + p)) → W p = 1) ∧ ls.Pairwise (fun x y => x ≠ y) ∧ ∀ i, i ∈ ls ↔ q ≤ i ∧ i < u ∧ W i = 1
set_option maxRecDepth 100000 in
set_option maxHeartbeats 4000000 in
theorem mf_missingFor (L : Nat) (xs : Nat → Int32) (d : Nat) (σ : kS) (n u m g : Nat) (l : rwT) (h : iE σ 186 200 n u m l) (hg : kV n 200 u g) : kXM kT L xs (d + 3) 56 [.ref 186, .int (nI g)] σ (fun r σ' => r = some (.int (nI (poT (knN σ n) (kTv σ g) []).length)) ∧ ∃ W, σ' = va_up σ 194 W) := by
  have hB := iE_nB h
  have hu := hB.2.2.1
  have hn := hB.2.1
  have hW : ∀ W, nB (va_up σ 194 W) 186 200 n u := fun W => ⟨hB.1, hB.2.1, hB.2.2.1, hB.2.2.2.1, hB.2.2.2.2.1, hB.2.2.2.2.2⟩
  obtain ⟨⟨po1, po2⟩, po3, po4⟩ := po_tab h g hg [] cloK_nil List.Pairwise.nil
  have hgl : g < 776 := by unfold kV at hg; omega
  have loop : ∀ q : Nat × List Nat × (Nat → Int32), (q.1 ≤ u ∧ miI σ n u g q.1 q.2.2 q.2.1) → kX kT L xs (d + 3) 56 22 [(3, .int (pv q.1)), (2, .int (nI q.2.1.length)), (0, .ref 186), (1, .int (nI g))] [] (va_up σ 194 q.2.2) (fun r σ' => r = some (.int (nI (poT (knN σ n) (kTv σ g) []).length)) ∧ ∃ W, σ' = va_up σ 194 W) := by
    refine kX_while (fun q : Nat × List Nat × (Nat → Int32) => [(3, .int (pv q.1)), (2, .int (nI q.2.1.length)), (0, .ref 186), (1, .int (nI g))]) (fun q => va_up σ 194 q.2.2) _ (fun q => q.1) ?_
    rintro ⟨q, ls, W⟩ ⟨i1, i2⟩ ih
    dsimp only at i1 i2 ih ⊢
    obtain ⟨j1, j2, j3, j4, j5, j6⟩ := i2
    cases q with
    | zero =>
      show kX kT L xs (d + 3) 56 22 [(3, .int (-1)), (2, .int (nI ls.length)), (0, .ref 186), (1, .int (nI g))] [] (va_up σ 194 W) _
      have hle : (poT (knN σ n) (kTv σ g) []).length = ls.length := by
        have a1 : ls.length ≤ (poT (knN σ n) (kTv σ g) []).length := by
          have := nd_sub (ls.map (fun i => kTv σ (200 + i))) (poT (knN σ n) (kTv σ g) []) (List.pairwise_map.mpr (List.Pairwise.imp_of_mem (fun {a b} ha hb hab e => by
            have ha := (j6 a).mp ha
            have hb := (j6 b).mp hb
            have := kTv_inj h (Or.inr ⟨by omega, by omega⟩) (Or.inr ⟨by omega, by omega⟩) e
            omega) j5)) (fun t ht => by
            obtain ⟨i, hi, rfl⟩ := List.mem_map.mp ht
            have := (j6 i).mp hi
            exact j2 i this.2.1 this.2.2)
          rw [List.length_map] at this
          exact this
        have a2 : (poT (knN σ n) (kTv σ g) []).length ≤ ls.length := by
          have := nd_sub (poT (knN σ n) (kTv σ g) []) (ls.map (fun i => kTv σ (200 + i))) po2 (fun t ht => by
            obtain ⟨x, x1, x2, x3, x4⟩ := po_least h (Z := fun x => W (x - 200) = 1) (fun x x1 x2 hz p p1 p2 hf => by
              refine j4 (x - 200) (Nat.zero_le _) (by omega) hz (p - 200) (by omega) ?_
              rw [show 200 + (x - 200) = x by omega, show 200 + (p - 200) = p by omega]
              exact hf) g hg (fun g2 => j3 (g - 200) (by unfold kV at hg; omega) (by omega)) [] (fun t ht => absurd ht List.not_mem_nil) t ht
            refine List.mem_map.mpr ⟨x - 200, (j6 _).mpr ⟨Nat.zero_le _, by omega, x3⟩, ?_⟩
            rw [show 200 + (x - 200) = x by omega]
            exact x4.symm)
          rw [List.length_map] at this
          exact this
        omega
      rw [hle]
      repeat refine kX_one rfl ?_
      refine kX_ret (i := .ireturn) (len := 1) rfl (Or.inr rfl) rfl (⟨rfl, W, rfl⟩)
    | succ i =>
      show kX kT L xs (d + 3) 56 22 [(3, .int (nI i)), (2, .int (nI ls.length)), (0, .ref 186), (1, .int (nI g))] [] (va_up σ 194 W) _
      have k75 : ∀ ls' W', miI σ n u g i W' ls' → kX kT L xs (d + 3) 56 75 [(2, .int (nI ls'.length)), (3, .int (nI i)), (0, .ref 186), (1, .int (nI g))] [] (va_up σ 194 W') (fun r σ' => r = some (.int (nI (poT (knN σ n) (kTv σ g) []).length)) ∧ ∃ W, σ' = va_up σ 194 W) := by
        intro ls' W' ht
        iterate 2 (refine kX_one rfl ?_)
        have := ih (i, ls', W') ⟨by omega, ht⟩ (by simp only; omega)
        dsimp only at this
        rw [pv_dec] at this
        exact kX_lv _ rfl rfl rfl this
      repeat refine kX_one rfl ?_
      refine kX_ifF (decide_eq_false (nI_pos (by omega))) ?_
      iterate 3 (refine kX_one rfl ?_)
      refine kX_ialdN rfl rfl (by decide) (i) (by first | rfl | decide) (by omega) ?_
      repeat refine kX_one rfl ?_
      refine kX_if (fun q => ?_) (fun q => ?_)
      · have q : W i ≠ 1 := qne q
        refine kX_lv _ rfl rfl rfl (k75 ls W ⟨j1, j2, j3, fun i' h1 h2 h3 p hp hf => ?_, j5, fun i' => ?_⟩)
        · exact j4 i' (Nat.lt_of_le_of_ne h1 (fun e => q (e ▸ h3))) h2 h3 p hp hf
        · rw [j6 i']
          refine ⟨fun z => ⟨by omega, z.2⟩, fun z => ⟨Nat.lt_of_le_of_ne z.1 (fun e => q (e ▸ z.2.2)), z.2⟩⟩
      · have q : W i = 1 := qneF q
        have hpi := j2 i (by omega) q
        have hstep : ∀ x (W1 W2 : Nat → Int32), (x = σ 3 (200 + i) ∨ x = σ 4 (200 + i)) → wnW W1 W2 u x → (∀ j, j < u → W1 j = 0 ∨ W1 j = 1) → (∀ j, j < u → W1 j = 1 → kTv σ (200 + j) ∈ poT (knN σ n) (kTv σ g) []) → (∀ j, j < u → (W2 j = 0 ∨ W2 j = 1)) ∧ (∀ j, j < u → W2 j = 1 → kTv σ (200 + j) ∈ poT (knN σ n) (kTv σ g) []) ∧ (∀ j, j < u → W1 j = 1 → W2 j = 1) ∧ (∀ j, j < u → x = nI (200 + j) → W2 j = 1) ∧ ∀ j, i ≤ j → j < u → W2 j = W1 j := by
          intro x W1 W2 hx hw g1 g2
          refine ⟨fun j hj => ?_, fun j hj h1 => ?_, fun j hj h1 => ?_, fun j hj e => ?_, fun j hij hj => ?_⟩
          · rw [hw j hj]
            by_cases e : x = nI (200 + j)
            · rw [cit_T e]
              exact Or.inr rfl
            · rw [cit_F e]
              exact g1 j hj
          · rw [hw j hj] at h1
            by_cases e : x = nI (200 + j)
            · have := po1 (200 + i) (by omega) (by omega) hpi (200 + j) (by omega) (hx.imp (fun z => z.symm.trans e) (fun z => z.symm.trans e))
              rcases this with z | z
              · exact absurd z (kN_hi h (by omega) (by omega))
              · exact z
            · rw [cit_F e] at h1
              exact g2 j hj h1
          · rw [hw j hj]
            by_cases e : x = nI (200 + j)
            · rw [cit_T e]
            · rw [cit_F e]
              exact h1
          · rw [hw j hj, cit_T e]
          · rw [hw j hj, cit_F]
            intro e
            have hlt : 200 + j < 200 + i := by
              rcases k_of h (x := 200 + i) (by omega) (by omega) with ⟨k, p, z, h3, hk, hp', hz, h4, h5, h6, h7, -⟩ | ⟨k, p, h3, hk, hp', hz, h4, h6, -⟩
              · rcases hx with hx | hx
                · have : p = 200 + j := nI_inj (hp'.symm.trans (hx.symm.trans e))
                  omega
                · have : z = 200 + j := nI_inj (hz.symm.trans (hx.symm.trans e))
                  omega
              · rcases hx with hx | hx
                · have : p = 200 + j := nI_inj (hp'.symm.trans (hx.symm.trans e))
                  omega
                · exact absurd (e.symm.trans (hx.trans hz)) (nI_m1 (by omega))
            omega
        iterate 7 (refine kX_one rfl ?_)
        refine kX_top ((hW W).2.2.2.2.1) ?_
        iterate 2 (refine kX_one rfl ?_)
        refine kX_top (y := nI (200 + i)) (nI_add 200 i) ?_
        refine kX_ialdN rfl rfl (by decide) (200 + i) (by first | rfl | decide) (by omega) ?_
        refine kX_cal (mf_want L xs d (va_up σ 194 W) n u _ (hW W)) rfl (Or.inr rfl) rfl rfl rfl (fun r1 τ1 q1 => ?_)
        obtain ⟨rfl, W1, rfl, w1⟩ := q1
        obtain ⟨s1, s2, s3, s4, s5⟩ := hstep _ _ _ (Or.inl rfl) w1 j1 j2
        rw [kup_up]
        iterate 6 (refine kX_one rfl ?_)
        refine kX_top ((hW W1).2.2.2.2.1) ?_
        iterate 2 (refine kX_one rfl ?_)
        refine kX_top (y := nI (200 + i)) (nI_add 200 i) ?_
        refine kX_ialdN rfl rfl (by decide) (200 + i) (by first | rfl | decide) (by omega) ?_
        refine kX_cal (mf_want L xs d (va_up σ 194 W1) n u _ (hW W1)) rfl (Or.inr rfl) rfl rfl rfl (fun r1 τ2 q1 => ?_)
        obtain ⟨rfl, W2, rfl, w2⟩ := q1
        obtain ⟨v1, v2, v3, v4, v5⟩ := hstep _ _ _ (Or.inr rfl) w2 s1 s2
        rw [kup_up]
        have hW2 : ∀ j, i ≤ j → j < u → W2 j = W j := fun j a b => (v5 j a b).trans (s5 j a b)
        have := k75 (i :: ls) W2 ⟨v1, v2, fun j hj e => v3 j hj (s3 j hj (j3 j hj e)), fun i' h1 h2 h3 p hp hf => ?_, List.Pairwise.cons (fun y hy e => ?_) j5, fun i' => ?_⟩
        · rw [List.length_cons, ← nI_1] at this
          exact kX_lv _ rfl rfl rfl this
        · by_cases e : i' = i
          · subst e
            rcases hf with hf | hf
            · exact v3 p hp (s4 p hp hf)
            · exact v4 p hp hf
          · rw [hW2 i' h1 h2] at h3
            exact v3 p hp (s3 p hp (j4 i' (by omega) h2 h3 p hp hf))
        · have := (j6 y).mp hy
          omega
        · rw [List.mem_cons, j6 i']
          refine ⟨fun z => ?_, fun z => ?_⟩
          · rcases z with rfl | z
            · exact ⟨Nat.le_refl _, by omega, by rw [hW2 i' (Nat.le_refl _) (by omega)]; exact q⟩
            · exact ⟨by omega, z.2.1, by rw [hW2 i' (by omega) z.2.1]; exact z.2.2⟩
          · by_cases e : i' = i
            · exact Or.inl e
            · exact Or.inr ⟨by omega, z.2.1, by rw [← hW2 i' z.1 z.2.1]; exact z.2.2⟩
  unfold kXM
  iterate 3 (refine kX_one rfl ?_)
  refine kX_cal (kX_fill (T := kT) L xs (d + 1) 0 σ (a := 194) (n := 576) (g0 := fun _ => 0) rfl (by decide)) rfl (Or.inr rfl) rfl rfl rfl (fun r1 σ1 q1 => ?_)
  obtain ⟨rfl, rfl⟩ := q1
  iterate 2 (refine kX_one rfl ?_)
  refine kX_cal (mf_want L xs d (va_up σ 194 (fun j => if j < 576 then 0 else σ 194 j)) n u _ (hW _)) rfl (Or.inr rfl) rfl rfl rfl (fun r1 τ1 q1 => ?_)
  obtain ⟨rfl, W, rfl, w⟩ := q1
  rw [kup_up]
  have w0 : ∀ i, i < u → W i = cit (nI g = nI (200 + i)) 1 0 := fun i hi => by
    rw [w i hi]
    show cit _ 1 (if i < 576 then (0 : Int32) else σ 194 i) = _
    rw [if_pos (by omega)]
  have w1 : ∀ i, i < u → W i = 1 → g = 200 + i := fun i hi e => by
    rw [w0 i hi] at e
    by_cases z : nI g = nI (200 + i)
    · exact nI_inj z
    · rw [cit_F z] at e
      exact absurd e (by decide)
  iterate 4 (refine kX_one rfl ?_)
  refine kX_top ((hW W).2.2.2.2.2) ?_
  iterate 2 (refine kX_one rfl ?_)
  refine kX_top (y := pv u) (pv_sub u) ?_
  iterate 1 (refine kX_one rfl ?_)
  refine kX_lv _ rfl rfl rfl (loop (u, [], W) ⟨Nat.le_refl _, fun i hi => ?_, fun i hi e => ?_, fun i hi e => ?_, fun i h1 h2 => by simp only at h1; omega, List.Pairwise.nil, fun i => ⟨fun z => absurd z List.not_mem_nil, fun z => by have := z.1; simp only at this; omega⟩⟩)
  · show W i = 0 ∨ W i = 1
    rw [w0 i hi]
    by_cases z : nI g = nI (200 + i)
    · rw [cit_T z]
      exact Or.inr rfl
    · rw [cit_F z]
      exact Or.inl rfl
  · have eg := w1 i hi e
    rw [← eg]
    rcases po4 with z | z
    · exact absurd z (kN_hi h (by omega) (by omega))
    · exact z
  · show W i = 1
    rw [w0 i hi, cit_T (by rw [e])]
end
