/-! the reference: one -/
theorem tin_2 {σ : kS} {n b s t k x y : Nat} (h : mTb σ n b) (hk : σ 233 t = nI k) (hx : σ 234 t = nI x) (hy : σ 235 t = nI y) (h3 : 3 < k) (hk9 : k ≤ 9) (h4 : x < t) (h5 : y < t) (h6 : mv n b x) (h7 : mv n b y) : tin σ s t = vnd k (tin σ s x) (some (tin σ s y)) := tA_2 h.2.2.2.2.2.1.1 hk hx hy h3 hk9 h4 h5 h6 h7
theorem tin_1 {σ : kS} {n b s t k x : Nat} (h : mTb σ n b) (hk : σ 233 t = nI k) (hx : σ 234 t = nI x) (hy : σ 235 t = -1) (h3 : 3 < k) (hk9 : k ≤ 9) (h4 : x < t) (h6 : mv n b x) : tin σ s t = vnd k (tin σ s x) none := tA_1 h.2.2.2.2.2.1.1 hk hx hy h3 hk9 h4 h6
theorem tin_gd {σ : kS} {n b s : Nat} (h : mTb σ n b) : ∀ t, mv n b t → tgd (σ 233) (σ 234) (σ 235) t = true → tin σ s t = tvl (σ 233) (σ 234) (σ 235) t := by
  have hV := h.2.2.2.2.2.1.1
  intro t
  induction t using Nat.strongRecOn with
  | _ t ih =>
    intro ht hg
    rcases (hV t ht).2 with ⟨k, h3, hk, -, -⟩ | ⟨k, x, y, h3, hk, hx, hy, h4, h5, h6, h7⟩ | ⟨k, x, h3, hk, hx, hy, h4, h6⟩
    · rw [tgd_0 hk h3] at hg
      have h3' := of_decide_eq_true hg
      rw [tvl_0 hk h3]
      unfold tin
      rw [tA_0 hk h3, if_neg]
      rw [hk]
      exact nI_ne h3'
    · rw [tgd_2 hV hk hx hy (by omega) (by omega) h4 h5 h6 h7, Bool.and_eq_true] at hg
      rw [tin_2 h hk hx hy (by omega) (by omega) h4 h5 h6 h7, tvl_2 hV hk hx hy (by omega) (by omega) h4 h5 h6 h7, ih x h4 h6 hg.1, ih y h5 h7 hg.2]
    · rw [tgd_1 hV hk hx hy (by omega) (by omega) h4 h6] at hg
      rw [tin_1 h hk hx hy (by omega) (by omega) h4 h6, tvl_1 hV hk hx hy (by omega) (by omega) h4 h6, ih x h4 h6 hg]
/-- u' is what the TERM u is in the session s -/
def mIn (σ τ : kS) (n b s u u' : Nat) : Prop := mv n b u' ∧ tvl (τ 233) (τ 234) (τ 235) u' = tin σ s u ∧ tgd (τ 233) (τ 234) (τ 235) u' = true ∧ (mAG σ n u → u' < n ∧ σ 233 u' = nI 0)
theorem mIn_ex {σ τ ρ : kS} {n b b' s u u' : Nat} (hT : mTb τ n b) (h : mIn σ τ n b s u u') (hE : mEx τ ρ n b b') : mIn σ ρ n b' s u u' := by
  obtain ⟨h1, h2, h3, h4⟩ := h
  obtain ⟨e1, e2⟩ := mEx_tvl hT hE h1
  exact ⟨by have := hE.2.1; unfold mv at h1 ⊢; omega, e1.trans h2, e2.trans h3, h4⟩
theorem ix6 (s p : Nat) : (Int8.ofInt 6).toInt32 * nI s + nI p = nI (6 * s + p) := by
  rw [show (Int8.ofInt 6).toInt32 = nI 6 from rfl, pk_mul, nI_add]
theorem mEx_made {τ ρ : kS} {n b : Nat} {w a c z g : Int32} {nx hd : Nat → Int32} (hT : mTb τ n b) (g2 : mTb ρ n (b + 1)) (e : ρ = mU τ (upd (τ 233) b w) (upd (τ 234) b a) (upd (τ 235) b c) (upd (τ 236) b z) (upd (τ 237) b g) nx hd (upd (τ 232) 10 (nI (b + 1)))) : mEx τ ρ n b (b + 1) := by
  refine ⟨g2, by omega, fun v hv => ?_, ρ 233, ρ 234, ρ 235, ρ 236, ρ 237, ρ 243, ρ 242, ρ 266, ρ 267, ?_⟩
  · rw [e]
    exact ⟨pk_un (by omega), pk_un (by omega), pk_un (by omega)⟩
  · refine exS_of (fun c h1 h2 h3 h4 h5 h6 h7 h8 h9 h10 => ?_) ?_
    · rw [e]
      simp [mU, va_up, h1, h2, h3, h4, h5, h6, h7, h8]
    · rw [e]
      rfl
set_option maxRecDepth 100000 in
set_option maxHeartbeats 4000000 in
theorem mr_one (L : Nat) (xs : Nat → Int32) (d : Nat) (σ τ : kS) (n b b' s t : Nat) (h0 : mTb σ n b) (hE : mEx σ τ n b b') (hb : b' < 1000) (hs : s < 4) (ht : t < n) (hst : mSt σ n s t)
    (hx : ∀ k x, 3 < k → k ≤ 9 → x < 1000 → σ 233 t = nI k → σ 234 t = nI x → ∃ x', τ 267 x = nI x' ∧ mIn σ τ n b' s x x') (hy : ∀ y, y < 1000 → σ 235 t = nI y → ∃ y', τ 267 y = nI y' ∧ mIn σ τ n b' s y y') :
    kXM kT L xs (d + 4) 177 [.ref 232, .int (nI s), .int (nI t)] τ (fun r ρ => ∃ u b'', r = some (.int (nI u)) ∧ mEx τ ρ n b' b'' ∧ b'' ≤ b' + 1 ∧ mIn σ ρ n b'' s t u ∧ ρ 266 = τ 266 ∧ ρ 267 = τ 267) := by
  have hn := h0.1
  have hV := h0.2.2.2.2.2.1.1
  have hT := hE.1
  have htv : mv n b t := Or.inl ht
  have htv' : mv n b' t := Or.inl ht
  have hb0 := h0.2.1
  obtain ⟨eK, eF, eS⟩ := hE.2.2.1 t (by omega)
  obtain ⟨et, eg⟩ := mEx_tvl h0 hE htv
  have hGt : τ 237 t = bI (tgd (σ 233) (σ 234) (σ 235) t) := by rw [← eg]; exact hT.2.2.2.2.2.2.1 t htv'
  have same : mEx τ τ n b' b' := mEx_refl hT (N := τ 266) (I := τ 267) (by rw [kup_self, kup_self])
  have hoth : τ 265 = σ 265 ∧ τ 241 = σ 241 ∧ τ 240 = σ 240 := by
    obtain ⟨-, -, -, K, F, S, Z, G, nx, hd, N, I, rfl⟩ := hE
    exact ⟨rfl, rfl, rfl⟩
  have hold : ∀ z, z < n → τ 233 z = σ 233 z := fun z hz => (hE.2.2.1 z (by omega)).1
  unfold kXM
  repeat refine kX_one rfl ?_
  refine kX_baldV rfl rfl (by decide) (t) (by first | rfl | decide) (by omega) (hGt) ?_
  repeat refine kX_one rfl ?_
  refine kX_if (fun q => ?_) (fun q => ?_)
  · have q := (bI_eq _).mp (qeq q)
    repeat refine kX_one rfl ?_
    refine kX_ialdV (v := σ 233 t) rfl rfl (by decide) t rfl (by omega) eK ?_
    repeat refine kX_one rfl ?_
    refine kX_if (fun q2 => ?_) (fun q2 => ?_)
    · have q2 : σ 233 t ≠ nI 3 := qne q2
      repeat refine kX_one rfl ?_
      refine kX_ialdV (v := σ 233 t) rfl rfl (by decide) t rfl (by omega) eK ?_
      rcases (hV t htv).2 with ⟨k, h3, hk, -, -⟩ | ⟨k, x, y, h3, hk, hfx, hsy, h4, h5, h6, h7⟩ | ⟨k, x, h3, hk, hfx, hsy, h4, h6⟩
      · exfalso
        rw [tgd_0 hk h3] at q
        have := of_decide_eq_false q
        exact q2 (by rw [hk, Decidable.of_not_not this])
      · obtain ⟨x', ex, ix⟩ := hx k x (by omega) (by omega) (by omega) hk hfx
        obtain ⟨y', ey, iy⟩ := hy y (by omega) hsy
        have hx' : x' < b' := by have q9 := ix.1; have := hT.2.1; unfold mv at q9; omega
        have hy' : y' < b' := by have q9 := iy.1; have := hT.2.1; unfold mv at q9; omega
        refine kX_top (hk) ?_
        iterate 5 (refine kX_one rfl ?_)
        refine kX_ialdV (v := nI x) rfl rfl (by decide) t rfl (by omega) (eF.trans hfx) ?_
        refine kX_ialdV (v := nI x') rfl rfl (by decide) x rfl (by omega) ex ?_
        iterate 3 (refine kX_one rfl ?_)
        refine kX_ialdV (v := nI y) rfl rfl (by decide) t rfl (by omega) (eS.trans hsy) ?_
        repeat refine kX_one rfl ?_
        refine kX_ifT (decide_eq_true (nI_pos' (by omega))) ?_
        iterate 5 (refine kX_one rfl ?_)
        refine kX_ialdV (v := nI y) rfl rfl (by decide) t rfl (by omega) (eS.trans hsy) ?_
        refine kX_ialdV (v := nI y') rfl rfl (by decide) y rfl (by omega) ey ?_
        have hag : (k = 6 ∨ k = 8) → mAG σ n y := fun e => by
          rcases h3 with h3 | h3 | h3
          · omega
          · omega
          · exact h3.2
        refine kX_cal (mr_made L xs d τ n b' k (nI x') (nI y') x' y' hT hb (by omega) (Or.inr (Or.inl ⟨by omega, rfl, rfl, hx', hy'⟩)) ix.1 (fun _ => iy.1) (fun e => ⟨(iy.2.2.2 (hag e)).1, Or.inl ((hold _ (iy.2.2.2 (hag e)).1).trans (iy.2.2.2 (hag e)).2)⟩) (fun e => by omega)) rfl (Or.inr rfl) rfl rfl rfl (fun r1 ρ q1 => ?_)
        obtain ⟨u, rfl, q1⟩ := q1
        have hnag : mAG σ n t → u < n ∧ σ 233 u = nI 0 := fun hz => by
          exfalso
          rcases hz.2 with e | ⟨e, -⟩
          · have := nI_inj (hk.symm.trans e)
            omega
          · exact q2 e
        rcases q1 with ⟨g1, g2, rfl⟩ | ⟨rfl, g1, ⟨z, g, nx, hd, e⟩, g2⟩
        · obtain ⟨i1, i2⟩ := mTb_is2 hT g1 g2 (by omega) (by omega) (by have := hT.2.2.1; omega) (by have := hT.2.2.1; omega)
          refine kX_ret (i := .ireturn) (len := 1) rfl (Or.inr rfl) rfl ⟨u, b', rfl, same, by omega, ⟨g1, ?_, ?_, hnag⟩, rfl, rfl⟩
          · rw [i1, ix.2.1, iy.2.1, tin_2 h0 hk hfx hsy (by omega) (by omega) h4 h5 h6 h7]
          · rw [i2, ix.2.2.1, iy.2.2.1]
            rfl
        · have hE2 : mEx τ ρ n u (u + 1) := mEx_made hT g2 e
          have hu' : mv n (u + 1) u := by have := hT.2.1; exact Or.inr ⟨by omega, by omega⟩
          have hmi : mIs ρ u (nI k) (nI x') (nI y') := by
            rw [e]
            exact ⟨pk_us, pk_us, pk_us⟩
          obtain ⟨i1, i2⟩ := mTb_is2 g2 hu' hmi (by omega) (by omega) (by omega) (by omega)
          have jx := mIn_ex hT ix hE2
          have jy := mIn_ex hT iy hE2
          refine kX_ret (i := .ireturn) (len := 1) rfl (Or.inr rfl) rfl ⟨u, u + 1, rfl, hE2, by omega, ⟨hu', ?_, ?_, hnag⟩, ?_, ?_⟩
          · rw [i1, jx.2.1, jy.2.1, tin_2 h0 hk hfx hsy (by omega) (by omega) h4 h5 h6 h7]
          · rw [i2, jx.2.2.1, jy.2.2.1]
            rfl
          · rw [e]
            rfl
          · rw [e]
            rfl
      · obtain ⟨x', ex, ix⟩ := hx k x (by omega) (by omega) (by omega) hk hfx
        have hx' : x' < b' := by have q9 := ix.1; have := hT.2.1; unfold mv at q9; omega
        refine kX_top (hk) ?_
        iterate 5 (refine kX_one rfl ?_)
        refine kX_ialdV (v := nI x) rfl rfl (by decide) t rfl (by omega) (eF.trans hfx) ?_
        refine kX_ialdV (v := nI x') rfl rfl (by decide) x rfl (by omega) ex ?_
        iterate 3 (refine kX_one rfl ?_)
        refine kX_ialdV (v := -1) rfl rfl (by decide) t rfl (by omega) (eS.trans hsy) ?_
        iterate 3 (refine kX_one rfl ?_)
        have hag : k = 7 → mAG σ n x := fun e => by
          rcases h3 with h3 | h3
          · omega
          · exact h3.2
        refine kX_cal (mr_made L xs d τ n b' k (nI x') (-1) x' 0 hT hb (by omega) (Or.inr (Or.inr ⟨by omega, rfl, rfl, hx'⟩)) ix.1 (fun e => by omega) (fun e => by omega) (fun e => ⟨(ix.2.2.2 (hag e)).1, Or.inl ((hold _ (ix.2.2.2 (hag e)).1).trans (ix.2.2.2 (hag e)).2)⟩)) rfl (Or.inr rfl) rfl rfl rfl (fun r1 ρ q1 => ?_)
        obtain ⟨u, rfl, q1⟩ := q1
        have hnag : mAG σ n t → u < n ∧ σ 233 u = nI 0 := fun hz => by
          exfalso
          rcases hz.2 with e | ⟨e, -⟩
          · have := nI_inj (hk.symm.trans e)
            omega
          · exact q2 e
        rcases q1 with ⟨g1, g2, rfl⟩ | ⟨rfl, g1, ⟨z, g, nx, hd, e⟩, g2⟩
        · obtain ⟨i1, i2⟩ := mTb_is1 hT g1 g2 (by omega) (by omega) (by have := hT.2.2.1; omega)
          refine kX_ret (i := .ireturn) (len := 1) rfl (Or.inr rfl) rfl ⟨u, b', rfl, same, by omega, ⟨g1, ?_, ?_, hnag⟩, rfl, rfl⟩
          · rw [i1, ix.2.1, tin_1 h0 hk hfx hsy (by omega) (by omega) h4 h6]
          · rw [i2, ix.2.2.1]
        · have hE2 : mEx τ ρ n u (u + 1) := mEx_made hT g2 e
          have hu' : mv n (u + 1) u := by have := hT.2.1; exact Or.inr ⟨by omega, by omega⟩
          have hmi : mIs ρ u (nI k) (nI x') (-1) := by
            rw [e]
            exact ⟨pk_us, pk_us, pk_us⟩
          obtain ⟨i1, i2⟩ := mTb_is1 g2 hu' hmi (by omega) (by omega) (by omega)
          have jx := mIn_ex hT ix hE2
          refine kX_ret (i := .ireturn) (len := 1) rfl (Or.inr rfl) rfl ⟨u, u + 1, rfl, hE2, by omega, ⟨hu', ?_, ?_, hnag⟩, ?_, ?_⟩
          · rw [i1, jx.2.1, tin_1 h0 hk hfx hsy (by omega) (by omega) h4 h6]
          · rw [i2, jx.2.2.1]
          · rw [e]
            rfl
          · rw [e]
            rfl
    · have q2 : σ 233 t = nI 3 := qneF q2
      have hu : t ∈ tvs (σ 233) (σ 234) (σ 235) t := by
        unfold tvs
        rw [tA_0 q2 (by decide), if_pos q2]
        exact List.mem_singleton.mpr rfl
      obtain ⟨p, z, hp, hz, e1, e2, e3, e4⟩ := hst t hu
      repeat refine kX_one rfl ?_
      refine kX_ialdV (v := nI p) rfl rfl (by decide) t rfl (by omega) (by rw [hoth.2.1]; exact e1) ?_
      iterate 1 (refine kX_one rfl ?_)
      refine kX_ialdV (v := nI z) rfl rfl (by decide) (6 * s + p) (ix6 s p) (by omega) (by rw [hoth.1]; exact e2) ?_
      iterate 2 (refine kX_one rfl ?_)
      repeat refine kX_one rfl ?_
      refine kX_ifT (decide_eq_true (nI_pos' (by omega))) ?_
      repeat refine kX_one rfl ?_
      have hzv : mv n b z := Or.inl hz
      obtain ⟨tz, gz⟩ := mEx_tvl h0 hE hzv
      refine kX_ret (i := .ireturn) (len := 1) rfl (Or.inr rfl) rfl ⟨z, b', rfl, same, by omega, ⟨Or.inl hz, ?_, gz.trans e3, fun hag => ⟨hz, ?_⟩⟩, rfl, rfl⟩
      · rw [tz]
        unfold tin
        rw [tA_0 q2 (by decide), if_pos q2]
        unfold mVl
        rw [e1, fN_nI (by omega), e2, fN_nI (by omega)]
      · rcases hag.2 with e | ⟨-, e⟩
        · have := nI_inj (q2.symm.trans e)
          omega
        · exact e4 e
  · have q := (bI_ne _).mp (qeqF q)
    repeat refine kX_one rfl ?_
    refine kX_ret (i := .ireturn) (len := 1) rfl (Or.inr rfl) rfl ⟨t, b', rfl, same, by omega, ⟨htv', ?_, eg.trans q, fun hag => ⟨ht, ?_⟩⟩, rfl, rfl⟩
    · rw [et, tin_gd h0 t htv q]
    · rcases hag.2 with e | ⟨e, -⟩
      · exact e
      · rw [tgd_0 e (by decide)] at q
        exact absurd rfl (of_decide_eq_true q)
