section
/-! the reference: one -/
theorem tin_2 {σ : kS} {n b s t k x y : Nat} (h : mTb σ n b) (hk : σ 233 t = nI k) (hx : σ 234 t = nI x) (hy : σ 235 t = nI y) (h3 : 3 < k) (hk9 : k ≤ 9) (h4 : x < t) (h5 : y < t) (h6 : mv n b x) (h7 : mv n b y) : tin σ s t = vnd k (tin σ s x) (some (tin σ s y)) := tA_2 h.2.2.2.2.2.1.1 hk hx hy h3 hk9 h4 h5 h6 h7
theorem tin_1 {σ : kS} {n b s t k x : Nat} (h : mTb σ n b) (hk : σ 233 t = nI k) (hx : σ 234 t = nI x) (hy : σ 235 t = -1) (h3 : 3 < k) (hk9 : k ≤ 9) (h4 : x < t) (h6 : mv n b x) : tin σ s t = vnd k (tin σ s x) none := tA_1 h.2.2.2.2.2.1.1 hk hx hy h3 hk9 h4 h6
theorem tin_gd {σ : kS} {n b s : Nat} (h : mTb σ n b) : ∀ t, mv n b t → tgd (σ 233) (σ 234) (σ 235) t = true → tin σ s t = tvl (σ 233) (σ 234) (σ 235) t := by
  have hV := h.2.2.2.2.2.1.1
  intro t
  induction t using Nat.strongRecOn with
  | _ t ih =>
    intro ht hg
    rcases (hV t ht).2 with ⟨k, h3, hk, -, -⟩ | ⟨k, x, y, h3, hk, hx, hy, h4, h5, h6, h7⟩ | ⟨k, x, h3, hk, hx, hy, h4, h6⟩
    · rw [tgd_0 hk h3] at hg
      have h3' := of_decide_eq_true hg
      rw [tvl_0 hk h3]
      unfold tin
      rw [tA_0 hk h3, if_neg]
      rw [hk]
      exact nI_ne h3'
    · rw [tgd_2 hV hk hx hy (by omega) (by omega) h4 h5 h6 h7, Bool.and_eq_true] at hg
      rw [tin_2 h hk hx hy (by omega) (by omega) h4 h5 h6 h7, tvl_2 hV hk hx hy (by omega) (by omega) h4 h5 h6 h7, ih x h4 h6 hg.1, ih y h5 h7 hg.2]
    · rw [tgd_1 hV hk hx hy (by omega) (by omega) h4 h6] at hg
      rw [tin_1 h hk hx hy (by omega) (by omega) h4 h6, tvl_1 hV hk hx hy (by omega) (by omega) h4 h6, ih x h4 h6 hg]
/-- u' is what the TERM u is in the session s -/
def mIn (σ τ : kS) (n b s u u' : Nat) : Prop := mv n b u' ∧ tvl (τ 233) (τ 234) (τ 235) u' = tin σ s u ∧ tgd (τ 233) (τ 234) (τ 235) u' = true ∧ (mAG σ n u → u' < n ∧ σ 233 u' = nI 0)
theorem mIn_ex {σ τ ρ : kS} {n b b' s u u' : Nat} (hT : mTb τ n b) (h : mIn σ τ n b s u u') (hE : mEx τ ρ n b b') : mIn σ ρ n b' s u u' := by
  obtain ⟨h1, h2, h3, h4⟩ := h
  obtain ⟨e1, e2⟩ := mEx_tvl hT hE h1
  exact ⟨by have := hE.2.1; unfold mv at h1 ⊢; omega, e1.trans h2, e2.trans h3, h4⟩
theorem ix6 (s p : Nat) : (Int8.ofInt 6).toInt32 * nI s + nI p = nI (6 * s + p) := by
  rw [show (Int8.ofInt 6).toInt32 = nI 6 from rfl, pk_mul, nI_add]
theorem mEx_made {τ ρ : kS} {n b : Nat} {w a c z g : Int32} {nx hd : Nat → Int32} (hT : mTb τ n b) (g2 : mTb ρ n (b + 1)) (e : ρ = mU τ (upd (τ 233) b w) (upd (τ 234) b a) (upd (τ 235) b c) (upd (τ 236) b z) (upd (τ 237) b g) nx hd (upd (τ 232) 10 (nI (b + 1)))) : mEx τ ρ n b (b + 1) := by
  refine ⟨g2, by omega, fun v hv => ?_, ρ 233, ρ 234, ρ 235, ρ 236, ρ 237, ρ 243, ρ 242, ρ 266, ρ 267, ?_⟩
  · rw [e]
    exact ⟨pk_un (by omega), pk_un (by omega), pk_un (by omega)⟩
  · refine exS_of (fun c h1 h2 h3 h4 h5 h6 h7 h8 h9 h10 => ?_) ?_
    · rw [e]
      simp [mU, va_up, h1, h2, h3, h4, h5, h6, h7, h8]
    · rw [e]
      rfl
set_option maxRecDepth 100000 in
set_option maxHeartbeats 4000000 in
theorem mr_one (L : Nat) (xs : Nat → Int32) (d : Nat) (σ τ : kS) (n b b' s t : Nat) (h0 : mTb σ n b) (hE : mEx σ τ n b b') (hb : b' < 1000) (hs : s < 4) (ht : t < n) (hst : mSt σ n s t)
    (hx : ∀ k x, 3 < k → k ≤ 9 → x < 1000 → σ 233 t = nI k → σ 234 t = nI x → ∃ x', τ 267 x = nI x' ∧ mIn σ τ n b' s x x') (hy : ∀ y, y < 1000 → σ 235 t = nI y → ∃ y', τ 267 y = nI y' ∧ mIn σ τ n b' s y y') :
    kXM kT L xs (d + 4) 177 [.ref 232, .int (nI s), .int (nI t)] τ (fun r ρ => ∃ u b'', r = some (.int (nI u)) ∧ mEx τ ρ n b' b'' ∧ b'' ≤ b' + 1 ∧ mIn σ ρ n b'' s t u ∧ ρ 266 = τ 266 ∧ ρ 267 = τ 267) := by
  have hn := h0.1
  have hV := h0.2.2.2.2.2.1.1
  have hT := hE.1
  have htv : mv n b t := Or.inl ht
  have htv' : mv n b' t := Or.inl ht
  have hb0 := h0.2.1
  obtain ⟨eK, eF, eS⟩ := hE.2.2.1 t (by omega)
  obtain ⟨et, eg⟩ := mEx_tvl h0 hE htv
  have hGt : τ 237 t = bI (tgd (σ 233) (σ 234) (σ 235) t) := by rw [← eg]; exact hT.2.2.2.2.2.2.1 t htv'
  have same : mEx τ τ n b' b' := mEx_refl hT (N := τ 266) (I := τ 267) (by rw [kup_self, kup_self])
  have hoth : τ 265 = σ 265 ∧ τ 241 = σ 241 ∧ τ 240 = σ 240 := by
    obtain ⟨-, -, -, K, F, S, Z, G, nx, hd, N, I, rfl⟩ := hE
    exact ⟨rfl, rfl, rfl⟩
  have hold : ∀ z, z < n → τ 233 z = σ 233 z := fun z hz => (hE.2.2.1 z (by omega)).1
  unfold kXM
  repeat refine kX_one rfl ?_
  refine kX_baldV rfl rfl (by decide) (t) (by first | rfl | decide) (by omega) (hGt) ?_
  repeat refine kX_one rfl ?_
  refine kX_if (fun q => ?_) (fun q => ?_)
  · have q := (bI_eq _).mp (qeq q)
    repeat refine kX_one rfl ?_
    refine kX_ialdV (v := σ 233 t) rfl rfl (by decide) t rfl (by omega) eK ?_
    repeat refine kX_one rfl ?_
    refine kX_if (fun q2 => ?_) (fun q2 => ?_)
    · have q2 : σ 233 t ≠ nI 3 := qne q2
      repeat refine kX_one rfl ?_
      refine kX_ialdV (v := σ 233 t) rfl rfl (by decide) t rfl (by omega) eK ?_
      rcases (hV t htv).2 with ⟨k, h3, hk, -, -⟩ | ⟨k, x, y, h3, hk, hfx, hsy, h4, h5, h6, h7⟩ | ⟨k, x, h3, hk, hfx, hsy, h4, h6⟩
      · exfalso
        rw [tgd_0 hk h3] at q
        have := of_decide_eq_false q
        exact q2 (by rw [hk, Decidable.of_not_not this])
      · obtain ⟨x', ex, ix⟩ := hx k x (by omega) (by omega) (by omega) hk hfx
        obtain ⟨y', ey, iy⟩ := hy y (by omega) hsy
        have hx' : x' < b' := by have q9 := ix.1; have := hT.2.1; unfold mv at q9; omega
        have hy' : y' < b' := by have q9 := iy.1; have := hT.2.1; unfold mv at q9; omega
        refine kX_top (hk) ?_
        iterate 5 (refine kX_one rfl ?_)
        refine kX_ialdV (v := nI x) rfl rfl (by decide) t rfl (by omega) (eF.trans hfx) ?_
        refine kX_ialdV (v := nI x') rfl rfl (by decide) x rfl (by omega) ex ?_
        iterate 3 (refine kX_one rfl ?_)
        refine kX_ialdV (v := nI y) rfl rfl (by decide) t rfl (by omega) (eS.trans hsy) ?_
        repeat refine kX_one rfl ?_
        refine kX_ifT (decide_eq_true (nI_pos' (by omega))) ?_
        iterate 5 (refine kX_one rfl ?_)
        refine kX_ialdV (v := nI y) rfl rfl (by decide) t rfl (by omega) (eS.trans hsy) ?_
        refine kX_ialdV (v := nI y') rfl rfl (by decide) y rfl (by omega) ey ?_
        have hag : (k = 6 ∨ k = 8) → mAG σ n y := fun e => by
          rcases h3 with h3 | h3 | h3
          · omega
          · omega
          · exact h3.2
        refine kX_cal (mr_made L xs d τ n b' k (nI x') (nI y') x' y' hT hb (by omega) (Or.inr (Or.inl ⟨by omega, rfl, rfl, hx', hy'⟩)) ix.1 (fun _ => iy.1) (fun e => ⟨(iy.2.2.2 (hag e)).1, Or.inl ((hold _ (iy.2.2.2 (hag e)).1).trans (iy.2.2.2 (hag e)).2)⟩) (fun e => by omega)) rfl (Or.inr rfl) rfl rfl rfl (fun r1 ρ q1 => ?_)
        obtain ⟨u, rfl, q1⟩ := q1
        have hnag : mAG σ n t → u < n ∧ σ 233 u = nI 0 := fun hz => by
          exfalso
          rcases hz.2 with e | ⟨e, -⟩
          · have := nI_inj (hk.symm.trans e)
            omega
          · exact q2 e
        rcases q1 with ⟨g1, g2, rfl⟩ | ⟨rfl, g1, ⟨z, g, nx, hd, e⟩, g2⟩
        · obtain ⟨i1, i2⟩ := mTb_is2 hT g1 g2 (by omega) (by omega) (by have := hT.2.2.1; omega) (by have := hT.2.2.1; omega)
          refine kX_ret (i := .ireturn) (len := 1) rfl (Or.inr rfl) rfl ⟨u, b', rfl, same, by omega, ⟨g1, ?_, ?_, hnag⟩, rfl, rfl⟩
          · rw [i1, ix.2.1, iy.2.1, tin_2 h0 hk hfx hsy (by omega) (by omega) h4 h5 h6 h7]
          · rw [i2, ix.2.2.1, iy.2.2.1]
            rfl
        · have hE2 : mEx τ ρ n u (u + 1) := mEx_made hT g2 e
          have hu' : mv n (u + 1) u := by have := hT.2.1; exact Or.inr ⟨by omega, by omega⟩
          have hmi : mIs ρ u (nI k) (nI x') (nI y') := by
            rw [e]
            exact ⟨pk_us, pk_us, pk_us⟩
          obtain ⟨i1, i2⟩ := mTb_is2 g2 hu' hmi (by omega) (by omega) (by omega) (by omega)
          have jx := mIn_ex hT ix hE2
          have jy := mIn_ex hT iy hE2
          refine kX_ret (i := .ireturn) (len := 1) rfl (Or.inr rfl) rfl ⟨u, u + 1, rfl, hE2, by omega, ⟨hu', ?_, ?_, hnag⟩, ?_, ?_⟩
          · rw [i1, jx.2.1, jy.2.1, tin_2 h0 hk hfx hsy (by omega) (by omega) h4 h5 h6 h7]
          · rw [i2, jx.2.2.1, jy.2.2.1]
            rfl
          · rw [e]
            rfl
          · rw [e]
            rfl
      · obtain ⟨x', ex, ix⟩ := hx k x (by omega) (by omega) (by omega) hk hfx
        have hx' : x' < b' := by have q9 := ix.1; have := hT.2.1; unfold mv at q9; omega
        refine kX_top (hk) ?_
        iterate 5 (refine kX_one rfl ?_)
        refine kX_ialdV (v := nI x) rfl rfl (by decide) t rfl (by omega) (eF.trans hfx) ?_
        refine kX_ialdV (v := nI x') rfl rfl (by decide) x rfl (by omega) ex ?_
        iterate 3 (refine kX_one rfl ?_)
        refine kX_ialdV (v := -1) rfl rfl (by decide) t rfl (by omega) (eS.trans hsy) ?_
        iterate 3 (refine kX_one rfl ?_)
        have hag : k = 7 → mAG σ n x := fun e => by
          rcases h3 with h3 | h3
          · omega
          · exact h3.2
        refine kX_cal (mr_made L xs d τ n b' k (nI x') (-1) x' 0 hT hb (by omega) (Or.inr (Or.inr ⟨by omega, rfl, rfl, hx'⟩)) ix.1 (fun e => by omega) (fun e => by omega) (fun e => ⟨(ix.2.2.2 (hag e)).1, Or.inl ((hold _ (ix.2.2.2 (hag e)).1).trans (ix.2.2.2 (hag e)).2)⟩)) rfl (Or.inr rfl) rfl rfl rfl (fun r1 ρ q1 => ?_)
        obtain ⟨u, rfl, q1⟩ := q1
        have hnag : mAG σ n t → u < n ∧ σ 233 u = nI 0 := fun hz => by
          exfalso
          rcases hz.2 with e | ⟨e, -⟩
          · have := nI_inj (hk.symm.trans e)
            omega
          · exact q2 e
        rcases q1 with ⟨g1, g2, rfl⟩ | ⟨rfl, g1, ⟨z, g, nx, hd, e⟩, g2⟩
        · obtain ⟨i1, i2⟩ := mTb_is1 hT g1 g2 (by omega) (by omega) (by have := hT.2.2.1; omega)
          refine kX_ret (i := .ireturn) (len := 1) rfl (Or.inr rfl) rfl ⟨u, b', rfl, same, by omega, ⟨g1, ?_, ?_, hnag⟩, rfl, rfl⟩
          · rw [i1, ix.2.1, tin_1 h0 hk hfx hsy (by omega) (by omega) h4 h6]
          · rw [i2, ix.2.2.1]
        · have hE2 : mEx τ ρ n u (u + 1) := mEx_made hT g2 e
          have hu' : mv n (u + 1) u := by have := hT.2.1; exact Or.inr ⟨by omega, by omega⟩
          have hmi : mIs ρ u (nI k) (nI x') (-1) := by
            rw [e]
            exact ⟨pk_us, pk_us, pk_us⟩
          obtain ⟨i1, i2⟩ := mTb_is1 g2 hu' hmi (by omega) (by omega) (by omega)
          have jx := mIn_ex hT ix hE2
          refine kX_ret (i := .ireturn) (len := 1) rfl (Or.inr rfl) rfl ⟨u, u + 1, rfl, hE2, by omega, ⟨hu', ?_, ?_, hnag⟩, ?_, ?_⟩
          · rw [i1, jx.2.1, tin_1 h0 hk hfx hsy (by omega) (by omega) h4 h6]
          · rw [i2, jx.2.2.1]
          · rw [e]
            rfl
          · rw [e]
            rfl
    · have q2 : σ 233 t = nI 3 := qneF q2
      have hu : t ∈ tvs (σ 233) (σ 234) (σ 235) t := by
        unfold tvs
        rw [tA_0 q2 (by decide), if_pos q2]
        exact List.mem_singleton.mpr rfl
      obtain ⟨p, z, hp, hz, e1, e2, e3, e4⟩ := hst t hu
      repeat refine kX_one rfl ?_
      refine kX_ialdV (v := nI p) rfl rfl (by decide) t rfl (by omega) (by rw [hoth.2.1]; exact e1) ?_
      iterate 1 (refine kX_one rfl ?_)
      refine kX_ialdV (v := nI z) rfl rfl (by decide) (6 * s + p) (ix6 s p) (by omega) (by rw [hoth.1]; exact e2) ?_
      iterate 2 (refine kX_one rfl ?_)
      repeat refine kX_one rfl ?_
      refine kX_ifT (decide_eq_true (nI_pos' (by omega))) ?_
      repeat refine kX_one rfl ?_
      have hzv : mv n b z := Or.inl hz
      obtain ⟨tz, gz⟩ := mEx_tvl h0 hE hzv
      refine kX_ret (i := .ireturn) (len := 1) rfl (Or.inr rfl) rfl ⟨z, b', rfl, same, by omega, ⟨Or.inl hz, ?_, gz.trans e3, fun hag => ⟨hz, ?_⟩⟩, rfl, rfl⟩
      · rw [tz]
        unfold tin
        rw [tA_0 q2 (by decide), if_pos q2]
        unfold mVl
        rw [e1, fN_nI (by omega), e2, fN_nI (by omega)]
      · rcases hag.2 with e | ⟨-, e⟩
        · have := nI_inj (q2.symm.trans e)
          omega
        · exact e4 e
  · have q := (bI_ne _).mp (qeqF q)
    repeat refine kX_one rfl ?_
    refine kX_ret (i := .ireturn) (len := 1) rfl (Or.inr rfl) rfl ⟨t, b', rfl, same, by omega, ⟨htv', ?_, eg.trans q, fun hag => ⟨ht, ?_⟩⟩, rfl, rfl⟩
    · rw [et, tin_gd h0 t htv q]
    · rcases hag.2 with e | ⟨e, -⟩
      · exact e
      · rw [tgd_0 e (by decide)] at q
        exact absurd rfl (of_decide_eq_true q)
end
section
/-! the reference: standsFor -/
/-- all that is in a TERM, and itself -/
def tsl (K F S : Nat → Int32) : Nat → Nat → List Nat
  | 0, t => [t]
  | f + 1, t => t :: (if fN (K t) ≤ 3 then [] else tsl K F S f (fN (F t)) ++ (if S t = -1 then [] else tsl K F S f (fN (S t))))
section TSL
variable {V AG : Nat → Prop} {K F S : Nat → Int32}
theorem tsl_all (hV : ∀ t, V t → t < 100000 ∧ tOk V AG K F S t) : ∀ (f t : Nat), t < f → V t → (tsl K F S f t).length = tsz K F S t ∧ t ∈ tsl K F S f t ∧ ∀ u ∈ tsl K F S f t, V u ∧ u ≤ t ∧ (∀ x, F u = nI x → x < 100000 → x ∈ tsl K F S f t) ∧ (∀ y, S u = nI y → y < 100000 → y ∈ tsl K F S f t) := by
  intro f
  induction f with
  | zero => intro t h; omega
  | succ f ih =>
    intro t hf ht
    have hm1 : ∀ z, z < 100000 → (-1 : Int32) = nI z → False := fun z hz e => nI_m1 (by omega) e.symm
    rcases (hV t ht).2 with ⟨k, h3, hk, hF, hS⟩ | ⟨k, x, y, h3, hk, hx, hy, h4, h5, h6, h7⟩ | ⟨k, x, h3, hk, hx, hy, h4, h6⟩
    · have e : tsl K F S (f + 1) t = [t] := by
        rw [tsl, hk, fN_nI (by omega), if_pos h3]
      have ez : tsz K F S t = 1 := tA_0 hk h3
      rw [e]
      refine ⟨by rw [ez]; rfl, List.mem_singleton.mpr rfl, fun u hu => ?_⟩
      rw [List.mem_singleton] at hu
      subst hu
      exact ⟨ht, Nat.le_refl _, fun x ex hx => (hm1 x hx (hF.symm.trans ex)).elim, fun y ey hy => (hm1 y hy (hS.symm.trans ey)).elim⟩
    · have hk3 : ¬ k ≤ 3 := by omega
      have hx9 := (hV x h6).1
      have hy9 := (hV y h7).1
      have hy1 : nI y ≠ -1 := nI_m1 (by omega)
      have e : tsl K F S (f + 1) t = t :: (tsl K F S f x ++ tsl K F S f y) := by
        rw [tsl, hk, fN_nI (show k < 2147483648 by omega), if_neg hk3, hx, hy, if_neg hy1, fN_nI (show x < 2147483648 by omega), fN_nI (show y < 2147483648 by omega)]
      have ez : tsz K F S t = 1 + tsz K F S x + tsz K F S y := tA_2 hV hk hx hy (by omega) (by omega) h4 h5 h6 h7
      obtain ⟨x1, x2, x3⟩ := ih x (by omega) h6
      obtain ⟨y1, y2, y3⟩ := ih y (by omega) h7
      rw [e]
      refine ⟨by rw [List.length_cons, List.length_append, x1, y1, ez]; omega, List.mem_cons_self, fun u hu => ?_⟩
      rcases List.mem_cons.mp hu with rfl | hu
      · refine ⟨ht, Nat.le_refl _, fun z ez hz => ?_, fun z ez hz => ?_⟩
        · have : x = z := nI_inj (hx.symm.trans ez)
          subst this
          exact List.mem_cons_of_mem _ (List.mem_append_left _ x2)
        · have : y = z := nI_inj (hy.symm.trans ez)
          subst this
          exact List.mem_cons_of_mem _ (List.mem_append_right _ y2)
      · rcases List.mem_append.mp hu with hu | hu
        · obtain ⟨a1, a2, a3, a4⟩ := x3 u hu
          exact ⟨a1, by omega, fun z ez hz => List.mem_cons_of_mem _ (List.mem_append_left _ (a3 z ez hz)), fun z ez hz => List.mem_cons_of_mem _ (List.mem_append_left _ (a4 z ez hz))⟩
        · obtain ⟨a1, a2, a3, a4⟩ := y3 u hu
          exact ⟨a1, by omega, fun z ez hz => List.mem_cons_of_mem _ (List.mem_append_right _ (a3 z ez hz)), fun z ez hz => List.mem_cons_of_mem _ (List.mem_append_right _ (a4 z ez hz))⟩
    · have hk3 : ¬ k ≤ 3 := by omega
      have hx9 := (hV x h6).1
      have e : tsl K F S (f + 1) t = t :: tsl K F S f x := by
        rw [tsl, hk, fN_nI (show k < 2147483648 by omega), if_neg hk3, hx, hy, if_pos rfl, fN_nI (show x < 2147483648 by omega), List.append_nil]
      have ez : tsz K F S t = 1 + tsz K F S x := tA_1 hV hk hx hy (by omega) (by omega) h4 h6
      obtain ⟨x1, x2, x3⟩ := ih x (by omega) h6
      rw [e]
      refine ⟨by rw [List.length_cons, x1, ez]; omega, List.mem_cons_self, fun u hu => ?_⟩
      rcases List.mem_cons.mp hu with rfl | hu
      · refine ⟨ht, Nat.le_refl _, fun z ez hz => ?_, fun z ez hz => (hm1 z hz (hy.symm.trans ez)).elim⟩
        have : x = z := nI_inj (hx.symm.trans ez)
        subst this
        exact List.mem_cons_of_mem _ x2
      · obtain ⟨a1, a2, a3, a4⟩ := x3 u hu
        exact ⟨a1, by omega, fun z ez hz => List.mem_cons_of_mem _ (a3 z ez hz), fun z ez hz => List.mem_cons_of_mem _ (a4 z ez hz)⟩
/-- the VARIABLES of what is in a TERM are in it -/
theorem tsl_tvs (hV : ∀ t, V t → t < 100000 ∧ tOk V AG K F S t) : ∀ (f t : Nat), t < f → V t → ∀ u ∈ tsl K F S f t, ∀ v ∈ tvs K F S u, v ∈ tvs K F S t := by
  intro f
  induction f with
  | zero => intro t h; omega
  | succ f ih =>
    intro t hf ht u hu v hv
    rcases (hV t ht).2 with ⟨k, h3, hk, hF, hS⟩ | ⟨k, x, y, h3, hk, hx, hy, h4, h5, h6, h7⟩ | ⟨k, x, h3, hk, hx, hy, h4, h6⟩
    · rw [tsl, hk, fN_nI (by omega), if_pos h3, List.mem_singleton] at hu
      subst hu
      exact hv
    · have hk3 : ¬ k ≤ 3 := by omega
      have hx9 := (hV x h6).1
      have hy9 := (hV y h7).1
      have hy1 : nI y ≠ -1 := nI_m1 (by omega)
      rw [tsl, hk, fN_nI (show k < 2147483648 by omega), if_neg hk3, hx, hy, if_neg hy1, fN_nI (show x < 2147483648 by omega), fN_nI (show y < 2147483648 by omega)] at hu
      have et : tvs K F S t = tvs K F S x ++ tvs K F S y := tA_2 hV hk hx hy (by omega) (by omega) h4 h5 h6 h7
      rcases List.mem_cons.mp hu with rfl | hu
      · exact hv
      · rw [et]
        rcases List.mem_append.mp hu with hu | hu
        · exact List.mem_append_left _ (ih x (by omega) h6 u hu v hv)
        · exact List.mem_append_right _ (ih y (by omega) h7 u hu v hv)
    · have hk3 : ¬ k ≤ 3 := by omega
      have hx9 := (hV x h6).1
      rw [tsl, hk, fN_nI (show k < 2147483648 by omega), if_neg hk3, hx, hy, if_pos rfl, fN_nI (show x < 2147483648 by omega), List.append_nil] at hu
      have et : tvs K F S t = tvs K F S x ++ [] := tA_1 hV hk hx hy (by omega) (by omega) h4 h6
      rcases List.mem_cons.mp hu with rfl | hu
      · exact hv
      · rw [et, List.append_nil]
        exact ih x (by omega) h6 u hu v hv
end TSL
theorem cnt_mem : ∀ (l : List Nat) (m : Nat), cnt (fun u => u ∈ l) m ≤ l.length
  | [], m => by rw [cnt_zero (fun u hu => by cases hu)]; exact Nat.zero_le _
  | a :: l, m => by
    have ih := cnt_mem l m
    by_cases ha : a ∈ l
    · have : cnt (fun u => u ∈ a :: l) m = cnt (fun u => u ∈ l) m := cnt_congr m (fun t _ => by
        rw [List.mem_cons]
        exact ⟨fun q => q.elim (fun e => by rw [e]; exact ha) id, Or.inr⟩)
      rw [this, List.length_cons]
      omega
    · by_cases hm : a < m
      · have := cnt_add (f := fun u => u ∈ l) (g := fun u => u ∈ a :: l) (t := a) ha (fun u => by rw [List.mem_cons]; exact or_comm) m hm
        rw [this, List.length_cons]
        omega
      · have : cnt (fun u => u ∈ a :: l) m = cnt (fun u => u ∈ l) m := cnt_congr m (fun t ht => by
          rw [List.mem_cons]
          exact ⟨fun q => q.elim (fun e => by omega) id, Or.inr⟩)
        rw [this, List.length_cons]
        omega
theorem cnt_mono {f g : Nat → Prop} (h : ∀ u, f u → g u) : ∀ m, cnt f m ≤ cnt g m
  | 0 => Nat.le_refl _
  | m + 1 => by
    have := cnt_mono h m
    unfold cnt
    by_cases hf : f m
    · rw [if_pos hf, if_pos (h m hf)]
      omega
    · rw [if_neg hf]
      split <;> omega
theorem cnt_up (f : Nat → Prop) : ∀ {m m' : Nat}, m ≤ m' → cnt f m ≤ cnt f m' := by
  intro m m' h
  induction m' with
  | zero =>
    obtain rfl : m = 0 := by omega
    exact Nat.le_refl _
  | succ m' ih =>
    by_cases e : m = m' + 1
    · subst e
      exact Nat.le_refl _
    · have := ih (by omega)
      rw [show cnt f (m' + 1) = cnt f m' + @ite _ (f m') (Classical.propDecidable _) 1 0 from rfl]
      omega
end
section
/-! the reference: standsFor, walked -/
def w1 (q : Nat) : Int32 := if q = 0 then -1 else nI (q - 1)
theorem w1_dec (q : Nat) : nI q + Int32.ofInt (-1) = w1 q := by
  unfold w1
  split
  · next e => subst e; decide
  · next e =>
    obtain ⟨p, rfl⟩ : ∃ p, q = p + 1 := ⟨q - 1, by omega⟩
    exact pk_m1 p
set_option maxRecDepth 100000 in
set_option maxHeartbeats 4000000 in
theorem mr_standsFor (L : Nat) (xs : Nat → Int32) (d : Nat) (σ : kS) (n b s t : Nat) (h : mTb σ n b) (hb : b ≤ 976) (hs : s < 4) (ht : t < n) (hst : mSt σ n s t) : kXM kT L xs (d + 5) 176 [.ref 232, .int (nI s), .int (nI t)] σ (fun r ρ => ∃ u b', r = some (.int (nI u)) ∧ mEx σ ρ n b b' ∧ b' ≤ b + 24 ∧ mv n b' u ∧ tvl (ρ 233) (ρ 234) (ρ 235) u = tin σ s t ∧ tgd (ρ 233) (ρ 234) (ρ 235) u = true) := by
  have hn := h.1
  have hV := h.2.2.2.2.2.1.1
  have htv : mv n b t := Or.inl ht
  have hGt := h.2.2.2.2.2.2.1 t htv
  obtain ⟨l1, l2, l3⟩ := tsl_all hV (t + 1) t (by omega) htv
  have l4 := tsl_tvs hV (t + 1) t (by omega) htv
  have hsz : (tsl (σ 233) (σ 234) (σ 235) (t + 1) t).length ≤ 24 := by
    rw [l1]
    exact h.2.2.2.2.2.2.2.2.2 t ht
  generalize tsl (σ 233) (σ 234) (σ 235) (t + 1) t = Ls at l1 l2 l3 l4 hsz
  unfold kXM
  repeat refine kX_one rfl ?_
  refine kX_baldV rfl rfl (by decide) (t) (by first | rfl | decide) (by omega) (hGt) ?_
  repeat refine kX_one rfl ?_
  refine kX_if (fun q => ?_) (fun q => ?_)
  · /- the third loop -/
    have loop3 : ∀ N : Nat → Int32, (∀ u, u ≤ t → N u = 0 ∨ N u = 1) → N t = 1 → (∀ u, u ≤ t → N u ≠ 0 → u ∈ Ls) → (∀ u, u ≤ t → N u ≠ 0 → (∀ x, σ 234 u = nI x → x < 1000 → N x ≠ 0) ∧ ∀ y, σ 235 u = nI y → y < 1000 → N y ≠ 0) → ∀ I : Nat → Int32,
        kX kT L xs (d + 5) 176 103 [(3, .int (nI 0)), (0, .ref 232), (1, .int (nI s)), (2, .int (nI t))] [] (va_up (va_up σ 266 N) 267 I) (fun r ρ => ∃ u b', r = some (.int (nI u)) ∧ mEx σ ρ n b b' ∧ b' ≤ b + 24 ∧ mv n b' u ∧ tvl (ρ 233) (ρ 234) (ρ 235) u = tin σ s t ∧ tgd (ρ 233) (ρ 234) (ρ 235) u = true) := by
      intro N n1 n2 n3 n4 I
      have hc24 : ∀ i, i ≤ t + 1 → cnt (fun u => u ≤ t ∧ N u ≠ 0) i ≤ 24 := fun i hi => Nat.le_trans (cnt_mono (fun u hu => n3 u hu.1 hu.2) i) (Nat.le_trans (cnt_mem Ls i) hsz)
      refine kX_while (fun q : Nat × Nat × kS => [(3, .int (nI q.1)), (0, .ref 232), (1, .int (nI s)), (2, .int (nI t))]) (fun q => q.2.2) (fun q => q.1 ≤ t + 1 ∧ mEx σ q.2.2 n b q.2.1 ∧ q.2.1 ≤ b + cnt (fun u => u ≤ t ∧ N u ≠ 0) q.1 ∧ q.2.2 266 = N ∧ ∀ u, u < q.1 → N u ≠ 0 → ∃ u', q.2.2 267 u = nI u' ∧ mIn σ q.2.2 n q.2.1 s u u') (fun q => t + 1 - q.1) ?_ (0, b, va_up (va_up σ 266 N) 267 I) ⟨Nat.zero_le _, mEx_refl h rfl, Nat.le_refl _, rfl, fun u hu => absurd hu (Nat.not_lt_zero u)⟩
      rintro ⟨i, b', τ⟩ ⟨i1, i2, i3, i4, i5⟩ ih
      dsimp only at i1 i2 i3 i4 i5 ih ⊢
      have hc := hc24 i i1
      repeat refine kX_one rfl ?_
      refine kX_if (fun q2 => ?_) (fun q2 => ?_)
      · have q2 := qgt q2 i t
        obtain ⟨u', e1, e2⟩ := i5 t q2 (by rw [n2]; decide)
        repeat refine kX_one rfl ?_
        refine kX_ialdV (v := nI u') rfl rfl (by decide) t rfl (by omega) e1 ?_
        refine kX_ret (i := .ireturn) (len := 1) rfl (Or.inr rfl) rfl (⟨u', b', rfl, i2, by omega, e2.1, e2.2.1, e2.2.2.1⟩)
      · have q2 := qgtF q2 i t
        repeat refine kX_one rfl ?_
        refine kX_baldV (v := N i) rfl rfl (by decide) i rfl (by omega) (by rw [i4]) ?_
        repeat refine kX_one rfl ?_
        refine kX_if (fun q3 => ?_) (fun q3 => ?_)
        · have q3 : N i = 0 := qeq q3
          iterate 2 (refine kX_one rfl ?_)
          have := ih (i + 1, b', τ) ⟨by simp only; omega, i2, Nat.le_trans i3 (Nat.add_le_add_left (cnt_up _ (by simp only; omega)) b), i4, fun u hu hN => i5 u (by
            simp only at hu
            have : u ≠ i := fun e => hN (by rw [e]; exact q3)
            omega) hN⟩ (by simp only; omega)
          rw [← nI_1] at this
          exact this
        · have q3 : N i ≠ 0 := qeqF q3
          have hiL := n3 i q2 q3
          obtain ⟨a1, a2, -, -⟩ := l3 i hiL
          have hin : i < n := by omega
          have hcs : cnt (fun u => u ≤ t ∧ N u ≠ 0) (i + 1) = cnt (fun u => u ≤ t ∧ N u ≠ 0) i + 1 := by
            rw [show cnt (fun u => u ≤ t ∧ N u ≠ 0) (i + 1) = cnt (fun u => u ≤ t ∧ N u ≠ 0) i + @ite _ (i ≤ t ∧ N i ≠ 0) (Classical.propDecidable _) 1 0 from rfl, if_pos ⟨q2, q3⟩]
          have hc2 := hc24 (i + 1) (by omega)
          have hcl := n4 i q2 q3
          have hok := (hV i a1).2
          have hstI : mSt σ n s i := fun u hu => hst u (l4 i hiL u hu)
          repeat refine kX_one rfl ?_
          refine kX_cal (mr_one L xs d σ τ n b b' s i h i2 (by omega) hs hin hstI (fun k x hk3 hk9 hx1 ek ex => ?_) (fun y hy1 ey => ?_)) rfl (Or.inr rfl) rfl rfl rfl (fun r1 ρ q1 => ?_)
          · rcases hok with ⟨k', h3, hk', -, -⟩ | ⟨k', x', y', h3, hk', hx', hy', h4, h5, h6, h7⟩ | ⟨k', x', h3, hk', hx', hy', h4, h6⟩
            · have := nI_inj (ek.symm.trans hk')
              omega
            · have e9 := (hV x' h6).1
              have : x = x' := nI_inj (ex.symm.trans hx')
              exact i5 x (by omega) (hcl.1 x ex hx1)
            · have e9 := (hV x' h6).1
              have : x = x' := nI_inj (ex.symm.trans hx')
              exact i5 x (by omega) (hcl.1 x ex hx1)
          · rcases hok with ⟨k', h3, hk', hF', hS'⟩ | ⟨k', x', y', h3, hk', hx', hy', h4, h5, h6, h7⟩ | ⟨k', x', h3, hk', hx', hy', h4, h6⟩
            · exact absurd (hS'.symm.trans ey).symm (nI_m1 (by omega))
            · have e9 := (hV y' h7).1
              have : y = y' := nI_inj (ey.symm.trans hy')
              exact i5 y (by omega) (hcl.2 y ey hy1)
            · exact absurd (hy'.symm.trans ey).symm (nI_m1 (by omega))
          · obtain ⟨u, b'', rfl, f1, f2, f3, f4, f5⟩ := q1
            refine kX_iastN rfl rfl (by decide) (i) (by first | rfl | decide) (by omega) ?_
            iterate 2 (refine kX_one rfl ?_)
            have hE : mEx ρ (va_up ρ 267 (upd (ρ 267) i (nI u))) n b'' b'' := mEx_refl f1.1 (N := ρ 266) (I := upd (ρ 267) i (nI u)) (by rw [kup_self])
            have hE2 := mEx_trans f1 hE
            have := ih (i + 1, b'', va_up ρ 267 (upd (ρ 267) i (nI u))) ⟨by simp only; omega, mEx_trans i2 hE2, by simp only; omega, by
              show ρ 266 = N
              rw [f4, i4], fun v hv hN => by
              simp only at hv ⊢
              by_cases e : v = i
              · subst e
                exact ⟨u, pk_us, mIn_ex f1.1 f3 hE⟩
              · obtain ⟨v', g1, g2⟩ := i5 v (by omega) hN
                refine ⟨v', ?_, mIn_ex i2.1 g2 hE2⟩
                show upd (ρ 267) i (nI u) v = _
                rw [pk_un e, f5]
                exact g1⟩ (by simp only; omega)
            rw [← nI_1] at this
            exact this
    /- the second loop -/
    have loop2 : ∀ N : Nat → Int32, (∀ u, u ≤ t → N u = 0 ∨ N u = 1) → N t = 1 → (∀ u, u ≤ t → N u ≠ 0 → u ∈ Ls) →
        kX kT L xs (d + 5) 176 40 [(3, .int (w1 (t + 1))), (0, .ref 232), (1, .int (nI s)), (2, .int (nI t))] [] (va_up σ 266 N) (fun r ρ => ∃ u b', r = some (.int (nI u)) ∧ mEx σ ρ n b b' ∧ b' ≤ b + 24 ∧ mv n b' u ∧ tvl (ρ 233) (ρ 234) (ρ 235) u = tin σ s t ∧ tgd (ρ 233) (ρ 234) (ρ 235) u = true) := by
      intro N0 n1 n2 n3
      refine kX_while (fun q : Nat × (Nat → Int32) => [(3, .int (w1 q.1)), (0, .ref 232), (1, .int (nI s)), (2, .int (nI t))]) (fun q => va_up σ 266 q.2) (fun q => q.1 ≤ t + 1 ∧ (∀ u, u ≤ t → q.2 u = 0 ∨ q.2 u = 1) ∧ q.2 t = 1 ∧ (∀ u, u ≤ t → q.2 u ≠ 0 → u ∈ Ls) ∧ ∀ u, q.1 ≤ u → u ≤ t → q.2 u ≠ 0 → (∀ x, σ 234 u = nI x → x < 1000 → q.2 x ≠ 0) ∧ ∀ y, σ 235 u = nI y → y < 1000 → q.2 y ≠ 0) (fun q => q.1) ?_ (t + 1, N0) ⟨Nat.le_refl _, n1, n2, n3, fun u h1 h2 => by simp only at h1; omega⟩
      rintro ⟨q, N⟩ ⟨i1, i2, i3, i4, i5⟩ ih
      dsimp only at i1 i2 i3 i4 i5 ih ⊢
      cases q with
      | zero =>
        iterate 4 (refine kX_one rfl ?_)
        refine kX_to [(3, .int (nI 0)), (0, .ref 232), (1, .int (nI s)), (2, .int (nI t))] (va_up (va_up σ 266 N) 267 (σ 267)) rfl rfl rfl ?_ (loop3 N i2 i3 i4 (fun u hu => i5 u (Nat.zero_le _) hu) (σ 267))
        funext c; first
          | ((repeat (refine va_case ?_ ?_; (· (intro h; first | (subst h; rfl) | (unfold va_up; repeat' split; (all_goals first | rfl | omega | (subst_vars; rfl) | (funext j; unfold upd; repeat' split; all_goals first | rfl | omega | (subst_vars; rfl)))))); intro h)); (repeat (refine va_case2 ?_ ?_; (· (intro h; first | exact absurd h (by assumption) | (subst h; rfl) | (subst h; funext j; unfold upd; repeat' split; (all_goals first | rfl | omega | (subst_vars; rfl))))); intro h)); rfl)
          | (unfold va_up; repeat' split
             all_goals first | rfl | omega | (subst_vars; rfl) | (funext j; unfold upd; repeat' split; all_goals first | rfl | omega | (subst_vars; rfl)))
      | succ q =>
        have ew : w1 (q + 1) = nI q := by unfold w1; rw [if_neg (by omega)]; rfl
        rw [ew]
        iterate 2 (refine kX_one rfl ?_)
        repeat refine kX_one rfl ?_
        refine kX_ifF (decide_eq_false (nI_pos (by omega))) ?_
        repeat refine kX_one rfl ?_
        refine kX_baldN rfl rfl (by decide) (q) (by first | rfl | decide) (by omega) ?_
        have back : ∀ (N' : Nat → Int32), (∀ u, u ≤ t → N' u = 0 ∨ N' u = 1) → N' t = 1 → (∀ u, u ≤ t → N' u ≠ 0 → u ∈ Ls) → (∀ u, q ≤ u → u ≤ t → N' u ≠ 0 → (∀ x, σ 234 u = nI x → x < 1000 → N' x ≠ 0) ∧ ∀ y, σ 235 u = nI y → y < 1000 → N' y ≠ 0) → kX kT L xs (d + 5) 176 95 [(3, .int (nI q)), (0, .ref 232), (1, .int (nI s)), (2, .int (nI t))] [] (va_up σ 266 N') (fun r ρ => ∃ u b', r = some (.int (nI u)) ∧ mEx σ ρ n b b' ∧ b' ≤ b + 24 ∧ mv n b' u ∧ tvl (ρ 233) (ρ 234) (ρ 235) u = tin σ s t ∧ tgd (ρ 233) (ρ 234) (ρ 235) u = true) := by
          intro N' m1 m2 m3 m4
          iterate 2 (refine kX_one rfl ?_)
          have := ih (q, N') ⟨by simp only; omega, m1, m2, m3, m4⟩ (by simp only; omega)
          rw [← w1_dec] at this
          exact this
        repeat refine kX_one rfl ?_
        refine kX_if (fun q3 => ?_) (fun q3 => ?_)
        · have q3 : N q = 0 := qeq q3
          exact back N i2 i3 i4 (fun u h1 h2 h3 => i5 u (by
            have : u ≠ q := fun e => h3 (by rw [e]; exact q3)
            omega) h2 h3)
        · have q3 : N q ≠ 0 := qeqF q3
          have hqL := i4 q (by omega) q3
          obtain ⟨a1, a2, a3, a4⟩ := l3 q hqL
          have mono : ∀ (x : Nat), ∀ u, N u ≠ 0 → upd N x 1 u ≠ 0 := fun x u hu => by
            unfold upd
            split
            · decide
            · exact hu
          rcases (hV q a1).2 with ⟨k, h3, hk, hF, hS⟩ | ⟨k, x, y, h3, hk, hx, hy, h4, h5, h6, h7⟩ | ⟨k, x, h3, hk, hx, hy, h4, h6⟩
          · repeat refine kX_one rfl ?_
            refine kX_ialdV (v := -1) rfl rfl (by decide) q rfl (by omega) hF ?_
            repeat refine kX_one rfl ?_
            refine kX_ialdV (v := -1) rfl rfl (by decide) q rfl (by omega) hS ?_
            iterate 1 (refine kX_one rfl ?_)
            refine back N i2 i3 i4 (fun u h1 h2 h3 => ?_)
            by_cases e : u = q
            · subst e
              exact ⟨fun x ex hx => absurd (hF.symm.trans ex).symm (nI_m1 (by omega)), fun y ey hy => absurd (hS.symm.trans ey).symm (nI_m1 (by omega))⟩
            · exact i5 u (by omega) h2 h3
          · repeat refine kX_one rfl ?_
            refine kX_ialdV (v := nI x) rfl rfl (by decide) q rfl (by omega) hx ?_
            repeat refine kX_one rfl ?_
            refine kX_ifF (decide_eq_false (nI_pos (by omega))) ?_
            repeat refine kX_one rfl ?_
            refine kX_ialdV (v := nI x) rfl rfl (by decide) q rfl (by omega) hx ?_
            iterate 1 (refine kX_one rfl ?_)
            refine kX_bastN rfl rfl (by decide) (x) (by first | rfl | decide) (by omega) (Or.inr rfl) ?_
            repeat refine kX_one rfl ?_
            refine kX_ialdV (v := nI y) rfl rfl (by decide) q rfl (by omega) hy ?_
            repeat refine kX_one rfl ?_
            refine kX_ifF (decide_eq_false (nI_pos (by omega))) ?_
            repeat refine kX_one rfl ?_
            refine kX_ialdV (v := nI y) rfl rfl (by decide) q rfl (by omega) hy ?_
            iterate 1 (refine kX_one rfl ?_)
            refine kX_bastN rfl rfl (by decide) (y) (by first | rfl | decide) (by omega) (Or.inr rfl) ?_
            rw [kup_up, kup_up]
            refine back (upd (upd N x 1) y 1) (fun u hu => ?_) ?_ (fun u hu hN => ?_) (fun u h1 h2 h3 => ?_)
            · unfold upd
              split
              · exact Or.inr rfl
              · split
                · exact Or.inr rfl
                · exact i2 u hu
            · rw [pk_un (by omega), pk_un (by omega)]
              exact i3
            · by_cases ey : u = y
              · subst ey
                exact a4 u hy (by omega)
              · rw [pk_un ey] at hN
                by_cases ex : u = x
                · subst ex
                  exact a3 u hx (by omega)
                · rw [pk_un ex] at hN
                  exact i4 u hu hN
            · by_cases e : u = q
              · subst e
                refine ⟨fun z ez hz => ?_, fun z ez hz => ?_⟩
                · have : x = z := nI_inj (hx.symm.trans ez)
                  subst this
                  unfold upd
                  split
                  · decide
                  · rw [if_pos rfl]
                    decide
                · have : y = z := nI_inj (hy.symm.trans ez)
                  subst this
                  rw [pk_us]
                  decide
              · have hu0 : N u ≠ 0 := by
                  rw [pk_un (by omega), pk_un (by omega)] at h3
                  exact h3
                obtain ⟨g1, g2⟩ := i5 u (by omega) h2 hu0
                have up : ∀ z, N z ≠ 0 → upd (upd N x 1) y 1 z ≠ 0 := fun z hz => by
                  unfold upd
                  split
                  · decide
                  · split
                    · decide
                    · exact hz
                exact ⟨fun z ez hz => up z (g1 z ez hz), fun z ez hz => up z (g2 z ez hz)⟩
          · repeat refine kX_one rfl ?_
            refine kX_ialdV (v := nI x) rfl rfl (by decide) q rfl (by omega) hx ?_
            repeat refine kX_one rfl ?_
            refine kX_ifF (decide_eq_false (nI_pos (by omega))) ?_
            repeat refine kX_one rfl ?_
            refine kX_ialdV (v := nI x) rfl rfl (by decide) q rfl (by omega) hx ?_
            iterate 1 (refine kX_one rfl ?_)
            refine kX_bastN rfl rfl (by decide) (x) (by first | rfl | decide) (by omega) (Or.inr rfl) ?_
            repeat refine kX_one rfl ?_
            refine kX_ialdV (v := -1) rfl rfl (by decide) q rfl (by omega) hy ?_
            iterate 1 (refine kX_one rfl ?_)
            rw [kup_up]
            refine back (upd N x 1) (fun u hu => ?_) ?_ (fun u hu hN => ?_) (fun u h1 h2 h3 => ?_)
            · unfold upd
              split
              · exact Or.inr rfl
              · exact i2 u hu
            · rw [pk_un (by omega)]
              exact i3
            · by_cases ex : u = x
              · subst ex
                exact a3 u hx (by omega)
              · rw [pk_un ex] at hN
                exact i4 u hu hN
            · by_cases e : u = q
              · subst e
                refine ⟨fun z ez hz => ?_, fun z ez hz => absurd (hy.symm.trans ez).symm (nI_m1 (by omega))⟩
                have : x = z := nI_inj (hx.symm.trans ez)
                subst this
                rw [pk_us]
                decide
              · have hu0 : N u ≠ 0 := by
                  rw [pk_un (by omega)] at h3
                  exact h3
                obtain ⟨g1, g2⟩ := i5 u (by omega) h2 hu0
                exact ⟨fun z ez hz => mono x z (g1 z ez hz), fun z ez hz => mono x z (g2 z ez hz)⟩
    /- the first loop -/
    iterate 2 (refine kX_one rfl ?_)
    have loop1 := kX_while (T := kT) (L := L) (xs := xs) (d := d + 5) (mi := 176) (pc := 13) (Q := fun r ρ => ∃ u b', r = some (.int (nI u)) ∧ mEx σ ρ n b b' ∧ b' ≤ b + 24 ∧ mv n b' u ∧ tvl (ρ 233) (ρ 234) (ρ 235) u = tin σ s t ∧ tgd (ρ 233) (ρ 234) (ρ 235) u = true)
      (fun q : Nat × (Nat → Int32) => [(3, .int (nI q.1)), (0, .ref 232), (1, .int (nI s)), (2, .int (nI t))]) (fun q => va_up σ 266 q.2) (fun q => q.1 ≤ t + 1 ∧ ∀ u, u < q.1 → q.2 u = 0) (fun q => t + 1 - q.1) ?_ (0, σ 266) ⟨Nat.zero_le _, fun u hu => absurd hu (Nat.not_lt_zero u)⟩
    · rw [kup_self] at loop1
      exact loop1
    · rintro ⟨i, N⟩ ⟨i1, i2⟩ ih
      dsimp only at i1 i2 ih ⊢
      repeat refine kX_one rfl ?_
      refine kX_if (fun q2 => ?_) (fun q2 => ?_)
      · have q2 := qgt q2 i t
        repeat refine kX_one rfl ?_
        refine kX_bastN rfl rfl (by decide) (t) (by first | rfl | decide) (by omega) (Or.inr rfl) ?_
        iterate 2 (refine kX_one rfl ?_)
        rw [kup_up]
        have := loop2 (upd N t 1) (fun u hu => by
          by_cases e : u = t
          · subst e
            exact Or.inr pk_us
          · rw [pk_un e]
            exact Or.inl (i2 u (by omega))) pk_us (fun u hu hN => by
          by_cases e : u = t
          · subst e
            exact l2
          · rw [pk_un e] at hN
            exact absurd (i2 u (by omega)) hN)
        have ew : w1 (t + 1) = nI t := by unfold w1; rw [if_neg (by omega)]; rfl
        rw [ew] at this
        exact this
      · have q2 := qgtF q2 i t
        repeat refine kX_one rfl ?_
        refine kX_bastN rfl rfl (by decide) (i) (by first | rfl | decide) (by omega) (Or.inl rfl) ?_
        iterate 2 (refine kX_one rfl ?_)
        rw [kup_up]
        have := ih (i + 1, upd N i 0) ⟨by simp only; omega, fun u hu => by
          simp only at hu ⊢
          by_cases e : u = i
          · subst e
            exact pk_us
          · rw [pk_un e]
            exact i2 u (by omega)⟩ (by simp only; omega)
        rw [← nI_1] at this
        exact this
  · have q := (bI_ne _).mp (qeqF q)
    repeat refine kX_one rfl ?_
    refine kX_ret (i := .ireturn) (len := 1) rfl (Or.inr rfl) rfl (⟨t, b, rfl, mEx_refl h (N := σ 266) (I := σ 267) (by rw [kup_self, kup_self]), by omega, htv, (tin_gd h t htv q).symm, q⟩)
end
section
/-! rows as trees; rows while the table grows -/
abbrev trT : Type := List (Jvm.Term × Int32 × Int32)
noncomputable def trA (l : trT) (g : Jvm.Term) (w p : Int32) : trT := cit (∃ q ∈ l, q.1 = g) l (l ++ [(g, w, p)])
/-- a row's TERMS as trees -/
def rwM (σ : kS) (l : rwT) : trT := l.map (fun q => (tvl (σ 233) (σ 234) (σ 235) q.1, q.2))
theorem rwM_mem {σ : kS} {l : rwT} {g : Jvm.Term} : (∃ q ∈ rwM σ l, q.1 = g) ↔ mR σ l g := by
  unfold rwM mR rwI
  constructor
  · rintro ⟨q, hq, rfl⟩
    obtain ⟨p, hp, rfl⟩ := List.mem_map.mp hq
    exact ⟨p.1, ⟨p, hp, rfl⟩, rfl⟩
  · rintro ⟨t, ⟨p, hp, rfl⟩, e⟩
    exact ⟨_, List.mem_map.mpr ⟨p, hp, rfl⟩, e⟩
theorem rwM_A {σ : kS} {n b : Nat} {l : rwT} {t : Nat} {w p : Int32} (h : mTb σ n b) (hl : ∀ t, rwI l t → mvG σ n b t) (ht : mv n b t) : rwM σ (rwA l t w p) = trA (rwM σ l) (tvl (σ 233) (σ 234) (σ 235) t) w p := by
  unfold trA rwA
  by_cases hi : rwI l t
  · rw [if_pos hi, cit_T (rwM_mem.mpr ((mR_iff h hl ht).mpr hi))]
  · rw [if_neg hi, cit_F (fun q => hi ((mR_iff h hl ht).mp (rwM_mem.mp q)))]
    unfold rwM
    rw [List.map_append]
    rfl
theorem rwI_A {l : rwT} {t u : Nat} {w p : Int32} (h : rwI (rwA l t w p) u) : rwI l u ∨ u = t := by
  unfold rwA at h
  split at h
  · exact Or.inl h
  · exact rwI_app.mp h
/-- the table grows: the row stays -/
theorem mRq_ex {σ τ : kS} {n b b' : Nat} {l : rwT} (h0 : mTb σ n b) (hE : mEx σ τ n b b') (h : mRq σ (mvG σ n b) l) : mRq τ (mvG τ n b') l ∧ rwM τ l = rwM σ l := by
  have hm : ∀ t, mvG σ n b t → mvG τ n b' t := fun t ht => ⟨by have := ht.1; have := hE.2.1; unfold mv at *; omega, (mEx_tvl h0 hE ht.1).2.trans ht.2⟩
  have hrw : rwM τ l = rwM σ l := by
    unfold rwM
    refine List.map_congr_left (fun q hq => ?_)
    rw [(mEx_tvl h0 hE (h.2.2.1 q.1 ⟨q, hq, rfl⟩).1).1]
  refine ⟨?_, hrw⟩
  obtain ⟨h1, h2, h3, h4, h5⟩ := h
  obtain ⟨-, -, -, K, F, S, Z, G, nx, hd, N, I, rfl⟩ := hE
  exact ⟨h1, h2, fun t ht => hm t (h3 t ht), h4, h5⟩
theorem mMk_ex {σ τ : kS} {n b b' : Nat} {l : rwT} (h0 : mTb σ n b) (hE : mEx σ τ n b b') (hl : ∀ t, rwI l t → mvG σ n b t) {t : Nat} (ht : mv n b t) : mMk τ l t ↔ mMk σ l t := by
  obtain ⟨e1, e2⟩ := mEx_tvl h0 hE ht
  unfold mMk
  rw [e1, e2]
  have hR : mR τ l = mR σ l := by
    funext g
    refine propext ⟨fun ⟨u, hu, e⟩ => ⟨u, hu, by rw [← e, (mEx_tvl h0 hE (hl u hu).1).1]⟩, fun ⟨u, hu, e⟩ => ⟨u, hu, by rw [← e, (mEx_tvl h0 hE (hl u hu).1).1]⟩⟩
  have hH : τ 238 = σ 238 := by
    obtain ⟨-, -, -, K, F, S, Z, G, nx, hd, N, I, rfl⟩ := hE
    rfl
  rw [hR, hH]
  refine and_congr_right (fun hg => ?_)
  /- AGENTS are old -/
  have key : ∀ u, mv n b u → tgd (σ 233) (σ 234) (σ 235) u = true → (vmk (mR σ l) (mA τ) (σ 238) (tvl (σ 233) (σ 234) (σ 235) u) ↔ vmk (mR σ l) (mA σ) (σ 238) (tvl (σ 233) (σ 234) (σ 235) u)) := by
    have hV := h0.2.2.2.2.2.1.1
    intro u
    induction u using Nat.strongRecOn with
    | _ u ih =>
      intro hu hgu
      rcases (hV u hu).2 with ⟨k, h3, hk, -, -⟩ | ⟨k, x, y, h3, hk, hx, hy, h4, h5, h6, h7⟩ | ⟨k, x, h3, hk, hx, hy, h4, h6⟩
      · rw [tvl_0 hk h3]
        unfold vmk mA
        rw [(hE.2.2.1 u (by have := h0.1; have := h0.2.1; unfold mv at hu; omega)).1]
      · rw [tgd_2 hV hk hx hy (by omega) (by omega) h4 h5 h6 h7, Bool.and_eq_true] at hgu
        rw [tvl_2 hV hk hx hy (by omega) (by omega) h4 h5 h6 h7]
        have ix := ih x h4 h6 hgu.1
        have iy := ih y h5 h7 hgu.2
        rcases h3 with rfl | rfl | ⟨rfl | rfl, -⟩
        · show (_ ∨ (_ ∧ _)) ↔ (_ ∨ (_ ∧ _))
          rw [ix, iy]
        · show (_ ∨ (_ ∧ _)) ↔ (_ ∨ (_ ∧ _))
          rw [ix, iy]
        · show (_ ∨ _) ↔ (_ ∨ _)
          rw [ix]
        · show (_ ∨ (_ ∧ _)) ↔ (_ ∨ (_ ∧ _))
          rw [ix]
      · rw [tgd_1 hV hk hx hy (by omega) (by omega) h4 h6] at hgu
        rw [tvl_1 hV hk hx hy (by omega) (by omega) h4 h6]
        have ix := ih x h4 h6 hgu
        rcases h3 with rfl | ⟨rfl, -⟩
        · show (_ ∨ _) ↔ (_ ∨ _)
          rw [ix]
        · exact Iff.rfl
  exact key t ht hg
theorem mJd_ex {σ τ : kS} {n b b' : Nat} {l : rwT} (h0 : mTb σ n b) (hE : mEx σ τ n b b') (hl : ∀ t, rwI l t → mvG σ n b t) (h : mJd σ n b l) : mJd τ n b' l := by
  have e232 : ∀ j, j ≠ 10 → τ 232 j = σ 232 j := fun j hj => by
    obtain ⟨-, -, -, K, F, S, Z, G, nx, hd, N, I, rfl⟩ := hE
    exact pk_un hj
  have emk : τ 272 = σ 272 := by
    obtain ⟨-, -, -, K, F, S, Z, G, nx, hd, N, I, rfl⟩ := hE
    rfl
  obtain ⟨h1, h2⟩ := h
  refine ⟨by rw [e232 _ (by decide)]; exact h1, fun q => ?_⟩
  rw [e232 _ (by decide)] at q
  obtain ⟨j, j1, j2, j3, j4⟩ := h2 q
  refine ⟨j, by rw [e232 _ (by decide)]; exact j1, j2, by have := hE.2.1; omega, fun t ht htj => ?_⟩
  have htb : mv n b t := by unfold mv at ht ⊢; omega
  rw [emk, j4 t htb htj, propext (mMk_ex h0 hE hl htb)]
/-- what a row of trees MAKES -/
def trI (l : trT) (g : Jvm.Term) : Prop := ∃ q ∈ l, q.1 = g
noncomputable def trK (A : Nat → Prop) (H : Nat → Int32) (l : trT) (p : Nat) : trT := match l[p]? with
  | some (.add a b, _) => trA (trA l a (nI 2) (nI p)) b (nI 3) (nI p)
  | some (.sub a b, _) => cit (vmk (trI l) A H b) (trA l a (nI 4) (nI p)) l
  | some (.mul a b, _) => cit (vnh H b ∨ trI l (.length b)) (trA l a (nI 5) (nI p)) l
  | some (.div a _, _) => trA l a (nI 6) (nI p)
  | _ => l
noncomputable def trP (A : Nat → Prop) (H : Nat → Int32) : Nat → Nat → trT → trT
  | 0, _, l => l
  | f + 1, p, l => if p < l.length then trP A H f (p + 1) (trK A H l p) else l
noncomputable def trE (A : Nat → Prop) (H : Nat → Int32) : Nat → trT → trT
  | 0, l => l
  | f + 1, l => if l.length < (trP A H 1001 0 l).length then trE A H f (trP A H 1001 0 l) else trP A H 1001 0 l
theorem rwM_I (σ : kS) (l : rwT) : trI (rwM σ l) = mR σ l := funext fun g => propext rwM_mem
theorem rwM_K {σ : kS} {n b : Nat} {l : rwT} {p : Nat} (h : mTb σ n b) (hl : ∀ t, rwI l t → mvG σ n b t) (hp : p < l.length) : rwM σ (tkR σ l p) = trK (mA σ) (σ 238) (rwM σ l) p ∧ ∀ t, rwI (tkR σ l p) t → mvG σ n b t := by
  have hV := h.2.2.2.2.2.1.1
  obtain ⟨t, ht⟩ : ∃ t, (l[p]'hp).1 = t := ⟨_, rfl⟩
  have htv : mvG σ n b t := hl t ⟨l[p]'hp, List.getElem_mem hp, ht⟩
  have hR : tkR σ l p = tkT σ l p t := by
    unfold tkR
    rw [List.getElem?_eq_getElem hp]
    rw [← ht]
  have hM : (rwM σ l)[p]? = some (tvl (σ 233) (σ 234) (σ 235) t, (l[p]'hp).2) := by
    unfold rwM
    rw [List.getElem?_map, List.getElem?_eq_getElem hp]
    rw [← ht]
    rfl
  rw [hR]
  unfold trK
  rw [hM]
  have hA : ∀ (l1 : rwT) (x : Nat) (w q : Int32), (∀ t, rwI l1 t → mvG σ n b t) → mvG σ n b x → ∀ u, rwI (rwA l1 x w q) u → mvG σ n b u := fun l1 x w q h1 h2 u hu => by
    rcases rwI_A hu with hu | rfl
    · exact h1 u hu
    · exact h2
  rcases (hV t htv.1).2 with ⟨k, h3, hk, -, -⟩ | ⟨k, x, y, h3, hk, hx, hy, h4, h5, h6, h7⟩ | ⟨k, x, h3, hk, hx, hy, h4, h6⟩
  · have e : tkT σ l p t = l := by
      unfold tkT
      rw [hk, if_neg (nI_ne (by omega)), if_neg (nI_ne (by omega)), if_neg (nI_ne (by omega)), if_neg (nI_ne (by omega))]
    rw [e, tvl_0 hk h3]
    exact ⟨rfl, hl⟩
  · have hg := htv.2
    rw [tgd_2 hV hk hx hy (by omega) (by omega) h4 h5 h6 h7, Bool.and_eq_true] at hg
    have hxv : mvG σ n b x := ⟨h6, hg.1⟩
    have hyv : mvG σ n b y := ⟨h7, hg.2⟩
    have ex : fN (σ 234 t) = x := by rw [hx]; exact fN_nI (by have := (hV x h6).1; omega)
    have ey : fN (σ 235 t) = y := by rw [hy]; exact fN_nI (by have := (hV y h7).1; omega)
    rw [tvl_2 hV hk hx hy (by omega) (by omega) h4 h5 h6 h7]
    have hmy : mMk σ l y ↔ vmk (trI (rwM σ l)) (mA σ) (σ 238) (tvl (σ 233) (σ 234) (σ 235) y) := by
      rw [rwM_I]
      exact ⟨fun q => q.2, fun q => ⟨hg.2, q⟩⟩
    rcases h3 with rfl | rfl | ⟨h3, hag⟩
    · have e : tkT σ l p t = rwA (rwA l x (nI 2) (nI p)) y (nI 3) (nI p) := by
        unfold tkT
        rw [if_pos hk, ex, ey]
      rw [e]
      refine ⟨?_, hA _ _ _ _ (hA _ _ _ _ hl hxv) hyv⟩
      show _ = trA (trA (rwM σ l) (tvl (σ 233) (σ 234) (σ 235) x) (nI 2) (nI p)) (tvl (σ 233) (σ 234) (σ 235) y) (nI 3) (nI p)
      rw [rwM_A h (hA _ _ _ _ hl hxv) h7, rwM_A h hl h6]
    · have e : tkT σ l p t = cit (mMk σ l y) (rwA l x (nI 4) (nI p)) l := by
        unfold tkT
        rw [if_neg (by rw [hk]; decide), if_pos hk, ex, ey]
      rw [e]
      show rwM σ (cit _ _ _) = cit (vmk (trI (rwM σ l)) (mA σ) (σ 238) (tvl (σ 233) (σ 234) (σ 235) y)) (trA (rwM σ l) (tvl (σ 233) (σ 234) (σ 235) x) (nI 4) (nI p)) (rwM σ l) ∧ _
      by_cases hm : mMk σ l y
      · rw [cit_T hm, cit_T (hmy.mp hm), rwM_A h hl h6]
        exact ⟨rfl, hA _ _ _ _ hl hxv⟩
      · rw [cit_F hm, cit_F (fun q => hm (hmy.mpr q))]
        exact ⟨rfl, hl⟩
    · have hy0 : σ 233 y = nI 0 := by
        rcases hag.2 with e | ⟨e, -⟩
        · exact e
        · rw [tgd_0 e (by decide)] at hg
          exact absurd rfl (of_decide_eq_true hg.2)
      rcases h3 with rfl | rfl
      · have e : tkT σ l p t = cit (mHp σ l y) (rwA l x (nI 5) (nI p)) l := by
          unfold tkT
          rw [if_neg (by rw [hk]; decide), if_neg (by rw [hk]; decide), if_pos hk, ex, ey]
        rw [e]
        show rwM σ (cit _ _ _) = cit (vnh (σ 238) (tvl (σ 233) (σ 234) (σ 235) y) ∨ trI (rwM σ l) (.length (tvl (σ 233) (σ 234) (σ 235) y))) (trA (rwM σ l) (tvl (σ 233) (σ 234) (σ 235) x) (nI 5) (nI p)) (rwM σ l) ∧ _
        rw [tvl_0 hy0 (by decide), rwM_I]
        by_cases hm : mHp σ l y
        · rw [cit_T hm, cit_T (show vnh (σ 238) (.arg y) ∨ mR σ l (.length (.arg y)) from hm), rwM_A h hl h6]
          exact ⟨rfl, hA _ _ _ _ hl hxv⟩
        · rw [cit_F hm, cit_F (show ¬ (vnh (σ 238) (.arg y) ∨ mR σ l (.length (.arg y))) from hm)]
          exact ⟨rfl, hl⟩
      · have e : tkT σ l p t = rwA l x (nI 6) (nI p) := by
          unfold tkT
          rw [if_neg (by rw [hk]; decide), if_neg (by rw [hk]; decide), if_neg (by rw [hk]; decide), if_pos hk, ex]
        rw [e]
        refine ⟨?_, hA _ _ _ _ hl hxv⟩
        show _ = trA (rwM σ l) (tvl (σ 233) (σ 234) (σ 235) x) (nI 6) (nI p)
        rw [rwM_A h hl h6]
  · have e : tkT σ l p t = l := by
      unfold tkT
      rw [hk, if_neg (nI_ne (by omega)), if_neg (nI_ne (by omega)), if_neg (nI_ne (by omega)), if_neg (nI_ne (by omega))]
    rw [e, tvl_1 hV hk hx hy (by omega) (by omega) h4 h6]
    rcases h3 with rfl | ⟨rfl, -⟩
    · exact ⟨rfl, hl⟩
    · exact ⟨rfl, hl⟩
theorem rwM_len (σ : kS) (l : rwT) : (rwM σ l).length = l.length := List.length_map ..
theorem rwM_P {σ : kS} {n b : Nat} (h : mTb σ n b) : ∀ (f p : Nat) (l : rwT), (∀ t, rwI l t → mvG σ n b t) → rwM σ (psR σ f p l) = trP (mA σ) (σ 238) f p (rwM σ l) ∧ ∀ t, rwI (psR σ f p l) t → mvG σ n b t
  | 0, _, l, hl => ⟨rfl, hl⟩
  | f + 1, p, l, hl => by
    unfold psR trP
    rw [rwM_len]
    by_cases hp : p < l.length
    · rw [if_pos hp, if_pos hp]
      obtain ⟨k1, k2⟩ := rwM_K h hl hp
      rw [← k1]
      exact rwM_P h f (p + 1) (tkR σ l p) k2
    · rw [if_neg hp, if_neg hp]
      exact ⟨rfl, hl⟩
theorem rwM_E {σ : kS} {n b : Nat} (h : mTb σ n b) : ∀ (f : Nat) (l : rwT), (∀ t, rwI l t → mvG σ n b t) → rwM σ (enR σ f l) = trE (mA σ) (σ 238) f (rwM σ l) ∧ ∀ t, rwI (enR σ f l) t → mvG σ n b t
  | 0, l, hl => ⟨rfl, hl⟩
  | f + 1, l, hl => by
    obtain ⟨k1, k2⟩ := rwM_P h 1001 0 l hl
    have e1 : (trP (mA σ) (σ 238) 1001 0 (rwM σ l)).length = (psR σ 1001 0 l).length := by rw [← k1, rwM_len]
    unfold enR trE
    rw [rwM_len, e1]
    by_cases hp : l.length < (psR σ 1001 0 l).length
    · rw [if_pos hp, if_pos hp, ← k1]
      exact rwM_E h f _ k2
    · rw [if_neg hp, if_neg hp]
      exact ⟨k1, k2⟩
end
section
/-! the reference's state: ROLES, SESSIONS, where these stand -/
def mRo (σ : kS) (n R : Nat) : Prop := R ≤ 4 ∧ σ 232 13 = nI R ∧
  (∀ r, r < R → (∃ v, v ≤ 6 ∧ σ 244 r = nI v) ∧ ∃ e, e ≤ 6 ∧ σ 247 r = nI e) ∧
  (∀ r k, r < R → k < fN (σ 244 r) → ∃ t so as, t < n ∧ σ 245 (6 * r + k) = nI t ∧ σ 233 t = nI 3 ∧ σ 239 t = nI r ∧ σ 241 t = nI k ∧ so ≤ 3 ∧ σ 240 t = nI so ∧ as ≤ 2 ∧ σ 246 (6 * r + k) = nI as ∧ (as = 0 → so = 0) ∧ (as = 1 → so = 1 ∨ so = 2)) ∧
  (∀ t, t < n → σ 233 t = nI 3 → ∃ r k, r < R ∧ k < fN (σ 244 r) ∧ σ 245 (6 * r + k) = nI t) ∧
  (∀ r e, r < R → e < fN (σ 247 r) → ∃ t, t < n ∧ σ 248 (6 * r + e) = nI t ∧ (∀ u ∈ tvs (σ 233) (σ 234) (σ 235) t, σ 239 u = nI r) ∧
    (σ 249 (6 * r + e) ≠ 0 → ∀ u ∈ tvs (σ 233) (σ 234) (σ 235) t, σ 246 (6 * r + fN (σ 241 u)) = nI 2 → ∃ e', e' < e ∧ σ 249 (6 * r + e') = 0 ∧ u ∈ tvs (σ 233) (σ 234) (σ 235) (fN (σ 248 (6 * r + e')))))
/-- VARIABLE k of the role r in the session s: it stands for nothing (one that is RECEIVED, or none), or for a GROUND TERM of its SORT -/
def mVk (σ : kS) (n r s k : Nat) : Prop := (σ 265 (6 * s + k) = -6 ∧ (k < fN (σ 244 r) → σ 246 (6 * r + k) = nI 2)) ∨ ∃ z, z < n ∧ σ 265 (6 * s + k) = nI z ∧ tgd (σ 233) (σ 234) (σ 235) z = true ∧ k < fN (σ 244 r) ∧ (σ 240 (fN (σ 245 (6 * r + k))) = nI 3 ∨ σ 240 (fN (σ 245 (6 * r + k))) = σ 233 z)
/-- where the session s stands: dn EVENTS done -/
def mSn (σ : kS) (n R s dn : Nat) : Prop := ∃ r, r < R ∧ σ 255 s = nI r ∧ σ 264 s = nI dn ∧ dn ≤ fN (σ 247 r) ∧ (∀ k, k < 6 → mVk σ n r s k) ∧ (∀ e, e < dn → mSt σ n s (fN (σ 248 (6 * r + e)))) ∧ ∀ k, k < fN (σ 244 r) → σ 246 (6 * r + k) = nI 2 → σ 265 (6 * s + k) ≠ -6 → ∃ e, e < dn ∧ σ 249 (6 * r + e) = 0 ∧ fN (σ 245 (6 * r + k)) ∈ tvs (σ 233) (σ 234) (σ 235) (fN (σ 248 (6 * r + e)))
/-- SESSIONS as they were made -/
def mSe (σ : kS) (n R S : Nat) : Prop := S ≤ 4 ∧ σ 232 27 = nI S ∧ ∀ s, s < S → ∃ r, r < R ∧ σ 255 s = nI r ∧ σ 250 r ≠ 0 ∧ ∀ k, k < fN (σ 244 r) → ∃ as, σ 246 (6 * r + k) = nI as ∧ ((as = 2 ∧ σ 256 (6 * s + k) = -6) ∨ (as < 2 ∧ ∃ z, z < n ∧ σ 256 (6 * s + k) = nI z ∧ σ 233 z = σ 240 (fN (σ 245 (6 * r + k)))))
/-- the RUN: by whom its EVENTS were done -/
def mRn (σ : kS) (n R S : Nat) (ds : List Nat) : Prop := σ 232 55 = nI ds.length ∧ lst (σ 274) ds ∧ (∀ s ∈ ds, s < S) ∧ ∀ s, s < S → mSn σ n R s (ds.count s)
def rowC : List Nat := [233, 234, 235, 236, 237, 243, 242, 266, 267, 272, 271, 268, 269, 270, 276, 232, 273, 252, 251, 253, 277, 278, 279, 280, 281, 282, 283]
def rowJ : List Nat := [10, 49, 50, 46, 47, 22, 61]
/-- nothing has changed but the row and what it is made of -/
def mFr (σ τ : kS) (n : Nat) : Prop := (∀ c, c ∉ rowC → τ c = σ c) ∧ (∀ j, j ∉ rowJ → τ 232 j = σ 232 j) ∧ ∀ u, u < 200 → τ 233 u = σ 233 u ∧ τ 234 u = σ 234 u ∧ τ 235 u = σ 235 u
theorem mFr_refl (σ : kS) (n : Nat) : mFr σ σ n := ⟨fun _ _ => rfl, fun _ _ => rfl, fun _ _ => ⟨rfl, rfl, rfl⟩⟩
theorem mFr_trans {σ τ ρ : kS} {n : Nat} (h1 : mFr σ τ n) (h2 : mFr τ ρ n) : mFr σ ρ n :=
  ⟨fun c hc => (h2.1 c hc).trans (h1.1 c hc), fun j hj => (h2.2.1 j hj).trans (h1.2.1 j hj), fun u hu => ⟨(h2.2.2 u hu).1.trans (h1.2.2 u hu).1, (h2.2.2 u hu).2.1.trans (h1.2.2 u hu).2.1, (h2.2.2 u hu).2.2.trans (h1.2.2 u hu).2.2⟩⟩
theorem mFr_rwF {σ τ : kS} {n : Nat} (h : rwF σ τ) : mFr σ τ n := by
  obtain ⟨⟨Mk, I, R, H, M, o, rfl⟩, g⟩ := h
  refine ⟨fun c hc => ?_, fun j hj => ?_, fun u hu => ⟨rfl, rfl, rfl⟩⟩
  · simp only [rowC, List.mem_cons, List.not_mem_nil, or_false, not_or] at hc
    simp [rwS, va_up, hc]
  · simp only [rowJ, List.mem_cons, List.not_mem_nil, or_false, not_or] at hj
    exact g j hj.2.1 hj.2.2.1 hj.2.2.2.1
theorem mFr_ex {σ τ : kS} {n b b' : Nat} (h : mEx σ τ n b b') (hb : 200 ≤ b) : mFr σ τ n := by
  obtain ⟨h1, h2, h3, K, F, S, Z, G, nx, hd, N, I, rfl⟩ := h
  refine ⟨fun c hc => ?_, fun j hj => ?_, fun u hu => h3 u (by omega)⟩
  · simp only [rowC, List.mem_cons, List.not_mem_nil, or_false, not_or] at hc
    simp [exS, mU, va_up, hc]
  · simp only [rowJ, List.mem_cons, List.not_mem_nil, or_false, not_or] at hj
    exact pk_un hj.1
theorem mFr_Rl (σ : kS) (n : Nat) (hd : Nat → Int32) (jd : Int32) : mFr σ (mRl σ hd jd) n := by
  refine ⟨fun c hc => ?_, fun j hj => ?_, fun u hu => ⟨rfl, rfl, rfl⟩⟩
  · simp only [rowC, List.mem_cons, List.not_mem_nil, or_false, not_or] at hc
    simp [mRl, va_up, hc]
  · simp only [rowJ, List.mem_cons, List.not_mem_nil, or_false, not_or] at hj
    show upd (upd (σ 232) 10 (nI 200)) 49 jd j = _
    rw [pk_un hj.2.1, pk_un hj.1]
theorem mFr_sent (σ : kS) (n : Nat) (f : Nat → Int32) : mFr σ (va_up σ 276 f) n := by
  refine ⟨fun c hc => ?_, fun j hj => rfl, fun u hu => ⟨rfl, rfl, rfl⟩⟩
  simp only [rowC, List.mem_cons, List.not_mem_nil, or_false, not_or] at hc
  simp [va_up, hc]
theorem mFr_rit (σ : kS) (n : Nat) (x : Int32) : mFr σ (va_up σ 232 (upd (σ 232) 47 x)) n := by
  refine ⟨fun c hc => ?_, fun j hj => ?_, fun u hu => ⟨rfl, rfl, rfl⟩⟩
  · simp only [rowC, List.mem_cons, List.not_mem_nil, or_false, not_or] at hc
    simp [va_up, hc]
  · simp only [rowJ, List.mem_cons, List.not_mem_nil, or_false, not_or] at hj
    show upd (σ 232) 47 x j = _
    exact pk_un hj.2.2.2.2.1
/-- what is told of numbered TERMS -/
theorem mTb_num {σ : kS} {n b : Nat} (h : mTb σ n b) : ∀ t, t < n → t < 100000 ∧ tOk (fun u => u < n) (mAG σ n) (σ 233) (σ 234) (σ 235) t := fun t ht => by
  have hV := h.2.2.2.2.2.1.1 t (Or.inl ht)
  exact ⟨hV.1, tOk_mono (fun x hx _ => by omega) (fun _ _ q => q) rfl rfl rfl hV.2⟩
theorem mFr_all {σ τ : kS} {n b t : Nat} (h : mTb σ n b) (hF : mFr σ τ n) (ht : t < n) : tvl (τ 233) (τ 234) (τ 235) t = tvl (σ 233) (σ 234) (σ 235) t ∧ tgd (τ 233) (τ 234) (τ 235) t = tgd (σ 233) (σ 234) (σ 235) t ∧ tvs (τ 233) (τ 234) (τ 235) t = tvs (σ 233) (σ 234) (σ 235) t := by
  have h200 := h.1
  have hF2 : ∀ u, u < n → τ 233 u = σ 233 u ∧ τ 234 u = σ 234 u ∧ τ 235 u = σ 235 u := fun u hu => hF.2.2 u (by omega)
  refine ⟨tA_congr (mTb_num h) (fun u hu => ⟨(hF2 u hu).1, (hF2 u hu).2.1, (hF2 u hu).2.2, rfl⟩) t ht, tA_congr (mTb_num h) (fun u hu => ⟨(hF2 u hu).1, (hF2 u hu).2.1, (hF2 u hu).2.2, by rw [(hF2 u hu).1]⟩) t ht, tA_congr (mTb_num h) (fun u hu => ⟨(hF2 u hu).1, (hF2 u hu).2.1, (hF2 u hu).2.2, by rw [(hF2 u hu).1]⟩) t ht⟩
theorem mFr_St {σ τ : kS} {n b s t : Nat} (h : mTb σ n b) (hF : mFr σ τ n) (ht : t < n) (hs : mSt σ n s t) : mSt τ n s t := by
  intro u hu
  rw [(mFr_all h hF ht).2.2] at hu
  obtain ⟨p, z, h1, h2, h3, h4, h5, h6⟩ := hs u hu
  refine ⟨p, z, h1, h2, ?_, ?_, (mFr_all h hF h2).2.1.trans h5, ?_⟩
  · rw [hF.1 241 (by decide)]
    exact h3
  · rw [hF.1 265 (by decide)]
    exact h4
  · rw [hF.1 240 (by decide), (hF.2.2 z (by have := h.1; omega)).1]
    exact h6
theorem mFr_Ro {σ τ : kS} {n b R : Nat} (h : mTb σ n b) (hF : mFr σ τ n) (hR : mRo σ n R) : mRo τ n R := by
  obtain ⟨h1, h2, h3, h4, h5, h6⟩ := hR
  have c := fun c (hc : c ∉ rowC) => hF.1 c hc
  refine ⟨h1, (hF.2.1 _ (by decide)).trans h2, ?_, ?_, ?_, ?_⟩
  · rw [c 244 (by decide), c 247 (by decide)]
    exact h3
  · rw [c 244 (by decide), c 245 (by decide), c 239 (by decide), c 241 (by decide), c 240 (by decide), c 246 (by decide)]
    intro r k hr hk
    obtain ⟨t, so, as, a1, a2, a3, a4⟩ := h4 r k hr hk
    exact ⟨t, so, as, a1, a2, ((hF.2.2 t (by have := h.1; omega)).1).trans a3, a4⟩
  · rw [c 244 (by decide), c 245 (by decide)]
    intro t ht hk
    exact h5 t ht ((hF.2.2 t (by have := h.1; omega)).1.symm.trans hk)
  · rw [c 247 (by decide), c 248 (by decide), c 239 (by decide), c 249 (by decide), c 246 (by decide), c 241 (by decide)]
    intro r e hr he
    obtain ⟨t, a1, a2, a3, a4⟩ := h6 r e hr he
    refine ⟨t, a1, a2, ?_, ?_⟩
    · rw [(mFr_all h hF a1).2.2]
      exact a3
    · rw [(mFr_all h hF a1).2.2]
      intro hs u hu ha
      obtain ⟨e', b1, b2, b3⟩ := a4 hs u hu ha
      refine ⟨e', b1, b2, ?_⟩
      obtain ⟨t', d1, d2, -⟩ := h6 r e' hr (by omega)
      rw [d2, fN_nI (by have := h.1; omega)] at b3 ⊢
      rw [(mFr_all h hF d1).2.2]
      exact b3
theorem mFr_Sn {σ τ : kS} {n b R s dn : Nat} (h : mTb σ n b) (hR : mRo σ n R) (hF : mFr σ τ n) (hS : mSn σ n R s dn) : mSn τ n R s dn := by
  obtain ⟨r, h1, h2, h3, h4, h5, h6, h7⟩ := hS
  have c := fun c (hc : c ∉ rowC) => hF.1 c hc
  refine ⟨r, h1, ?_, ?_, ?_, fun k hk => ?_, fun e he => ?_, ?_⟩
  · rw [c 255 (by decide)]; exact h2
  · rw [c 264 (by decide)]; exact h3
  · rw [c 247 (by decide)]; exact h4
  · have := h5 k hk
    unfold mVk at this ⊢
    rw [c 265 (by decide), c 244 (by decide), c 246 (by decide), c 240 (by decide), c 245 (by decide)]
    rcases this with q | ⟨z, q1, q2, q3, q4, q5⟩
    · exact Or.inl q
    · refine Or.inr ⟨z, q1, q2, (mFr_all h hF q1).2.1.trans q3, q4, ?_⟩
      rw [(hF.2.2 z (by have := h.1; omega)).1]
      exact q5
  · rw [c 248 (by decide)]
    obtain ⟨t, d1, d2, -⟩ := hR.2.2.2.2.2 r e h1 (by omega)
    have := h6 e he
    rw [d2, fN_nI (by have := h.1; omega)] at this ⊢
    exact mFr_St h hF d1 this
  · rw [c 244 (by decide), c 246 (by decide), c 265 (by decide), c 249 (by decide), c 245 (by decide), c 248 (by decide)]
    intro k hk ha hv
    obtain ⟨e, e1, e2, e3⟩ := h7 k hk ha hv
    obtain ⟨t, d1, d2, -⟩ := hR.2.2.2.2.2 r e h1 (by omega)
    refine ⟨e, e1, e2, ?_⟩
    rw [d2, fN_nI (by have := h.1; omega)] at e3 ⊢
    rw [(mFr_all h hF d1).2.2]
    exact e3
theorem mFr_Rn {σ τ : kS} {n b R S : Nat} {ds : List Nat} (h : mTb σ n b) (hR : mRo σ n R) (hF : mFr σ τ n) (hS : mRn σ n R S ds) : mRn τ n R S ds := by
  obtain ⟨h1, h2, h3, h4⟩ := hS
  refine ⟨(hF.2.1 _ (by decide)).trans h1, ?_, h3, fun s hs => mFr_Sn h hR hF (h4 s hs)⟩
  rw [hF.1 274 (by decide)]
  exact h2
theorem mFr_Se {σ τ : kS} {n b R S : Nat} (h : mTb σ n b) (hF : mFr σ τ n) (hS : mSe σ n R S) : mSe τ n R S := by
  obtain ⟨h1, h2, h3⟩ := hS
  have c := fun c (hc : c ∉ rowC) => hF.1 c hc
  refine ⟨h1, (hF.2.1 _ (by decide)).trans h2, ?_⟩
  rw [c 255 (by decide), c 250 (by decide), c 244 (by decide), c 246 (by decide), c 256 (by decide), c 240 (by decide), c 245 (by decide)]
  intro s hs
  obtain ⟨r, a1, a2, a3, a4⟩ := h3 s hs
  refine ⟨r, a1, a2, a3, fun k hk => ?_⟩
  obtain ⟨as, b1, b2⟩ := a4 k hk
  refine ⟨as, b1, ?_⟩
  rcases b2 with b2 | ⟨b2, z, b3, b4, b5⟩
  · exact Or.inl b2
  · exact Or.inr ⟨b2, z, b3, b4, (hF.2.2 z (by have := h.1; omega)).1.trans b5⟩
theorem mFr_Kn {σ τ : kS} {n b : Nat} {kl : List Nat} (h : mTb σ n b) (hF : mFr σ τ n) (hK : mKn σ n kl) : mKn τ n kl := by
  obtain ⟨h1, h2, h3, h4⟩ := hK
  refine ⟨(hF.2.1 _ (by decide)).trans h1, h2, ?_, fun t ht => ⟨(h4 t ht).1, (mFr_all h hF (h4 t ht).1).2.1.trans (h4 t ht).2⟩⟩
  rw [hF.1 254 (by decide)]
  exact h3
end
section
/-! the reference: the row of the RUN -/
theorem mFr_tin {σ τ : kS} {n b s : Nat} (h : mTb σ n b) (hF : mFr σ τ n) : ∀ t, t < n → mSt σ n s t → tin τ s t = tin σ s t := by
  have hn := h.1
  have hF2 : ∀ u, u < n → τ 233 u = σ 233 u ∧ τ 234 u = σ 234 u ∧ τ 235 u = σ 235 u := fun u hu => hF.2.2 u (by omega)
  have hV := mTb_num h
  have hV' : ∀ t, t < n → t < 100000 ∧ tOk (fun u => u < n) (mAG σ n) (τ 233) (τ 234) (τ 235) t := fun t ht => by
    obtain ⟨e1, e2, e3⟩ := hF2 t ht
    exact ⟨(hV t ht).1, tOk_mono (fun _ _ q => q) (fun _ _ q => q) e1 e2 e3 (hV t ht).2⟩
  intro t
  induction t using Nat.strongRecOn with
  | _ t ih =>
    intro ht hst
    obtain ⟨e1, e2, e3⟩ := hF2 t ht
    rcases (hV t ht).2 with ⟨k, h3, hk, -, -⟩ | ⟨k, x, y, h3, hk, hx, hy, h4, h5, h6, h7⟩ | ⟨k, x, h3, hk, hx, hy, h4, h6⟩
    · unfold tin
      rw [tA_0 (e1.trans hk) h3, tA_0 hk h3, e1]
      by_cases hk3 : σ 233 t = nI 3
      · rw [if_pos hk3, if_pos hk3]
        have hu : t ∈ tvs (σ 233) (σ 234) (σ 235) t := by
          unfold tvs
          rw [tA_0 hk h3, if_pos hk3]
          exact List.mem_singleton.mpr rfl
        obtain ⟨p, z, hp, hz, a1, a2, a3, a4⟩ := hst t hu
        have ev : mVl τ s t = z := by
          unfold mVl
          rw [hF.1 241 (by decide), hF.1 265 (by decide), a1, fN_nI (by omega), a2, fN_nI (by omega)]
        have ev' : mVl σ s t = z := by
          unfold mVl
          rw [a1, fN_nI (by omega), a2, fN_nI (by omega)]
        rw [ev, ev']
        exact (mFr_all h hF hz).1
      · rw [if_neg hk3, if_neg hk3]
    · have evs : tvs (σ 233) (σ 234) (σ 235) t = tvs (σ 233) (σ 234) (σ 235) x ++ tvs (σ 233) (σ 234) (σ 235) y := tA_2 hV hk hx hy (by omega) (by omega) h4 h5 h6 h7
      have ix := ih x h4 h6 (fun u hu => hst u (by rw [evs]; exact List.mem_append_left _ hu))
      have iy := ih y h5 h7 (fun u hu => hst u (by rw [evs]; exact List.mem_append_right _ hu))
      unfold tin at ix iy ⊢
      rw [tA_2 hV' (e1.trans hk) (e2.trans hx) (e3.trans hy) (by omega) (by omega) h4 h5 h6 h7, tA_2 hV hk hx hy (by omega) (by omega) h4 h5 h6 h7, ix, iy]
    · have evs : tvs (σ 233) (σ 234) (σ 235) t = tvs (σ 233) (σ 234) (σ 235) x ++ [] := tA_1 hV hk hx hy (by omega) (by omega) h4 h6
      have ix := ih x h4 h6 (fun u hu => hst u (by rw [evs]; exact List.mem_append_left _ hu))
      unfold tin at ix ⊢
      rw [tA_1 hV' (e1.trans hk) (e2.trans hx) (e3.trans hy) (by omega) (by omega) h4 h6, tA_1 hV hk hx hy (by omega) (by omega) h4 h6, ix]
/-- a row l in the making, as the trees tr -/
def mBd (σ τ : kS) (n b : Nat) (l : rwT) (tr : trT) : Prop := mFr σ τ n ∧ mTb τ n b ∧ mRq τ (mvG τ n b) l ∧ mJd τ n b l ∧ rwM τ l = tr
theorem mBd_comes {σ τ ρ : kS} {n b b' u : Nat} {l : rwT} {tr : trT} {I R H M : Nat → Int32} {w p : Int32} (h : mBd σ τ n b l tr) (hE : mEx τ ρ n b b') (hu : mv n b' u) (hg : tgd (ρ 233) (ρ 234) (ρ 235) u = true) (hq : mRq (mRu ρ I R H M (upd (ρ 232) 46 (nI (rwA l u w p).length))) (mvG ρ n b') (rwA l u w p)) :
    mBd σ (mRu ρ I R H M (upd (ρ 232) 46 (nI (rwA l u w p).length))) n b' (rwA l u w p) (trA tr (tvl (ρ 233) (ρ 234) (ρ 235) u) w p) := by
  obtain ⟨h1, h2, h3, h4, h5⟩ := h
  obtain ⟨g1, g2⟩ := mRq_ex h2 hE h3
  have g3 := mJd_ex h2 hE h3.2.2.1 h4
  have hF : rwF ρ (mRu ρ I R H M (upd (ρ 232) 46 (nI (rwA l u w p).length))) := rwF_mRu
  refine ⟨mFr_trans h1 (mFr_trans (mFr_ex hE h2.2.1) (mFr_rwF hF)), rwF_Tb hF hE.1, hq, mJd_comes (mRq_len g1) g3, ?_⟩
  show rwM ρ (rwA l u w p) = _
  rw [rwM_A hE.1 g1.2.2.1 hu, g2, h5]
/-- what is known at first, as trees -/
noncomputable def trKn (σ : kS) (kl : List Nat) : trT := kl.foldl (fun l t => trA l (tvl (σ 233) (σ 234) (σ 235) t) (nI 0) (-6)) []
theorem rwM_Kn {σ : kS} {n b : Nat} (h : mTb σ n b) : ∀ kl : List Nat, (∀ t ∈ kl, t < n ∧ tgd (σ 233) (σ 234) (σ 235) t = true) → rwM σ (knR kl) = trKn σ kl ∧ ∀ t, rwI (knR kl) t → mvG σ n b t := by
  intro kl
  have key : ∀ (kl : List Nat) (l : rwT) (tr : trT), (∀ t ∈ kl, t < n ∧ tgd (σ 233) (σ 234) (σ 235) t = true) → rwM σ l = tr → (∀ t, rwI l t → mvG σ n b t) → rwM σ (kl.foldl (fun l t => rwA l t (nI 0) (-6)) l) = kl.foldl (fun l t => trA l (tvl (σ 233) (σ 234) (σ 235) t) (nI 0) (-6)) tr ∧ ∀ t, rwI (kl.foldl (fun l t => rwA l t (nI 0) (-6)) l) t → mvG σ n b t := by
    intro kl
    induction kl with
    | nil => exact fun l tr _ e hl => ⟨e, hl⟩
    | cons a kl ih =>
      intro l tr hk e hl
      have ha := hk a List.mem_cons_self
      refine ih _ _ (fun t ht => hk t (List.mem_cons_of_mem _ ht)) ?_ (fun t ht => ?_)
      · rw [rwM_A h hl (Or.inl ha.1), e]
      · rcases rwI_A ht with ht | rfl
        · exact hl t ht
        · exact ⟨Or.inl ha.1, ha.2⟩
  exact fun hk => key kl [] [] hk rfl (fun t ht => by obtain ⟨q, hq, -⟩ := ht; cases hq)
/-- the EVENT of the session s behind c of them -/
def mEv (σ : kS) (s c : Nat) : Nat := 6 * fN (σ 255 s) + c
/-- what was sent in the first k EVENTS of the RUN -/
noncomputable def trSn (σ : kS) (ds : List Nat) (tr : trT) : Nat → trT
  | 0 => tr
  | k + 1 => cit (σ 249 (mEv σ (ds.getD k 0) ((ds.take k).count (ds.getD k 0))) ≠ 0) (trA (trSn σ ds tr k) (tin σ (ds.getD k 0) (fN (σ 248 (mEv σ (ds.getD k 0) ((ds.take k).count (ds.getD k 0)))))) (nI 1) (-6)) (trSn σ ds tr k)
/-- the row of the RUN, as trees -/
noncomputable def trRun (σ : kS) (kl ds : List Nat) : trT := trE (mA σ) (σ 238) 1001 (trSn σ ds (trKn σ kl) ds.length)
theorem count_take_le (ds : List Nat) (s k : Nat) : (ds.take k).count s ≤ ds.count s := (List.take_sublist k ds).count_le s
theorem mRn_len {σ : kS} {n R S : Nat} {ds : List Nat} (hR : mRo σ n R) (hS4 : S ≤ 4) (h : mRn σ n R S ds) : ds.length ≤ 24 := by
  have hc : ∀ s, ds.count s ≤ 6 := fun s => by
    by_cases hs : s < S
    · obtain ⟨r, h1, -, -, h4, -⟩ := h.2.2.2 s hs
      obtain ⟨-, e, he, ee⟩ := hR.2.2.1 r h1
      rw [ee, fN_nI (by omega)] at h4
      omega
    · have : ds.count s = 0 := List.count_eq_zero.mpr (fun q => hs (h.2.2.1 s q))
      omega
  have key : ∀ (l : List Nat), (∀ s ∈ l, s < 4) → l.length = l.count 0 + l.count 1 + l.count 2 + l.count 3 := by
    intro l
    induction l with
    | nil => intro _; rfl
    | cons a l ih =>
      intro hl
      have h1 := ih (fun s hs => hl s (List.mem_cons_of_mem _ hs))
      have ha := hl a List.mem_cons_self
      rw [List.length_cons, h1, List.count_cons, List.count_cons, List.count_cons, List.count_cons]
      obtain rfl | rfl | rfl | rfl : a = 0 ∨ a = 1 ∨ a = 2 ∨ a = 3 := by omega
      all_goals simp
      all_goals omega
  rw [key ds (fun s hs => by have := h.2.2.1 s hs; omega)]
  have := hc 0
  have := hc 1
  have := hc 2
  have := hc 3
  omega
set_option maxRecDepth 100000 in
set_option maxHeartbeats 4000000 in
theorem mr_runRow (L : Nat) (xs : Nat → Int32) (d : Nat) (σ : kS) (n b R S : Nat) (kl ds : List Nat) (h : mTb σ n b) (hk : mKn σ n kl) (hR : mRo σ n R) (hS4 : S ≤ 4) (hS : mRn σ n R S ds) (hz : σ 232 47 = 0) : kXM kT L xs (d + 7) 190 [.ref 232] σ (fun r σ' => r = none ∧ σ' 232 47 = 1 ∧ ∃ b' l, b' ≤ 776 ∧ mBd σ σ' n b' l (trRun σ kl ds)) := by
  have hn := h.1
  have hlen := mRn_len hR hS4 hS
  unfold kXM
  iterate 2 (refine kX_one rfl ?_)
  refine kX_top (hz) ?_
  iterate 2 (refine kX_one rfl ?_)
  refine kX_cal (mr_beginRow L xs (d + 4) σ n b kl h hk) rfl (Or.inr rfl) rfl rfl rfl (fun r1 σ1 q1 => ?_)
  obtain ⟨rfl, ⟨hd, jd, f1, f0⟩, f2, f3⟩ := q1
  have hF1 : mFr σ σ1 n := mFr_trans (mFr_Rl σ n hd jd) (mFr_rwF f1)
  have hT1 : mTb σ1 n 200 := rwF_Tb f1 f0
  have hg1 : mvG σ1 n 200 = mvG σ n 200 := by
    rw [rwF_mvG f1]
    rfl
  have hB1 : mBd σ σ1 n 200 (knR kl) (trKn σ kl) := by
    refine ⟨hF1, hT1, by rw [hg1]; exact f2, f3, ?_⟩
    have e := (rwM_Kn f0 kl hk.2.2.2).1
    obtain ⟨⟨Mk, I, RR, H, M, o, rfl⟩, -⟩ := f1
    exact e
  iterate 2 (refine kX_one rfl ?_)
  /- the counters -/
  have loopA := kX_while (T := kT) (L := L) (xs := xs) (d := d + 7) (mi := 190) (pc := 14) (Q := fun r σ' => r = none ∧ σ' 232 47 = 1 ∧ ∃ b' l, b' ≤ 776 ∧ mBd σ σ' n b' l (trRun σ kl ds))
    (fun q : Nat × (Nat → Int32) => [(1, .int (nI q.1)), (0, .ref 232)]) (fun q => va_up σ1 276 q.2) (fun q => q.1 ≤ 4 ∧ ∀ u, u < q.1 → q.2 u = 0) (fun q => 4 - q.1) ?_ (0, σ1 276) ⟨Nat.zero_le _, fun u hu => absurd hu (Nat.not_lt_zero u)⟩
  · rw [kup_self] at loopA
    exact loopA
  · rintro ⟨i, f⟩ ⟨i1, i2⟩ ih
    dsimp only at i1 i2 ih ⊢
    repeat refine kX_one rfl ?_
    refine kX_if (fun q => ?_) (fun q => ?_)
    · have q := qge q i 4
      obtain rfl : i = 4 := by omega
      iterate 2 (refine kX_one rfl ?_)
      have hB2 : mBd σ (va_up σ1 276 f) n 200 (knR kl) (trKn σ kl) := ⟨mFr_trans hF1 (mFr_sent σ1 n f), hT1, hB1.2.2.1, hB1.2.2.2.1, hB1.2.2.2.2⟩
      have loopB := kX_while (T := kT) (L := L) (xs := xs) (d := d + 7) (mi := 190) (pc := 34) (Q := fun r σ' => r = none ∧ σ' 232 47 = 1 ∧ ∃ b' l, b' ≤ 776 ∧ mBd σ σ' n b' l (trRun σ kl ds))
        (fun q : Nat × Nat × rwT × kS => [(1, .int (nI q.1)), (0, .ref 232)]) (fun q => q.2.2.2) (fun q => q.1 ≤ ds.length ∧ q.2.1 ≤ 200 + 24 * q.1 ∧ mBd σ q.2.2.2 n q.2.1 q.2.2.1 (trSn σ ds (trKn σ kl) q.1) ∧ ∀ s, s < 4 → q.2.2.2 276 s = nI ((ds.take q.1).count s)) (fun q => ds.length - q.1) ?_ (0, 200, knR kl, va_up σ1 276 f) ⟨Nat.zero_le _, by simp only; omega, hB2, fun s hs => i2 s hs⟩
      · exact loopB
      · rintro ⟨k, b', l, τ⟩ ⟨j1, j2, j3, j4⟩ ih2
        dsimp only at j1 j2 j3 j4 ih2 ⊢
        have hRn := mFr_Rn h hR j3.1 hS
        have hRo := mFr_Ro h j3.1 hR
        iterate 3 (refine kX_one rfl ?_)
        refine kX_top (hRn.1) ?_
        repeat refine kX_one rfl ?_
        refine kX_if (fun q2 => ?_) (fun q2 => ?_)
        · have q2 := qge q2 k ds.length
          obtain rfl : k = ds.length := by omega
          repeat refine kX_one rfl ?_
          refine kX_cal (mr_endRow L xs d τ n b' l j3.2.1 j3.2.2.1 j3.2.2.2.1) rfl (Or.inr rfl) rfl rfl rfl (fun r1 σ2 q1 => ?_)
          obtain ⟨rfl, e1, e2, e3⟩ := q1
          repeat refine kX_one rfl ?_
          refine kX_ret (i := .return_) (len := 1) rfl (Or.inr rfl) rfl ⟨rfl, rfl, b', enR τ 1001 l, by omega, mFr_trans (mFr_trans j3.1 (mFr_rwF e1)) (mFr_rit σ2 n 1), ?_, ?_, e3, ?_⟩
          · have hTb : mTb σ2 n b' := rwF_Tb e1 j3.2.1
            exact hTb
          · have hg := rwF_mvG e1 n b'
            have e2' : mRq σ2 (mvG σ2 n b') (enR τ 1001 l) := by rw [hg]; exact e2
            exact e2'
          · show rwM σ2 (enR τ 1001 l) = _
            have hr : rwM σ2 (enR τ 1001 l) = rwM τ (enR τ 1001 l) := by
              obtain ⟨⟨Mk, I, RR, H, M, o, rfl⟩, -⟩ := e1
              rfl
            rw [hr, (rwM_E j3.2.1 1001 l j3.2.2.1.2.2.1).1, j3.2.2.2.2]
            unfold trRun
            have hA : mA τ = mA σ := funext fun t => propext ⟨fun q => ⟨q.1, (j3.1.2.2 t q.1).1.symm.trans q.2⟩, fun q => ⟨q.1, (j3.1.2.2 t q.1).1.trans q.2⟩⟩
            rw [hA, j3.1.1 238 (by decide)]
        · have q2 := qgeF q2 k ds.length
          obtain ⟨s, hsd⟩ : ∃ s, ds[k] = s := ⟨_, rfl⟩
          have hsS : s < S := by rw [← hsd]; exact hS.2.2.1 _ (List.getElem_mem q2)
          have hs4 : s < 4 := by omega
          have hgd : ds.getD k 0 = s := by rw [List.getD_eq_getElem?_getD, List.getElem?_eq_getElem q2]; exact hsd
          have hcnt : (ds.take (k + 1)).count s = (ds.take k).count s + 1 := by
            rw [List.take_succ_eq_append_getElem q2, List.count_append, hsd]
            simp
          have hlt : (ds.take k).count s < ds.count s := by
            have := count_take_le ds s (k + 1)
            omega
          obtain ⟨r, r1, r2, r3, r4, r5, r6⟩ := hS.2.2.2 s hsS
          obtain ⟨-, ev, he6, hev⟩ := hR.2.2.1 r r1
          have hcn : (ds.take k).count s < 6 := by
            rw [hev, fN_nI (by omega)] at r4
            omega
          have hR4 := hR.1
          obtain ⟨t, t1, t2, -, -⟩ := hR.2.2.2.2.2 r ((ds.take k).count s) r1 (by omega)
          have hst := r6.1 _ hlt
          rw [t2, fN_nI (by omega)] at hst
          have hmev : mEv σ s ((ds.take k).count s) = 6 * r + (ds.take k).count s := by
            unfold mEv
            rw [r2, fN_nI (by omega)]
          repeat refine kX_one rfl ?_
          refine kX_ialdV (v := nI s) rfl rfl (by decide) k rfl (by omega) (by rw [← hsd]; exact hRn.2.1 k q2) ?_
          repeat refine kX_one rfl ?_
          refine kX_ialdV (v := nI r) rfl rfl (by decide) s rfl (by omega) (by rw [j3.1.1 255 (by decide)]; exact r2) ?_
          repeat refine kX_one rfl ?_
          refine kX_ialdV (v := nI ((ds.take k).count s)) rfl rfl (by decide) s rfl (by omega) (j4 s hs4) ?_
          iterate 1 (refine kX_one rfl ?_)
          refine kX_top (ix6 r _) ?_
          repeat refine kX_one rfl ?_
          refine kX_baldV (v := σ 249 (6 * r + (ds.take k).count s)) rfl rfl (by decide) _ rfl (by omega) (by rw [j3.1.1 249 (by decide)]) ?_
          /- behind the EVENT -/
          have back : ∀ (τ2 : kS) (b2 : Nat) (l2 : rwT), b2 ≤ b' + 24 → mBd σ τ2 n b2 l2 (trSn σ ds (trKn σ kl) (k + 1)) → (∀ s, s < 4 → τ2 276 s = nI ((ds.take k).count s)) → kX kT L xs (d + 7) 190 93 [(2, .int (nI s)), (1, .int (nI k)), (0, .ref 232)] [] τ2 (fun r σ' => r = none ∧ σ' 232 47 = 1 ∧ ∃ b' l, b' ≤ 776 ∧ mBd σ σ' n b' l (trRun σ kl ds)) := by
            intro τ2 b2 l2 g1 g2 g3
            repeat refine kX_one rfl ?_
            refine kX_ialdV (v := nI ((ds.take k).count s)) rfl rfl (by decide) s rfl (by omega) (g3 s hs4) ?_
            iterate 2 (refine kX_one rfl ?_)
            refine kX_top (nI_1 _) ?_
            refine kX_iastN rfl rfl (by decide) (s) (by first | rfl | decide) (by omega) ?_
            iterate 2 (refine kX_one rfl ?_)
            have := ih2 (k + 1, b2, l2, va_up τ2 276 (upd (τ2 276) s (nI ((ds.take k).count s + 1)))) ⟨by simp only; omega, by simp only; omega, ⟨mFr_trans g2.1 (mFr_sent τ2 n _), g2.2⟩, fun s' hs' => by
              simp only
              show upd (τ2 276) s (nI ((ds.take k).count s + 1)) s' = _
              by_cases e : s' = s
              · subst e
                rw [pk_us, hcnt]
              · rw [pk_un e, g3 s' hs', List.take_succ_eq_append_getElem q2, List.count_append, hsd]
                have : [s].count s' = 0 := by simp [Ne.symm e]
                rw [this, Nat.add_zero]⟩ (by simp only; omega)
            rw [← nI_1] at this
            exact kX_lv _ rfl rfl rfl this
          repeat refine kX_one rfl ?_
          refine kX_if (fun q3 => ?_) (fun q3 => ?_)
          · have q3 : σ 249 (6 * r + (ds.take k).count s) = 0 := qeq q3
            refine kX_lv [(2, .int (nI s)), (1, .int (nI k)), (0, .ref 232)] rfl rfl rfl ?_
            refine back τ b' l (by omega) ?_ j4
            have e : trSn σ ds (trKn σ kl) (k + 1) = trSn σ ds (trKn σ kl) k := by
              rw [trSn, hgd, hmev]
              exact cit_F (fun z => z q3)
            rw [e]
            exact j3
          · have q3 : σ 249 (6 * r + (ds.take k).count s) ≠ 0 := qeqF q3
            have e : trSn σ ds (trKn σ kl) (k + 1) = trA (trSn σ ds (trKn σ kl) k) (tin σ s t) (nI 1) (-6) := by
              rw [trSn, hgd, hmev, cit_T q3, t2, fN_nI (by omega)]
            repeat refine kX_one rfl ?_
            refine kX_ialdV (v := nI t) rfl rfl (by decide) _ rfl (by omega) (by rw [j3.1.1 248 (by decide)]; exact t2) ?_
            refine kX_cal (mr_standsFor L xs (d + 1) τ n b' s t j3.2.1 (by omega) hs4 t1 (mFr_St h j3.1 t1 hst)) rfl (Or.inr rfl) rfl rfl rfl (fun r1 ρ q1 => ?_)
            obtain ⟨u, b2, rfl, g1, g2, g3, g4, g5⟩ := q1
            obtain ⟨m1, m2⟩ := mRq_ex j3.2.1 g1 j3.2.2.1
            repeat refine kX_one rfl ?_
            refine kX_cal (mr_comes L xs (d + 5) ρ (mvG ρ n b2) l u (nI 1) (-6) m1 (by have := g1.1.2.2.1; unfold mv at g3; omega) ⟨g3, g5⟩) rfl (Or.inr rfl) rfl rfl rfl (fun r1 σ2 q1 => ?_)
            obtain ⟨rfl, c1, I, RR, H, M, rfl⟩ := q1
            have hB3 := mBd_comes j3 g1 g3 g5 c1
            rw [g4, mFr_tin h j3.1 t t1 hst, ← e] at hB3
            refine kX_lv [(2, .int (nI s)), (1, .int (nI k)), (0, .ref 232)] rfl rfl rfl ?_
            refine back _ b2 _ g2 hB3 (fun s' hs' => ?_)
            show ρ 276 s' = _
            have : ρ 276 = τ 276 := by
              obtain ⟨-, -, -, K, F, SS, Z, G, nx, hd, N, II, rfl⟩ := g1
              rfl
            rw [this]
            exact j4 s' hs'
    · have q := qgeF q i 4
      repeat refine kX_one rfl ?_
      refine kX_iastN rfl rfl (by decide) (i) (by first | rfl | decide) (by omega) ?_
      iterate 2 (refine kX_one rfl ?_)
      rw [kup_up]
      have := ih (i + 1, upd f i 0) ⟨by simp only; omega, fun u hu => by
        simp only at hu ⊢
        by_cases e : u = i
        · subst e
          exact pk_us
        · rw [pk_un e]
          exact i2 u (by omega)⟩ (by simp only; omega)
      rw [← nI_1] at this
      exact this
end
section
/-! the reference: the row of a STATE -/
noncomputable def trSe (σ : kS) (s : Nat) (tr : trT) : Nat → trT
  | 0 => tr
  | e + 1 => cit (σ 249 (mEv σ s e) ≠ 0) (trA (trSe σ s tr e) (tin σ s (fN (σ 248 (mEv σ s e)))) (nI 1) (-6)) (trSe σ s tr e)
noncomputable def trSs (σ : kS) (tr : trT) : Nat → trT
  | 0 => tr
  | s + 1 => trSe σ s (trSs σ tr s) (fN (σ 264 s))
/-- the row of the STATE that stands in doing and value, as trees -/
noncomputable def trSt (σ : kS) (kl : List Nat) (S : Nat) : trT := trE (mA σ) (σ 238) 1001 (trSs σ (trKn σ kl) S)
/-- where all SESSIONS stand -/
def mSv (σ : kS) (n R S : Nat) : Prop := σ 232 27 = nI S ∧ ∀ s, s < S → mSn σ n R s (fN (σ 264 s))
theorem mFr_Sv {σ τ : kS} {n b R S : Nat} (h : mTb σ n b) (hR : mRo σ n R) (hF : mFr σ τ n) (hS : mSv σ n R S) : mSv τ n R S := by
  refine ⟨(hF.2.1 _ (by decide)).trans hS.1, fun s hs => ?_⟩
  rw [hF.1 264 (by decide)]
  exact mFr_Sn h hR hF (hS.2 s hs)
set_option maxRecDepth 100000 in
set_option maxHeartbeats 4000000 in
theorem mr_stateRow (L : Nat) (xs : Nat → Int32) (d : Nat) (σ : kS) (n b R S : Nat) (kl : List Nat) (h : mTb σ n b) (hk : mKn σ n kl) (hR : mRo σ n R) (hS4 : S ≤ 4) (hS : mSv σ n R S) : kXM kT L xs (d + 7) 211 [.ref 232] σ (fun r σ' => r = none ∧ σ' 232 47 = σ 232 47 ∧ ∃ b' l, b' ≤ 776 ∧ mBd σ σ' n b' l (trSt σ kl S)) := by
  have hn := h.1
  unfold kXM
  iterate 1 (refine kX_one rfl ?_)
  refine kX_cal (mr_beginRow L xs (d + 4) σ n b kl h hk) rfl (Or.inr rfl) rfl rfl rfl (fun r1 σ1 q1 => ?_)
  obtain ⟨rfl, ⟨hd, jd, f1, f0⟩, f2, f3⟩ := q1
  have hF1 : mFr σ σ1 n := mFr_trans (mFr_Rl σ n hd jd) (mFr_rwF f1)
  have hT1 : mTb σ1 n 200 := rwF_Tb f1 f0
  have hg1 : mvG σ1 n 200 = mvG σ n 200 := by
    rw [rwF_mvG f1]
    rfl
  have hB1 : mBd σ σ1 n 200 (knR kl) (trKn σ kl) := by
    refine ⟨hF1, hT1, by rw [hg1]; exact f2, f3, ?_⟩
    have e := (rwM_Kn f0 kl hk.2.2.2).1
    obtain ⟨⟨Mk, I, RR, H, M, o, rfl⟩, -⟩ := f1
    exact e
  have hrt1 : σ1 232 47 = σ 232 47 := f1.2 _ (by decide) (by decide) (by decide)
  iterate 2 (refine kX_one rfl ?_)
  have loopA := kX_while (T := kT) (L := L) (xs := xs) (d := d + 7) (mi := 211) (pc := 6) (Q := fun r σ' => r = none ∧ σ' 232 47 = σ 232 47 ∧ ∃ b' l, b' ≤ 776 ∧ mBd σ σ' n b' l (trSt σ kl S))
    (fun q : Nat × Nat × rwT × kS => [(1, .int (nI q.1)), (0, .ref 232)]) (fun q => q.2.2.2) (fun q => q.1 ≤ S ∧ q.2.1 ≤ 200 + 144 * q.1 ∧ mBd σ q.2.2.2 n q.2.1 q.2.2.1 (trSs σ (trKn σ kl) q.1) ∧ q.2.2.2 232 47 = σ 232 47) (fun q => S - q.1) ?_ (0, 200, knR kl, σ1) ⟨Nat.zero_le _, by simp only; omega, hB1, hrt1⟩
  · exact loopA
  · rintro ⟨s, b0, l0, τ0⟩ ⟨i1, i2, i3, i4⟩ ih
    dsimp only at i1 i2 i3 i4 ih ⊢
    have hSv0 := mFr_Sv h hR i3.1 hS
    iterate 3 (refine kX_one rfl ?_)
    refine kX_top (hSv0.1) ?_
    repeat refine kX_one rfl ?_
    refine kX_if (fun q => ?_) (fun q => ?_)
    · have q := qge q s S
      obtain rfl : s = S := by omega
      repeat refine kX_one rfl ?_
      refine kX_cal (mr_endRow L xs d τ0 n b0 l0 i3.2.1 i3.2.2.1 i3.2.2.2.1) rfl (Or.inr rfl) rfl rfl rfl (fun r1 σ2 q1 => ?_)
      obtain ⟨rfl, e1, e2, e3⟩ := q1
      refine kX_ret (i := .return_) (len := 1) rfl (Or.inr rfl) rfl ⟨rfl, (e1.2 _ (by decide) (by decide) (by decide)).trans i4, b0, enR τ0 1001 l0, by omega, mFr_trans i3.1 (mFr_rwF e1), rwF_Tb e1 i3.2.1, by rw [rwF_mvG e1]; exact e2, e3, ?_⟩
      have hr : rwM σ2 (enR τ0 1001 l0) = rwM τ0 (enR τ0 1001 l0) := by
        obtain ⟨⟨Mk, I, RR, H, M, o, rfl⟩, -⟩ := e1
        rfl
      rw [hr, (rwM_E i3.2.1 1001 l0 i3.2.2.1.2.2.1).1, i3.2.2.2.2]
      unfold trSt
      have hA : mA τ0 = mA σ := funext fun t => propext ⟨fun q => ⟨q.1, (i3.1.2.2 t q.1).1.symm.trans q.2⟩, fun q => ⟨q.1, (i3.1.2.2 t q.1).1.trans q.2⟩⟩
      rw [hA, i3.1.1 238 (by decide)]
    · have q := qgeF q s S
      have hs4 : s < 4 := by omega
      obtain ⟨r, r1, r2, r3, r4, r5, r6⟩ := hS.2 s q
      obtain ⟨-, ev, he6, hev⟩ := hR.2.2.1 r r1
      have hR4 := hR.1
      obtain ⟨dn, hdn⟩ : ∃ dn, fN (σ 264 s) = dn := ⟨_, rfl⟩
      rw [hdn] at r3 r4 r6
      have hdn6 : dn ≤ 6 := by
        rw [hev, fN_nI (by omega)] at r4
        omega
      iterate 2 (refine kX_one rfl ?_)
      have loopB := kX_while (T := kT) (L := L) (xs := xs) (d := d + 7) (mi := 211) (pc := 16) (Q := fun r σ' => r = none ∧ σ' 232 47 = σ 232 47 ∧ ∃ b' l, b' ≤ 776 ∧ mBd σ σ' n b' l (trSt σ kl S))
        (fun q : Nat × Nat × rwT × kS => [(2, .int (nI q.1)), (1, .int (nI s)), (0, .ref 232)]) (fun q => q.2.2.2) (fun q => q.1 ≤ dn ∧ q.2.1 ≤ b0 + 24 * q.1 ∧ mBd σ q.2.2.2 n q.2.1 q.2.2.1 (trSe σ s (trSs σ (trKn σ kl) s) q.1) ∧ q.2.2.2 232 47 = σ 232 47) (fun q => dn - q.1) ?_ (0, b0, l0, τ0) ⟨Nat.zero_le _, Nat.le_refl _, i3, i4⟩
      · exact loopB
      · rintro ⟨e, b', l, τ⟩ ⟨j1, j2, j3, j4⟩ ih2
        dsimp only at j1 j2 j3 j4 ih2 ⊢
        have back : ∀ (τ2 : kS) (b2 : Nat) (l2 : rwT), e < dn → b2 ≤ b' + 24 → mBd σ τ2 n b2 l2 (trSe σ s (trSs σ (trKn σ kl) s) (e + 1)) → τ2 232 47 = σ 232 47 → kX kT L xs (d + 7) 211 65 [(2, .int (nI e)), (1, .int (nI s)), (0, .ref 232)] [] τ2 (fun r σ' => r = none ∧ σ' 232 47 = σ 232 47 ∧ ∃ b' l, b' ≤ 776 ∧ mBd σ σ' n b' l (trSt σ kl S)) := by
          intro τ2 b2 l2 g0 g1 g2 g3
          iterate 2 (refine kX_one rfl ?_)
          have := ih2 (e + 1, b2, l2, τ2) ⟨by simp only; omega, by simp only; omega, g2, g3⟩ (by simp only; omega)
          rw [← nI_1] at this
          exact this
        repeat refine kX_one rfl ?_
        refine kX_ialdV (v := nI dn) rfl rfl (by decide) s rfl (by omega) (by rw [j3.1.1 264 (by decide)]; exact r3) ?_
        repeat refine kX_one rfl ?_
        refine kX_if (fun q2 => ?_) (fun q2 => ?_)
        · have q2 := qge q2 e dn
          obtain rfl : e = dn := by omega
          iterate 2 (refine kX_one rfl ?_)
          have := ih (s + 1, b', l, τ) ⟨by simp only; omega, by simp only; omega, by
            show mBd σ τ n b' l (trSs σ (trKn σ kl) (s + 1))
            rw [trSs, hdn]
            exact j3, j4⟩ (by simp only; omega)
          rw [← nI_1] at this
          exact kX_lv _ rfl rfl rfl this
        · have q2 := qgeF q2 e dn
          obtain ⟨t, t1, t2, -, -⟩ := hR.2.2.2.2.2 r e r1 (by omega)
          have hst := r6.1 _ q2
          rw [t2, fN_nI (by omega)] at hst
          have hmev : mEv σ s e = 6 * r + e := by
            unfold mEv
            rw [r2, fN_nI (by omega)]
          repeat refine kX_one rfl ?_
          refine kX_ialdV (v := nI r) rfl rfl (by decide) s rfl (by omega) (by rw [j3.1.1 255 (by decide)]; exact r2) ?_
          iterate 3 (refine kX_one rfl ?_)
          refine kX_top (ix6 r _) ?_
          repeat refine kX_one rfl ?_
          refine kX_baldV (v := σ 249 (6 * r + e)) rfl rfl (by decide) _ rfl (by omega) (by rw [j3.1.1 249 (by decide)]) ?_
          repeat refine kX_one rfl ?_
          refine kX_if (fun q3 => ?_) (fun q3 => ?_)
          · have q3 : σ 249 (6 * r + e) = 0 := qeq q3
            refine kX_lv [(2, .int (nI e)), (1, .int (nI s)), (0, .ref 232)] rfl rfl rfl ?_
            refine back τ b' l q2 (by omega) ?_ j4
            have ee : trSe σ s (trSs σ (trKn σ kl) s) (e + 1) = trSe σ s (trSs σ (trKn σ kl) s) e := by
              rw [trSe, hmev]
              exact cit_F (fun z => z q3)
            rw [ee]
            exact j3
          · have q3 : σ 249 (6 * r + e) ≠ 0 := qeqF q3
            have ee : trSe σ s (trSs σ (trKn σ kl) s) (e + 1) = trA (trSe σ s (trSs σ (trKn σ kl) s) e) (tin σ s t) (nI 1) (-6) := by
              rw [trSe, hmev, cit_T q3, t2, fN_nI (by omega)]
            repeat refine kX_one rfl ?_
            refine kX_ialdV (v := nI t) rfl rfl (by decide) _ rfl (by omega) (by rw [j3.1.1 248 (by decide)]; exact t2) ?_
            refine kX_cal (mr_standsFor L xs (d + 1) τ n b' s t j3.2.1 (by omega) hs4 t1 (mFr_St h j3.1 t1 hst)) rfl (Or.inr rfl) rfl rfl rfl (fun r1 ρ q1 => ?_)
            obtain ⟨u, b2, rfl, g1, g2, g3, g4, g5⟩ := q1
            obtain ⟨m1, m2⟩ := mRq_ex j3.2.1 g1 j3.2.2.1
            repeat refine kX_one rfl ?_
            refine kX_cal (mr_comes L xs (d + 5) ρ (mvG ρ n b2) l u (nI 1) (-6) m1 (by have := g1.1.2.2.1; unfold mv at g3; omega) ⟨g3, g5⟩) rfl (Or.inr rfl) rfl rfl rfl (fun r1 σ2 q1 => ?_)
            obtain ⟨rfl, c1, I, RR, H, M, rfl⟩ := q1
            have hB3 := mBd_comes j3 g1 g3 g5 c1
            rw [g4, mFr_tin h j3.1 t t1 hst, ← ee] at hB3
            refine kX_lv [(2, .int (nI e)), (1, .int (nI s)), (0, .ref 232)] rfl rfl rfl ?_
            refine back _ b2 _ q2 g2 hB3 ?_
            have hρ : ρ 232 47 = τ 232 47 := by
              obtain ⟨-, -, -, K, F, SS, Z, G, nx, hd, N, II, rfl⟩ := g1
              rfl
            exact hρ.trans j4
end
