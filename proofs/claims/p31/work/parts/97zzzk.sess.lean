section
/-! alike: session, the class's half -/
/-- what newSession leaves -/
def nsP (σ ω : kS) (n R S C r vc : Nat) (a b c : Int32) : Prop := ∃ n' ho, cJ ω n' R (S + 1) C ∧ nsF σ ω n n' S r vc 6 a b c ho ∧ ω (23 + 35 * r) = upd (σ (23 + 35 * r)) 6 1 ∧ ω 15 = upd (σ 15) S (nI r) ∧ ω 16 = upd (σ 16) S ho ∧ (∀ j, j < 7 * S → ω 17 j = σ 17 j) ∧ (∀ j, j ≠ 6 → ω 13 j = σ 13 j) ∧ ∀ e, 13 ≤ e → e ≠ 13 → e ≠ 17 → e ≠ 15 → e ≠ 16 → e ≠ 23 + 35 * r → ω e = σ e
set_option maxRecDepth 100000 in
set_option maxHeartbeats 4000000 in
theorem mf_newSession (L : Nat) (xs : Nat → Int32) (d : Nat) (σ : kS) (n R S C r vc : Nat) (a b c : Int32) (h : cJ σ n R S C) (hS : S < 4) (hr : r < R) (hv6 : vc ≤ 6) (hvc : σ (23 + 35 * r) 3 = nI vc) (hP : cnt (fun k => σ (24 + 35 * r) k = 0) vc ≤ 3) (ha : 1 ≤ cnt (fun k => σ (24 + 35 * r) k = 0) vc → gV σ n a) (hb : 2 ≤ cnt (fun k => σ (24 + 35 * r) k = 0) vc → gV σ n b) (hc : 3 ≤ cnt (fun k => σ (24 + 35 * r) k = 0) vc → gV σ n c) (hM : mRo σ n R) (hAr : aR σ R) (hAt : aT σ n) (hn200 : n + hma σ r 1 vc ≤ 200) (hga : ∀ i, i < hma σ r 0 vc → ∃ z, z < n ∧ (if i = 0 then a else if i = 1 then b else c) = nI z ∧ σ 233 z = nI 0) (hon : σ 181 8 = 0) (hw : σ 196 5 = 0) (hl : σ 195 9 = -1) :
    kXM kT L xs (d + 5) 14 [.ref 13, .int (nI r), .int a, .int b, .int c] σ (fun q σ' => q = some (.int (nI S)) ∧ nsP σ σ' n R S C r vc a b c) := by
  have hR := h.2.1
  have hR4 := hR.1
  have hr4 : r < 4 := by omega
  have hSe := h.2.2.1
  obtain ⟨vc', ev, v1, e1, v2, e2, so1, ev1⟩ := hR.2.2 r hr
  obtain rfl : vc = vc' := nI_inj (hvc.symm.trans v2)
  unfold kXM
  iterate 2 (refine kX_one rfl ?_)
  refine kX_top (hSe.2.1) ?_
  iterate 1 (refine kX_one rfl ?_)
  repeat refine kX_one rfl ?_
  refine kX_if (fun q => ?_) (fun q => ?_)
  · have q := qge q S 4
    omega
  · iterate 2 (refine kX_one rfl ?_)
    refine kX_cal (mc_hasRole L xs (d + 3) σ R (nI r) hR4 hR.2.1) rfl (Or.inr rfl) rfl rfl rfl (fun r1 σ1 q1 => ?_)
    obtain ⟨rfl, rfl⟩ := q1
    repeat refine kX_one rfl ?_
    refine kX_ifT (by rw [isB_T ⟨r, hr, rfl⟩]; rfl) ?_
    iterate 3 (refine kX_one rfl ?_)
    refine kX_aaldN rfl (rfl) (by decide) (by decide) (by decide) (r) (by first | rfl | decide) (hr4) (ro_at hr4) ?_
    iterate 3 (refine kX_one rfl ?_)
    refine kX_top (hSe.2.1) ?_
    iterate 2 (refine kX_one rfl ?_)
    refine kX_top (y := nI (S * 7)) (by show nI S * nI 7 = _; rw [pk_mul]) ?_
    iterate 9 (refine kX_one rfl ?_)
    refine kX_iastN rfl rfl (by decide) (S * 7) (by first | rfl | decide) (by omega) ?_
    iterate 2 (refine kX_one rfl ?_)
    have hl := mf_nsLoop L xs d σ n R S C r vc a b c h hS hr hv6 hvc so1 hP ha hb hc hM hAr hAt hn200 hga (fun q σ' => q = some (.int (nI S)) ∧ nsP σ σ' n R S C r vc a b c) (fun τ n' ho hho hI hNF => ?_) (0, va_up σ 17 (upd (σ 17) (S * 7) 0), n, 1) ⟨Nat.zero_le _, Or.inr rfl, ⟨Nat.le_refl _, ?_, ?_, fun j hj => ?_, fun k hk => absurd hk (Nat.not_lt_zero k)⟩, ?_⟩
    · dsimp only at hl
      rw [show min 0 vc = 0 by omega] at hl
      exact kX_lv _ rfl rfl rfl hl
    · have e0 : τ (23 + 35 * r) = σ (23 + 35 * r) := nsI_c hI (fun q => by have := tC_lt q; omega) (by omega)
      have e13 : τ 13 = σ 13 := nsI_c hI (by decide) (by decide)
      have hT := hI.2.1
      have hG := hI.2.2.1
      have h13 : ∀ j, va_up τ (23 + 35 * r) (upd (τ (23 + 35 * r)) 6 (Int32.ofInt 1)) 13 j = σ 13 j := fun j => by rw [up_ne (by omega), e13]
      iterate 2 (refine kX_one rfl ?_)
      refine kX_putN rfl rfl (kT_ro hr4) rfl (rfl) rfl ?_
      have hx0 : va_up τ (23 + 35 * r) (upd (τ (23 + 35 * r)) 6 (Int32.ofInt 1)) (23 + 35 * r) = upd (σ (23 + 35 * r)) 6 (Int32.ofInt 1) := by rw [up_eq, e0]
      have hx1 : ∀ c, c ≠ 23 + 35 * r → va_up τ (23 + 35 * r) (upd (τ (23 + 35 * r)) 6 (Int32.ofInt 1)) c = τ c := fun c hc => up_ne hc
      generalize va_up τ (23 + 35 * r) (upd (τ (23 + 35 * r)) 6 (Int32.ofInt 1)) = ρ at *
      iterate 4 (refine kX_one rfl ?_)
      refine kX_top (y := nI S) (by rw [h13]; exact hSe.2.1) ?_
      iterate 1 (refine kX_one rfl ?_)
      refine kX_iastN rfl rfl (by decide) (S) (by first | rfl | decide) (hS) ?_
      iterate 4 (refine kX_one rfl ?_)
      refine kX_top (y := nI S) ((h13 6).trans hSe.2.1) ?_
      iterate 1 (refine kX_one rfl ?_)
      refine kX_bastN rfl rfl (by decide) (S) (by first | rfl | decide) (hS) (hho) ?_
      iterate 3 (refine kX_one rfl ?_)
      refine kX_top (y := nI S) ((h13 6).trans hSe.2.1) ?_
      iterate 3 (refine kX_one rfl ?_)
      refine kX_st (va_up (va_up (va_up ρ 15 (upd (ρ 15) S (nI r))) 16 (upd (ρ 16) S ho)) 13 (upd (ρ 13) 6 (nI (S + 1)))) (by rw [← nI_1]; rfl) ?_
      repeat refine kX_one rfl ?_
      have hall : ∀ e, e ≠ 13 → e ≠ 15 → e ≠ 16 → e ≠ 23 + 35 * r → va_up (va_up (va_up ρ 15 (upd (ρ 15) S (nI r))) 16 (upd (ρ 16) S ho)) 13 (upd (ρ 13) 6 (nI (S + 1))) e = τ e := fun e x1 x2 x3 x4 => by
        rw [up_ne x1, up_ne x3, up_ne x2, hx1 e x4]
      have hhi : ∀ e, 163 ≤ e → va_up (va_up (va_up ρ 15 (upd (ρ 15) S (nI r))) 16 (upd (ρ 16) S ho)) 13 (upd (ρ 13) 6 (nI (S + 1))) e = σ e := fun e he => by
        rw [hall e (by omega) (by omega) (by omega) (by omega)]
        exact nsI_c hI (fun q => by have := tC_lt q; omega) (by omega)
      have hlo : ∀ e, e < 13 → va_up (va_up (va_up ρ 15 (upd (ρ 15) S (nI r))) 16 (upd (ρ 16) S ho)) 13 (upd (ρ 13) 6 (nI (S + 1))) e = τ e := fun e he => hall e (by omega) (by omega) (by omega) (by omega)
      have h13' : ∀ j, j ≠ 6 → va_up (va_up (va_up ρ 15 (upd (ρ 15) S (nI r))) 16 (upd (ρ 16) S ho)) 13 (upd (ρ 13) 6 (nI (S + 1))) 13 j = σ 13 j := fun j hj => by
        rw [up_eq, pk_un hj]
        exact h13 j
      have hsc : va_up (va_up (va_up ρ 15 (upd (ρ 15) S (nI r))) 16 (upd (ρ 16) S ho)) 13 (upd (ρ 13) 6 (nI (S + 1))) 13 6 = nI (S + 1) := rfl
      have hsr : va_up (va_up (va_up ρ 15 (upd (ρ 15) S (nI r))) 16 (upd (ρ 16) S ho)) 13 (upd (ρ 13) 6 (nI (S + 1))) 15 = upd (σ 15) S (nI r) := by
        rw [up_ne (by decide), up_ne (by decide), up_eq, hx1 _ (by omega), nsI_c hI (by decide) (by decide)]
      have hsh : va_up (va_up (va_up ρ 15 (upd (ρ 15) S (nI r))) 16 (upd (ρ 16) S ho)) 13 (upd (ρ 13) 6 (nI (S + 1))) 16 = upd (σ 16) S ho := by
        rw [up_ne (by decide), up_eq, hx1 _ (by omega), nsI_c hI (by decide) (by decide)]
      have hro : va_up (va_up (va_up ρ 15 (upd (ρ 15) S (nI r))) 16 (upd (ρ 16) S ho)) 13 (upd (ρ 13) 6 (nI (S + 1))) (23 + 35 * r) = upd (σ (23 + 35 * r)) 6 (Int32.ofInt 1) := by
        rw [up_ne (by omega), up_ne (by omega), up_ne (by omega), hx0]
      generalize va_up (va_up (va_up ρ 15 (upd (ρ 15) S (nI r))) 16 (upd (ρ 16) S ho)) 13 (upd (ρ 13) 6 (nI (S + 1))) = ω at *
      have hgs : ∀ z, z < n → ω 8 z = σ 8 z := fun z hz => by
        rw [hlo _ (by decide)]
        exact hG.2.1 z hz
      have hgt : ∀ g, 200 ≤ g → ω 2 g = σ 2 g ∧ ω 3 g = σ 3 g ∧ ω 4 g = σ 4 g ∧ ω 6 g = σ 6 g := fun g hg => by
        rw [hlo 2 (by decide), hlo 3 (by decide), hlo 4 (by decide), hlo 6 (by decide)]
        exact hG.2.2 g hg
      obtain ⟨g1, g2, g3, g4, g5, g6, g7, g8, g9, g10, g11⟩ := h
      have hmid : ∀ e, 17 < e → e ≠ 23 + 35 * r → ω e = σ e := fun e x1 x2 => by
        rw [hall e (by omega) (by omega) (by omega) x2]
        exact nsI_c hI (fun q => by have := tC_lt q; omega) (by omega)
      have e17 : ω 17 = τ 17 := hall _ (by decide) (by decide) (by decide) (by omega)
      refine kX_ret (i := .ireturn) (len := 1) rfl (Or.inr rfl) rfl ⟨?_, n', ho, ⟨cT_eq (by rw [hlo 1 (by decide)]) (hlo _ (by decide)) (fun u _ => ?_) hT, ⟨g2.1, (h13' _ (by decide)).trans g2.2.1, fun r' hr' => ?_⟩, ⟨by omega, hsc, fun s hs => ?_, fun s k hs hk => ?_⟩, cCl_eq (h13' _ (by decide)) (fun e x1 x2 => hhi e (by omega)) g4, cKn_eq (h13' _ (by decide)) g5, cKw_eq (by decide) (hhi _ (by decide)) (hhi _ (by decide)) (hhi _ (by decide)) hgt g6, cKw_eq (by decide) (hhi _ (by decide)) (hhi _ (by decide)) (hhi _ (by decide)) hgt g7, cKw_eq (by decide) (hhi _ (by decide)) (hhi _ (by decide)) (hhi _ (by decide)) hgt g8, Or.inl ?_, cSr_0 ?_ ?_, cQ_eq (hhi _ (by decide)) (hhi _ (by decide)) g11⟩, ?_, hro, hsr, hsh, fun j hj => by rw [e17]; exact hI.2.2.2.1 j hj, fun j hj => h13' j hj, fun e x0 x1 x2 x3 x4 x5 => ?_⟩
      · show some (Value.int (ω 13 6 - 1)) = _
        rw [hsc, nI_pred S]
      · rw [hlo 2 (by decide), hlo 3 (by decide), hlo 4 (by decide), hlo 8 (by decide), hlo 12 (by decide), hlo 6 (by decide)]
        exact ⟨rfl, rfl, rfl, rfl, rfl, rfl⟩
      · obtain ⟨v', ev', a1, a2, a3, a4, a5, a6⟩ := g2.2.2 r' hr'
        refine ⟨v', ev', a1, a2, ?_, ?_, ?_, fun k hk => cE_up hI.1 (fun i hi => hmid _ (by omega) (by omega)) (a6 k hk)⟩
        · by_cases e : r' = r
          · subst e
            rw [hro]
            exact a3
          · rw [hmid _ (by omega) (by omega)]
            exact a3
        · by_cases e : r' = r
          · subst e
            rw [hro]
            exact a4
          · rw [hmid _ (by omega) (by omega)]
            exact a4
        · rw [hmid (25 + 35 * r') (by omega) (by omega), hmid (24 + 35 * r') (by omega) (by omega)]
          exact a5
      · rw [hsr]
        by_cases e : s = S
        · subst e
          exact ⟨r, hr, pk_us⟩
        · rw [pk_un e]
          exact g3.2.2.1 s (by omega)
      · rw [e17]
        have egr : ∀ z, ω 8 z = τ 8 z := fun z => by rw [hlo _ (by decide)]
        by_cases e : s = S
        · subst e
          have := hI.2.2.2.2 k hk
          rw [show 0 + 7 * s + 1 + k = 7 * s + 1 + k by omega]
          rcases this with q | ⟨z, z1, z2, z3⟩
          · exact Or.inl q
          · exact Or.inr ⟨z, z1, z2, (egr z).trans z3⟩
        · rw [hI.2.2.2.1 _ (by omega)]
          rcases g3.2.2.2 s k (by omega) hk with q | ⟨z, z1, z2, z3⟩
          · exact Or.inl q
          · have := hI.1
            exact Or.inr ⟨z, by omega, z2, (hgs z z1).trans z3⟩
      · rw [hhi 181 (by decide)]
        exact hon
      · rw [hhi 196 (by decide)]
        exact hw
      · rw [hhi 195 (by decide)]
        exact hl
      · unfold nsF cCn cpt at hNF ⊢
        rw [hlo 2 (by decide), hlo 3 (by decide), hlo 4 (by decide), hlo 5 (by decide), hlo 8 (by decide), hlo 9 (by decide), hlo 10 (by decide), hlo 11 (by decide), hlo 12 (by decide), hlo 7 (by decide), hlo 6 (by decide), e17]
        exact hNF
      · rw [hall e x1 x3 x4 x5]
        exact nsI_c hI (fun q => by have := tC_lt q; omega) x2
    · exact cT_eq rfl rfl (fun u _ => ⟨rfl, rfl, rfl, rfl, rfl, rfl⟩) h.1
    · simp only
      have : va_up (va_up σ 17 (upd (σ 17) (S * 7) 0)) 17 (σ 17) = σ := by
        rw [kup_up, kup_self]
      rw [this]
      exact cGr_refl σ n
    · simp only
      rw [up_eq, pk_un (by omega)]
    · dsimp only
      refine ⟨?_, fun t ht => ⟨rfl, rfl, rfl, rfl, rfl, rfl, rfl, rfl, rfl⟩, fun t t1 t2 => by omega, fun k hk => by omega, ?_, ?_, fun k hk => absurd hk (Nat.not_lt_zero k), ⟨fun _ k hk => absurd hk (Nat.not_lt_zero k), fun _ => by decide⟩⟩
      · rw [show min 0 vc = 0 by omega]
        rfl
      · have := hAt.2
        unfold cCn cpt at this ⊢
        exact this
      · show upd (σ 17) (S * 7) 0 (7 * S) = 0
        rw [Nat.mul_comm S 7]
        exact pk_us
end
section
/-! alike: session, the reference's half -/
/-- what the reference's loop has done -/
def seR (σ τ : kS) (n n' S r k : Nat) (a b c : Int32) : Prop := (∀ e, 232 < e → e ∉ rowC → e ≠ 256 → τ e = σ e) ∧ (∀ j, j ∉ rowT → τ 232 j = σ 232 j) ∧ (∀ j, j < 6 * S → τ 256 j = σ 256 j) ∧ (∀ t, t < n → τ 233 t = σ 233 t ∧ τ 234 t = σ 234 t ∧ τ 235 t = σ 235 t) ∧ (∀ t, n ≤ t → t < n' → τ 234 t = -1 ∧ τ 235 t = -1) ∧ seN σ (τ 233) n r k ∧ ∀ i, i < k → τ 256 (6 * S + i) = ssV σ n r a b c i
theorem seR_at {σ τ : kS} {n n' S r k : Nat} {a b c x : Int32} (h : seR σ τ n n' S r k a b c) (hk : k < 6) (hz : ¬ σ 246 (6 * r + k) = nI 1) (hx : x = ssV σ n r a b c k) : seR σ (va_up τ 256 (upd (τ 256) (6 * S + k) x)) n n' S r (k + 1) a b c := by
  obtain ⟨h1, h2, h3, h4, h5, h6, h7⟩ := h
  refine ⟨fun e e1 e2 e3 => by rw [up_ne e3]; exact h1 e e1 e2 e3, h2, fun j hj => ?_, h4, h5, fun i hi ha => ?_, fun i hi => ?_⟩
  · show upd (τ 256) (6 * S + k) x j = _
    rw [pk_un (by omega)]
    exact h3 j hj
  · by_cases e : i = k
    · subst e
      exact absurd ha hz
    · exact h6 i (by omega) ha
  · show upd (τ 256) (6 * S + k) x (6 * S + i) = _
    by_cases e : i = k
    · subst e
      rw [pk_us]
      exact hx
    · rw [pk_un (by omega)]
      exact h7 i (by omega)
theorem seR_new {σ τ ρ : kS} {n S r k so : Nat} {a b c : Int32} (h : seR σ τ n (n + hma σ r 1 k) S r k a b c) (hk : k < 6) (hN : mNw τ ρ (n + hma σ r 1 k) so (-1) (-1)) (hz : σ 246 (6 * r + k) = nI 1) (hso : σ 240 (fN (σ 245 (6 * r + k))) = nI so) (hx : ssV σ n r a b c k = nI (n + hma σ r 1 k)) : seR σ (va_up ρ 256 (upd (ρ 256) (6 * S + k) (nI (n + hma σ r 1 k)))) n (n + hma σ r 1 k + 1) S r (k + 1) a b c := by
  have hG := mGr_new hN
  obtain ⟨h1, h2, h3, h4, h5, h6, h7⟩ := h
  obtain ⟨z, g, nx, hd, jd, hρ, -⟩ := hN
  have e1 : ρ 233 = upd (τ 233) (n + hma σ r 1 k) (nI so) := by rw [hρ]; rfl
  have e2 : ρ 234 = upd (τ 234) (n + hma σ r 1 k) (-1) := by rw [hρ]; rfl
  have e3 : ρ 235 = upd (τ 235) (n + hma σ r 1 k) (-1) := by rw [hρ]; rfl
  have e4 : ρ 256 = τ 256 := hG.1 _ (by decide)
  refine ⟨fun e x1 x2 x3 => by rw [up_ne x3, hG.1 e x2]; exact h1 e x1 x2 x3, fun j hj => (hG.2.1 j hj).trans (h2 j hj), fun j hj => ?_, fun t ht => ?_, fun t t1 t2 => ?_, fun i hi ha => ?_, fun i hi => ?_⟩
  · show upd (ρ 256) (6 * S + k) _ j = _
    rw [pk_un (by omega), e4]
    exact h3 j hj
  · have := hG.2.2 t (by omega)
    have q := h4 t ht
    exact ⟨this.1.trans q.1, this.2.1.trans q.2.1, this.2.2.trans q.2.2⟩
  · show ρ 234 t = -1 ∧ ρ 235 t = -1
    rw [e2, e3]
    by_cases e : t = n + hma σ r 1 k
    · subst e
      exact ⟨pk_us, pk_us⟩
    · rw [pk_un e, pk_un e]
      exact h5 t t1 (by omega)
  · show ρ 233 (n + hma σ r 1 i) = _
    rw [e1]
    by_cases e : i = k
    · subst e
      rw [pk_us, hso]
    · have : hma σ r 1 i < hma σ r 1 k := by
        have := hma_mono σ r 1 (show i + 1 ≤ k by omega)
        rw [hma, if_pos ha] at this
        omega
      rw [pk_un (by omega)]
      exact h6 i (by omega) ha
  · show upd (ρ 256) (6 * S + k) _ (6 * S + i) = _
    rw [e4]
    by_cases e : i = k
    · subst e
      rw [pk_us]
      exact hx.symm
    · rw [pk_un (by omega)]
      exact h7 i (by omega)
set_option maxRecDepth 100000 in
set_option maxHeartbeats 4000000 in
theorem mf_sessionL (L : Nat) (xs : Nat → Int32) (d : Nat) (σ : kS) (n R S C r v : Nat) (kl : List Nat) (a1 a2 a3 h0 : Int32) (hR4 : R ≤ 4) (hr : r < R) (hS : S < 4) (hv6 : v ≤ 6) (hv : σ 244 r = nI v) (hn : n + hma σ r 1 v ≤ 200) (h03 : hma σ r 0 v ≤ 3)
    (hA : ∀ i, i < hma σ r 0 v → ∃ z, z < n ∧ (if i = 0 then a1 else if i = 1 then a2 else a3) = nI z ∧ σ 233 z = 0) (hRo : mRo σ n R) (Q : Option Value → kS → Prop)
    (hQ : ∀ τ n' b', mJ τ n' b' R S C kl → mLow σ τ → seK σ τ n → (∀ i, i < v → ssO τ n' r S i) → n' = n + hma σ r 1 v → seR σ τ n n' S r v a1 a2 a3 → kX kT L xs (d + 4) 170 277 [(0, .ref 232), (1, .int (nI r)), (2, .int a1), (3, .int a2), (4, .int a3)] [] τ Q) :
    ∀ q : Nat × kS, (q.1 ≤ v ∧ ∃ b', mJ q.2 (n + hma σ r 1 q.1) b' R S C kl ∧ mLow σ q.2 ∧ seK σ q.2 n ∧ (∀ i, i < q.1 → ssO q.2 (n + hma σ r 1 q.1) r S i) ∧ seR σ q.2 n (n + hma σ r 1 q.1) S r q.1 a1 a2 a3) → kX kT L xs (d + 4) 170 160 [(7, .int (nI q.1)), (6, .int (nI (hma σ r 0 q.1))), (0, .ref 232), (1, .int (nI r)), (2, .int a1), (3, .int a2), (4, .int a3)] [] q.2 Q := by
  refine kX_while (fun q : Nat × kS => [(7, .int (nI q.1)), (6, .int (nI (hma σ r 0 q.1))), (0, .ref 232), (1, .int (nI r)), (2, .int a1), (3, .int a2), (4, .int a3)]) (fun q => q.2) _ (fun q => v - q.1) ?_
  rintro ⟨k, τ⟩ ⟨i1, b', i2, i3, i4, i5, i6⟩ ih
  dsimp only at i1 i2 i3 i4 i5 i6 ih ⊢
  obtain ⟨s1, s2, s3, s4, s5⟩ := i4
  have hvt : τ 244 r = nI v := by rw [s1]; exact hv
  iterate 4 (refine kX_one rfl ?_)
  refine kX_ialdV rfl rfl (by decide) (r) (by first | rfl | decide) (by omega) (hvt) ?_
  repeat refine kX_one rfl ?_
  refine kX_if (fun q => ?_) (fun q => ?_)
  · have q := qge q k v
    obtain rfl : k = v := by omega
    exact kX_lv _ rfl rfl rfl (hQ τ _ b' i2 i3 ⟨s1, s2, s3, s4, s5⟩ i5 rfl i6)
  · have q := qgeF q k v
    obtain ⟨t, so, as, t1, t2, t3, t4, t5, t6, t7, t8, t9, t10, t11⟩ := hRo.2.2.2.1 r k hr (by rw [hv, fN_nI (by omega)]; exact q)
    have hn200 : n ≤ 200 := by omega
    have key : ∀ (ρ : kS) (x : Int32) (b'' c' n' : Nat) (w : Value), c' = hma σ r 0 (k + 1) → n' = n + hma σ r 1 (k + 1) → mJ ρ n' b'' R S C kl → mLow σ ρ → seK σ ρ n → (∀ i, i < k → ssO ρ n' r S i) → ssO (va_up ρ 256 (upd (ρ 256) (6 * S + k) x)) n' r S k → seR σ (va_up ρ 256 (upd (ρ 256) (6 * S + k) x)) n n' S r (k + 1) a1 a2 a3 → kX kT L xs (d + 4) 170 254 [(9, .int x), (8, w), (7, .int (nI k)), (6, .int (nI c')), (0, .ref 232), (1, .int (nI r)), (2, .int a1), (3, .int a2), (4, .int a3)] [] ρ Q := by
      intro ρ x b'' c' n' w hc' hn' j1 j2 j3 j4 j5 j6
      have hSe := j1.2.2.1.2.1
      repeat refine kX_one rfl ?_
      refine kX_iastN rfl rfl (by decide) (6 * S + k) (by rw [hSe]; exact ix6 S k) (by omega) ?_
      iterate 2 (refine kX_one rfl ?_)
      have := ih (k + 1, va_up ρ 256 (upd (ρ 256) (6 * S + k) x)) ⟨q, b'', by rw [← hn']; exact mJ_at j1, mLow_trans j2 (mLow_up ρ _ (by decide)), j3, fun i hi => by
        simp only at hi ⊢
        rw [← hn']
        by_cases e : i = k
        · subst e
          exact j5
        · exact ssO_at e (j4 i (by omega)), by rw [← hn']; exact j6⟩ (by simp only; omega)
      dsimp only at this
      rw [← nI_1, ← hc'] at this
      exact kX_lv _ rfl rfl rfl this
    have hat : τ 246 (6 * r + k) = nI as := by rw [s2]; exact t9
    have has : as = 0 ∨ as = 1 ∨ as = 2 := by omega
    repeat refine kX_one rfl ?_
    refine kX_ialdV rfl rfl (by decide) (6 * r + k) (ix6 r k) (by omega) hat ?_
    have hstep : ∀ a, hma σ r a (k + 1) = hma σ r a k + if σ 246 (6 * r + k) = nI a then 1 else 0 := fun a => rfl
    rcases has with rfl | rfl | rfl
    · have e0 : hma σ r 0 (k + 1) = hma σ r 0 k + 1 := by rw [hstep, if_pos t9]
      have e1 : hma σ r 1 (k + 1) = hma σ r 1 k := by rw [hstep, if_neg (by rw [t9]; decide), Nat.add_zero]
      have hc3 : hma σ r 0 k < hma σ r 0 v := by
        have := hma_mono σ r 0 (show k + 1 ≤ v from q)
        omega
      obtain ⟨z, z1, z2, z3⟩ := hA _ hc3
      have hso := t10 rfl
      have fin : ∀ x w, x = nI z → kX kT L xs (d + 4) 170 254 [(9, .int x), (8, w), (7, .int (nI k)), (6, .int (nI (hma σ r 0 k + 1))), (0, .ref 232), (1, .int (nI r)), (2, .int a1), (3, .int a2), (4, .int a3)] [] τ Q := by
        intro x w hx
        refine key τ x b' _ (n + hma σ r 1 k) w e0.symm (by rw [e1]) i2 i3 ⟨s1, s2, s3, s4, s5⟩ i5 ⟨0, hat, Or.inr ⟨by omega, z, by omega, by rw [← hx]; exact pk_us, ?_⟩⟩ (seR_at i6 (by omega) (fun z => absurd (t9.symm.trans z) (by decide)) (by rw [ssV, if_pos t9, hx]; exact z2.symm))
        show τ 233 z = τ 240 (fN (τ 245 (6 * r + k)))
        rw [s5 z z1, z3, s3, s4, t2, fN_nI (by omega), t7, hso]
        rfl
      have hc : hma σ r 0 k = 0 ∨ hma σ r 0 k = 1 ∨ hma σ r 0 k = 2 := by omega
      rcases hc with hc | hc | hc
      · rw [hc] at z2 fin ⊢
        iterate 12 (refine kX_one rfl ?_)
        exact kX_lv _ rfl rfl rfl (fin a1 (.int (nI 0)) z2)
      · rw [hc] at z2 fin ⊢
        iterate 15 (refine kX_one rfl ?_)
        exact kX_lv _ rfl rfl rfl (fin a2 (.int (nI 0)) z2)
      · rw [hc] at z2 fin ⊢
        iterate 14 (refine kX_one rfl ?_)
        exact kX_lv _ rfl rfl rfl (fin a3 (.int (nI 0)) z2)
    · have e0 : hma σ r 0 (k + 1) = hma σ r 0 k := by rw [hstep, if_neg (by rw [t9]; decide), Nat.add_zero]
      have e1 : hma σ r 1 (k + 1) = hma σ r 1 k + 1 := by rw [hstep, if_pos t9]
      have hle := hma_mono σ r 1 (show k + 1 ≤ v from q)
      have hvt2 : τ 245 (6 * r + k) = nI t := by rw [s3]; exact t2
      have hst2 : τ 240 t = nI so := by rw [s4]; exact t7
      have hso := t11 rfl
      repeat refine kX_one rfl ?_
      refine kX_ialdV rfl rfl (by decide) (6 * r + k) (ix6 r k) (by omega) hvt2 ?_
      refine kX_ialdV rfl rfl (by decide) (t) (by first | rfl | decide) (by omega) (hst2) ?_
      repeat refine kX_one rfl ?_
      refine kX_cal (mr_last L xs d τ (n + hma σ r 1 k) b' so (-1) (-1) 0 0 i2.1 (by omega) (Or.inl ⟨t6, rfl, rfl⟩) (by omega) (by omega) (by omega) (by unfold msz; rw [if_pos t6]; decide)) rfl (Or.inr rfl) rfl rfl rfl (fun r1 τ1 q1 => ?_)
      obtain ⟨rfl, hN⟩ := q1
      have hG := mGr_new hN
      have e := fun c (hc : c ∉ rowC) => hG.1 c hc
      have hkk : τ1 233 (n + hma σ r 1 k) = nI so := by
        obtain ⟨_, _, _, _, _, rfl, _⟩ := hN
        exact pk_us
      iterate 1 (refine kX_one rfl ?_)
      refine kX_lv _ rfl rfl rfl (key τ1 (nI (n + hma σ r 1 k)) 200 _ (n + hma σ r 1 k + 1) (.int (nI 1)) e0.symm (by rw [e1]; omega) (mJ_new i2 hN (by omega)) (mLow_trans i3 (mLow_gr hG)) ⟨(e _ (by decide)).trans s1, (e _ (by decide)).trans s2, (e _ (by decide)).trans s3, (e _ (by decide)).trans s4, fun u hu => ((hG.2.2 u (by omega)).1).trans (s5 u hu)⟩ (fun i hi => ssO_new (by omega) hN (i5 i hi)) ⟨1, ?_, Or.inr ⟨by omega, n + hma σ r 1 k, by omega, pk_us, ?_⟩⟩ (seR_new i6 (by omega) hN t9 (by rw [t2, fN_nI (by omega)]; exact t7) (by rw [ssV, if_neg (by rw [t9]; decide), if_pos t9])))
      · show τ1 246 (6 * r + k) = nI 1
        rw [e 246 (by decide)]
        exact hat
      · show τ1 233 (n + hma σ r 1 k) = τ1 240 (fN (τ1 245 (6 * r + k)))
        rw [hkk, e 245 (by decide), e 240 (by decide), hvt2, fN_nI (by omega), hst2]
    · have e0 : hma σ r 0 (k + 1) = hma σ r 0 k := by rw [hstep, if_neg (by rw [t9]; decide), Nat.add_zero]
      have e1 : hma σ r 1 (k + 1) = hma σ r 1 k := by rw [hstep, if_neg (by rw [t9]; decide), Nat.add_zero]
      iterate 8 (refine kX_one rfl ?_)
      exact kX_lv _ rfl rfl rfl (key τ (-6) b' _ (n + hma σ r 1 k) _ e0.symm (by rw [e1]) i2 i3 ⟨s1, s2, s3, s4, s5⟩ i5 ⟨2, hat, Or.inl ⟨rfl, pk_us⟩⟩ (seR_at i6 (by omega) (fun z => absurd (t9.symm.trans z) (by decide)) (by rw [ssV, if_neg (by rw [t9]; decide), if_neg (by rw [t9]; decide)])))
/-- the PARAMETERS that matter are TERMS; are AGENTS -/
def parT (n p : Nat) (a b c : Int32) : Prop := (0 < p → isN a n) ∧ (1 < p → isN b n) ∧ (2 < p → isN c n)
def parG (σ : kS) (n p : Nat) (a b c : Int32) : Prop := ∀ i, i < p → ∃ z, z < n ∧ (if i = 0 then a else if i = 1 then b else c) = nI z ∧ σ 233 z = 0
set_option maxRecDepth 100000 in
set_option maxHeartbeats 4000000 in
theorem mg_session (L : Nat) (xs : Nat → Int32) (d : Nat) (σ : kS) (n b R S C : Nat) (kl : List Nat) (x a1 a2 a3 : Int32) (Q : Option Value → kS → Prop) (h : mI σ n b R S C kl) (hU : ¬ isN x R → Q (some (.int (-1))) σ) (hU2 : ∀ r v, r < R → x = nI r → σ 244 r = nI v → v ≤ 6 → ¬ parT n (hma σ r 0 v) a1 a2 a3 → Q (some (.int (-1))) σ) (hS : ∀ r v, r < R → x = nI r → σ 244 r = nI v → v ≤ 6 → parT n (hma σ r 0 v) a1 a2 a3 → σ 232 52 ≠ 0 → Q (some (.int (-3))) σ) (hF : ∀ r v, r < R → x = nI r → σ 244 r = nI v → v ≤ 6 → parT n (hma σ r 0 v) a1 a2 a3 → σ 232 52 = 0 → (S = 4 ∨ 200 < n + hma σ r 1 v) → Q (some (.int (-4))) σ) (hO : ∀ r v, r < R → x = nI r → σ 244 r = nI v → v ≤ 6 → parT n (hma σ r 0 v) a1 a2 a3 → σ 232 52 = 0 → S < 4 → n + hma σ r 1 v ≤ 200 → ¬ (hma σ r 0 v ≤ 3 ∧ parG σ n (hma σ r 0 v) a1 a2 a3) → Q (some (.int (-5))) σ)
    (hN : ∀ r v τ n' b', r < R → x = nI r → σ 244 r = nI v → v ≤ 6 → parT n (hma σ r 0 v) a1 a2 a3 → σ 232 52 = 0 → S < 4 → n + hma σ r 1 v ≤ 200 → hma σ r 0 v ≤ 3 → parG σ n (hma σ r 0 v) a1 a2 a3 → n' = n + hma σ r 1 v → mLow σ τ → seR σ τ n n' S r v a1 a2 a3 → mI (va_up (seS τ S r) 232 (fgO (seS τ S r 232))) n' b' R (S + 1) C kl → Q (some (.int (nI S))) (va_up (seS τ S r) 232 (fgO (seS τ S r 232)))) : kXM kT L xs (d + 4) 170 [.ref 232, .int x, .int a1, .int a2, .int a3] σ Q := by
  have h0 := h
  obtain ⟨h1, h2, h3, h4, h5, h6, h7⟩ := h
  have hn := h1.1
  have hR4 := h2.1
  have hS4 := h3.1
  unfold kXM
  repeat refine kX_one rfl ?_
  refine kX_cal (mr_isRole L xs (d + 2) σ R x h2.2.1 (by omega)) rfl (Or.inr rfl) rfl rfl rfl (fun r1 σ1 q1 => ?_)
  obtain ⟨rfl, rfl⟩ := q1
  repeat refine kX_one rfl ?_
  refine kX_if (fun q => ?_) (fun q => ?_)
  · obtain ⟨r, hr, rfl⟩ := isB_ne.mp (qne q)
    obtain ⟨⟨v, hv6, hv⟩, -⟩ := h2.2.2.1 r hr
    have H0 := hma_le σ r 0 v
    have H1 := hma_le σ r 1 v
    have k154 : parT n (hma σ r 0 v) a1 a2 a3 → σ 232 52 = 0 → S < 4 → n + hma σ r 1 v ≤ 200 → hma σ r 0 v ≤ 3 → (∀ i, i < hma σ r 0 v → ∃ z, z < n ∧ (if i = 0 then a1 else if i = 1 then a2 else a3) = nI z ∧ σ 233 z = 0) → kX kT L xs (d + 4) 170 154 [(5, .int (nI (hma σ r 0 v))), (0, .ref 232), (1, .int (nI r)), (2, .int a1), (3, .int a2), (4, .int a3)] [] σ Q := by
      intro g0 g1 g2 g3 g4 g5
      iterate 4 (refine kX_one rfl ?_)
      refine kX_lv _ rfl rfl rfl (mf_sessionL L xs d σ n R S C r v kl a1 a2 a3 0 hR4 hr g2 hv6 hv g3 g4 g5 h2 _ (fun τ n' b' j1 j2 j3 j4 j5 j6 => ?_) (0, σ) ⟨Nat.zero_le _, b, ⟨h1, h2, h3, h4, h5, g1⟩, mLow_refl σ, ⟨rfl, rfl, rfl, rfl, fun _ _ => rfl⟩, fun i hi => absurd hi (Nat.not_lt_zero i), fun _ _ _ _ => rfl, fun _ _ => rfl, fun _ _ => rfl, fun _ _ => ⟨rfl, rfl, rfl⟩, fun t t1 t2 => absurd t2 (by simp only [hma]; omega), fun k hk => absurd hk (Nat.not_lt_zero k), fun i hi => absurd hi (Nat.not_lt_zero i)⟩)
      have hSe := j1.2.2.1.2.1
      repeat refine kX_one rfl ?_
      refine kX_iastN rfl rfl (by decide) (S) (hSe) (by omega) ?_
      repeat refine kX_one rfl ?_
      refine kX_bastN rfl rfl (by decide) (r) (by first | rfl | decide) (by omega) (Or.inr rfl) ?_
      repeat refine kX_one rfl ?_
      refine kX_st (seS τ S r) ?_ ?_
      · rw [seS, nI_succ S, ← hSe]
        rfl
      refine kX_cal (mr_forget L xs (d + 2) _) rfl (Or.inr rfl) rfl rfl rfl (fun r1 σ1 q1 => ?_)
      obtain ⟨rfl, rfl⟩ := q1
      repeat refine kX_one rfl ?_
      refine kX_top (y := nI S) (nI_pred S) ?_
      refine kX_ret (i := .ireturn) (len := 1) rfl (Or.inr rfl) rfl (hN r v τ n' b' hr rfl hv hv6 g0 g1 g2 g3 g4 g5 j5 j2 j6 (mI_se j1 g2 hr (fun i hi => j4 i (by rw [j3.1, hv, fN_nI (by omega)] at hi; exact hi))))
    have k62 : (0 < hma σ r 0 v → isN a1 n) → (1 < hma σ r 0 v → isN a2 n) → (2 < hma σ r 0 v → isN a3 n) → kX kT L xs (d + 4) 170 62 [(5, .int (nI (hma σ r 0 v))), (0, .ref 232), (1, .int (nI r)), (2, .int a1), (3, .int a2), (4, .int a3)] [] σ Q := by
      intro p1 p2 p3
      have hpt : parT n (hma σ r 0 v) a1 a2 a3 := ⟨p1, p2, p3⟩
      repeat refine kX_one rfl ?_
      refine kX_if (fun q => ?_) (fun q => ?_)
      · have hruns : σ 232 52 = 0 := qeq q
        repeat refine kX_one rfl ?_
        refine kX_if (fun q => ?_) (fun q => ?_)
        · have q : S = 4 := by
            have := qeq q
            rw [h3.2.1] at this
            exact nI_inj this
          repeat refine kX_one rfl ?_
          refine kX_ret (i := .ireturn) (len := 1) rfl (Or.inr rfl) rfl (hF r v hr rfl hv hv6 hpt hruns (Or.inl q))
        · have hS : S ≠ 4 := fun e => qeqF q (by rw [h3.2.1, e]; rfl)
          have hS3 : S < 4 := by omega
          repeat refine kX_one rfl ?_
          refine kX_cal (mr_howManyAs L xs (d + 2) σ r 1 v (by omega) (by omega) hv6 hv) rfl (Or.inr rfl) rfl rfl rfl (fun r1 σ1 q1 => ?_)
          obtain ⟨rfl, rfl⟩ := q1
          have et : σ 232 9 + nI (hma σ r 1 v) = nI (n + hma σ r 1 v) := by rw [h1.2.2.2.1]; exact nI_add _ _
          iterate 1 (refine kX_one rfl ?_)
          refine kX_top (et) ?_
          repeat refine kX_one rfl ?_
          refine kX_if (fun q => ?_) (fun q => ?_)
          · have hle := qle q (n + hma σ r 1 v) 200
            have k135 : hma σ r 0 v ≤ 3 → (0 < hma σ r 0 v → ∃ z, z < n ∧ a1 = nI z ∧ σ 233 z = 0) → (1 < hma σ r 0 v → ∃ z, z < n ∧ a2 = nI z ∧ σ 233 z = 0) → kX kT L xs (d + 4) 170 135 [(5, .int (nI (hma σ r 0 v))), (0, .ref 232), (1, .int (nI r)), (2, .int a1), (3, .int a2), (4, .int a3)] [] σ Q := by
              intro g1 g2 g3
              repeat refine kX_one rfl ?_
              refine kX_if (fun q => ?_) (fun q => ?_)
              · have q := qle q (hma σ r 0 v) 2
                refine k154 hpt hruns hS3 hle g1 (fun i hi => ?_)
                have : i = 0 ∨ i = 1 := by omega
                rcases this with rfl | rfl
                · exact g2 hi
                · exact g3 hi
              · have q := qleF q (hma σ r 0 v) 2
                obtain ⟨z, hz, rfl⟩ := p3 q
                repeat refine kX_one rfl ?_
                refine kX_ialdN rfl rfl (by decide) (z) (by first | rfl | decide) (by omega) ?_
                repeat refine kX_one rfl ?_
                refine kX_if (fun q2 => ?_) (fun q2 => ?_)
                · refine k154 hpt hruns hS3 hle g1 (fun i hi => ?_)
                  have : i = 0 ∨ i = 1 ∨ i = 2 := by omega
                  rcases this with rfl | rfl | rfl
                  · exact g2 hi
                  · exact g3 hi
                  · exact ⟨z, hz, rfl, qeq q2⟩
                · have q2 := qeqF q2
                  have hq : ¬ (hma σ r 0 v ≤ 3 ∧ parG σ n (hma σ r 0 v) (a1) a2 (nI z)) := fun e => by
                    obtain ⟨z', y1, y2, y3⟩ := e.2 2 (by omega)
                    obtain rfl : z = z' := nI_inj y2
                    exact q2 y3
                  repeat refine kX_one rfl ?_
                  refine kX_ret (i := .ireturn) (len := 1) rfl (Or.inr rfl) rfl (hO r v hr rfl hv hv6 hpt hruns hS3 hle hq)
            have k120 : hma σ r 0 v ≤ 3 → (0 < hma σ r 0 v → ∃ z, z < n ∧ a1 = nI z ∧ σ 233 z = 0) → kX kT L xs (d + 4) 170 120 [(5, .int (nI (hma σ r 0 v))), (0, .ref 232), (1, .int (nI r)), (2, .int a1), (3, .int a2), (4, .int a3)] [] σ Q := by
              intro g1 g2
              repeat refine kX_one rfl ?_
              refine kX_if (fun q => ?_) (fun q => ?_)
              · have q := qle q (hma σ r 0 v) 1
                exact k135 g1 g2 (fun z => by omega)
              · have q := qleF q (hma σ r 0 v) 1
                obtain ⟨z, hz, rfl⟩ := p2 q
                repeat refine kX_one rfl ?_
                refine kX_ialdN rfl rfl (by decide) (z) (by first | rfl | decide) (by omega) ?_
                repeat refine kX_one rfl ?_
                refine kX_if (fun q2 => ?_) (fun q2 => ?_)
                · have q2 := qne q2
                  have hq : ¬ (hma σ r 0 v ≤ 3 ∧ parG σ n (hma σ r 0 v) a1 (nI z) a3) := fun e => by
                    obtain ⟨z', y1, y2, y3⟩ := e.2 1 (by omega)
                    obtain rfl : z = z' := nI_inj y2
                    exact q2 y3
                  repeat refine kX_one rfl ?_
                  refine kX_ret (i := .ireturn) (len := 1) rfl (Or.inr rfl) rfl (hO r v hr rfl hv hv6 hpt hruns hS3 hle hq)
                · exact k135 g1 g2 (fun _ => ⟨z, hz, rfl, qneF q2⟩)
            repeat refine kX_one rfl ?_
            refine kX_if (fun q => ?_) (fun q => ?_)
            · have q := qgt q (hma σ r 0 v) 3
              repeat refine kX_one rfl ?_
              refine kX_ret (i := .ireturn) (len := 1) rfl (Or.inr rfl) rfl (hO r v hr rfl hv hv6 hpt hruns hS3 hle (fun e => by have := e.1; omega))
            · have g1 := qgtF q (hma σ r 0 v) 3
              repeat refine kX_one rfl ?_
              refine kX_if (fun q => ?_) (fun q => ?_)
              · have q := qle q (hma σ r 0 v) 0
                exact k120 g1 (fun z => by omega)
              · have q := qleF q (hma σ r 0 v) 0
                obtain ⟨z, hz, rfl⟩ := p1 q
                repeat refine kX_one rfl ?_
                refine kX_ialdN rfl rfl (by decide) (z) (by first | rfl | decide) (by omega) ?_
                repeat refine kX_one rfl ?_
                refine kX_if (fun q2 => ?_) (fun q2 => ?_)
                · have q2 := qne q2
                  have hq : ¬ (hma σ r 0 v ≤ 3 ∧ parG σ n (hma σ r 0 v) (nI z) a2 a3) := fun e => by
                    obtain ⟨z', y1, y2, y3⟩ := e.2 0 (by omega)
                    obtain rfl : z = z' := nI_inj y2
                    exact q2 y3
                  repeat refine kX_one rfl ?_
                  refine kX_ret (i := .ireturn) (len := 1) rfl (Or.inr rfl) rfl (hO r v hr rfl hv hv6 hpt hruns hS3 hle hq)
                · exact k120 g1 (fun _ => ⟨z, hz, rfl, qneF q2⟩)
          · have hle := qleF q (n + hma σ r 1 v) 200
            repeat refine kX_one rfl ?_
            refine kX_ret (i := .ireturn) (len := 1) rfl (Or.inr rfl) rfl (hF r v hr rfl hv hv6 hpt hruns (Or.inr hle))
      · have q := qeqF q
        repeat refine kX_one rfl ?_
        refine kX_ret (i := .ireturn) (len := 1) rfl (Or.inr rfl) rfl (hS r v hr rfl hv hv6 hpt q)
    have k45 : (0 < hma σ r 0 v → isN a1 n) → (1 < hma σ r 0 v → isN a2 n) → kX kT L xs (d + 4) 170 45 [(5, .int (nI (hma σ r 0 v))), (0, .ref 232), (1, .int (nI r)), (2, .int a1), (3, .int a2), (4, .int a3)] [] σ Q := by
      intro p1 p2
      repeat refine kX_one rfl ?_
      refine kX_if (fun q => ?_) (fun q => ?_)
      · have q := qle q (hma σ r 0 v) 2
        exact k62 p1 p2 (fun z => by omega)
      · have q0 := qleF q (hma σ r 0 v) 2
        repeat refine kX_one rfl ?_
        refine kX_cal (mr_isTerm L xs (d + 2) σ n a3 h1.2.2.2.1 (by omega)) rfl (Or.inr rfl) rfl rfl rfl (fun r1 σ1 q1 => ?_)
        obtain ⟨rfl, rfl⟩ := q1
        repeat refine kX_one rfl ?_
        refine kX_if (fun q => ?_) (fun q => ?_)
        · exact k62 p1 p2 (fun _ => isB_ne.mp (qne q))
        · have q := qneF q
          repeat refine kX_one rfl ?_
          refine kX_ret (i := .ireturn) (len := 1) rfl (Or.inr rfl) rfl (hU2 r v hr rfl hv hv6 (fun e => isB_ne.mpr (e.2.2 q0) q))
    have k31 : (0 < hma σ r 0 v → isN a1 n) → kX kT L xs (d + 4) 170 31 [(5, .int (nI (hma σ r 0 v))), (0, .ref 232), (1, .int (nI r)), (2, .int a1), (3, .int a2), (4, .int a3)] [] σ Q := by
      intro p1
      repeat refine kX_one rfl ?_
      refine kX_if (fun q => ?_) (fun q => ?_)
      · have q := qle q (hma σ r 0 v) 1
        exact k45 p1 (fun z => by omega)
      · have q0 := qleF q (hma σ r 0 v) 1
        repeat refine kX_one rfl ?_
        refine kX_cal (mr_isTerm L xs (d + 2) σ n a2 h1.2.2.2.1 (by omega)) rfl (Or.inr rfl) rfl rfl rfl (fun r1 σ1 q1 => ?_)
        obtain ⟨rfl, rfl⟩ := q1
        repeat refine kX_one rfl ?_
        refine kX_if (fun q => ?_) (fun q => ?_)
        · have q := qeq q
          repeat refine kX_one rfl ?_
          refine kX_ret (i := .ireturn) (len := 1) rfl (Or.inr rfl) rfl (hU2 r v hr rfl hv hv6 (fun e => isB_ne.mpr (e.2.1 q0) q))
        · exact k45 p1 (fun _ => isB_ne.mp (qeqF q))
    repeat refine kX_one rfl ?_
    refine kX_cal (mr_howManyAs L xs (d + 2) σ r 0 v (by omega) (by omega) hv6 hv) rfl (Or.inr rfl) rfl rfl rfl (fun r1 σ1 q1 => ?_)
    obtain ⟨rfl, rfl⟩ := q1
    repeat refine kX_one rfl ?_
    refine kX_if (fun q => ?_) (fun q => ?_)
    · have q := qle q (hma σ r 0 v) 0
      exact k31 (fun z => by omega)
    · have q0 := qleF q (hma σ r 0 v) 0
      repeat refine kX_one rfl ?_
      refine kX_cal (mr_isTerm L xs (d + 2) σ n a1 h1.2.2.2.1 (by omega)) rfl (Or.inr rfl) rfl rfl rfl (fun r1 σ1 q1 => ?_)
      obtain ⟨rfl, rfl⟩ := q1
      repeat refine kX_one rfl ?_
      refine kX_if (fun q => ?_) (fun q => ?_)
      · have q := qeq q
        repeat refine kX_one rfl ?_
        refine kX_ret (i := .ireturn) (len := 1) rfl (Or.inr rfl) rfl (hU2 r v hr rfl hv hv6 (fun e => isB_ne.mpr (e.1 q0) q))
      · exact k31 (fun _ => isB_ne.mp (qeqF q))
  · have q := qneF q
    repeat refine kX_one rfl ?_
    refine kX_ret (i := .ireturn) (len := 1) rfl (Or.inr rfl) rfl (hU (fun e => isB_ne.mpr e q))
end
section
/-! alike: session, the class's call -/
theorem hma_eq {σ τ : kS} (e : τ 246 = σ 246) (r a : Nat) : ∀ k, hma τ r a k = hma σ r a k
  | 0 => rfl
  | k + 1 => by rw [hma, hma, hma_eq e r a k, e]
theorem cnt_hma1 {σ : kS} {r v vc : Nat} (h : ∀ k, k < vc → σ (24 + 35 * r) k = σ 246 (6 * r + k)) (hv : v ≤ vc) : cnt (fun k => σ (24 + 35 * r) k = 1) v = hma σ r 1 v := by
  induction v with
  | zero => rfl
  | succ v ih =>
    rw [cnt, hma, ih (by omega)]
    by_cases q : σ (24 + 35 * r) v = 1
    · rw [if_pos q, if_pos (by rw [← h v (by omega)]; exact q)]
    · rw [if_neg q, if_neg (by rw [← h v (by omega)]; exact q)]
theorem mRo_eq {σ τ : kS} {n R : Nat} (e : ∀ c, 232 ≤ c → τ c = σ c) (h : mRo σ n R) : mRo τ n R := by
  unfold mRo at h ⊢
  rw [e 232 (by decide), e 244 (by decide), e 247 (by decide), e 245 (by decide), e 233 (by decide), e 239 (by decide), e 241 (by decide), e 240 (by decide), e 246 (by decide), e 248 (by decide), e 234 (by decide), e 235 (by decide), e 249 (by decide)]
  exact h
theorem aR_eq2 {σ τ : kS} {n R : Nat} (hM : mRo σ n R) (hc : ∀ c, 23 ≤ c → c < 163 → τ c = σ c) (e : ∀ c, 232 ≤ c → τ c = σ c) (h : aR σ R) : aR τ R := fun r hr => by
  have hR := hM.1
  obtain ⟨-, ev, ev1, ev2⟩ := hM.2.2.1 r hr
  have he6 : fN (σ 247 r) ≤ 6 := by rw [ev2, fN_nI (by omega)]; exact ev1
  have hb : ∀ dn k, bdv τ r dn k = bdv σ r dn k := fun dn k => by
    unfold bdv
    rw [e 244 (by decide), e 246 (by decide), e 249 (by decide), e 245 (by decide), e 233 (by decide), e 234 (by decide), e 235 (by decide), e 248 (by decide)]
  have hbl : ∀ e', bls τ r e' = bls σ r e' := fun e' => by
    unfold bls nbv
    simp only [hb]
    rw [e 241 (by decide), e 233 (by decide), e 234 (by decide), e 235 (by decide), e 248 (by decide)]
  obtain ⟨h1, h2, h3, h4, h5⟩ := h r hr
  unfold aR1
  rw [hc (23 + 35 * r) (by omega) (by omega), hc (24 + 35 * r) (by omega) (by omega), hc (25 + 35 * r) (by omega) (by omega), hc (26 + 35 * r) (by omega) (by omega), e 244 (by decide), e 247 (by decide), e 250 (by decide), e 246 (by decide), e 240 (by decide), e 245 (by decide)]
  refine ⟨h1, h2, h3, fun k hk => ?_, fun i hi => ?_⟩
  · rw [hb]
    exact h4 k hk
  · have := h5 i hi
    unfold aE aP opn at this ⊢
    rw [hbl, hc (28 + 35 * r + 5 * i) (by omega) (by omega), hc (29 + 35 * r + 5 * i) (by omega) (by omega), hc (30 + 35 * r + 5 * i) (by omega) (by omega), hc (28 + 35 * r + 5 * i + 3) (by omega) (by omega), hc (28 + 35 * r + 5 * i + 4) (by omega) (by omega), e 248 (by decide), e 249 (by decide), e 241 (by decide), e 240 (by decide), e 233 (by decide), e 234 (by decide), e 235 (by decide)]
    exact this
set_option maxRecDepth 100000 in
set_option maxHeartbeats 4000000 in
theorem kg_session (L : Nat) (xs : Nat → Int32) (d : Nat) (σ : kS) (n R S C : Nat) (x a b c : Int32) (Q : Option Value → kS → Prop) (h : cJ σ n R S C) (hM : mRo σ n R) (hAr : aR σ R) (hAt : aT σ n) (gU : ¬ isN x R → Q (some (.int (-1))) σ) (gU2 : ∀ r v, r < R → x = nI r → σ 244 r = nI v → v ≤ 6 → ¬ parT n (hma σ r 0 v) a b c → Q (some (.int (-1))) σ) (gS : ∀ r v, r < R → x = nI r → σ 244 r = nI v → v ≤ 6 → parT n (hma σ r 0 v) a b c → σ 181 8 ≠ 0 → Q (some (.int (-3))) σ) (gF : ∀ r v, r < R → x = nI r → σ 244 r = nI v → v ≤ 6 → parT n (hma σ r 0 v) a b c → σ 181 8 = 0 → (S = 4 ∨ 200 < n + hma σ r 1 v) → Q (some (.int (-4))) σ) (gO : ∀ r v, r < R → x = nI r → σ 244 r = nI v → v ≤ 6 → parT n (hma σ r 0 v) a b c → σ 181 8 = 0 → S < 4 → n + hma σ r 1 v ≤ 200 → ¬ (hma σ r 0 v ≤ 3 ∧ parG σ n (hma σ r 0 v) a b c) → Q (some (.int (-5))) σ)
    (gN : ∀ r v ρ ω, r < R → x = nI r → σ 244 r = nI v → v ≤ 6 → parT n (hma σ r 0 v) a b c → σ 181 8 = 0 → S < 4 → n + hma σ r 1 v ≤ 200 → hma σ r 0 v ≤ 3 → parG σ n (hma σ r 0 v) a b c → (ρ 196 5 = 0 ∧ ρ 195 9 = -1 ∧ ρ 195 10 = 0 ∧ ρ 195 11 = 0 ∧ ∀ c, c ≠ 195 → c ≠ 196 → c ≠ 201 → ρ c = σ c) → nsP ρ ω n R S C r v a b c → Q (some (.int (nI S))) ω) : kXM kT L xs (d + 6) 118 [.ref 0, .int x, .int a, .int b, .int c] σ Q := by
  have hT := h.1
  have hn := hT.1
  have hR := h.2.1
  have hR4 := hR.1
  have hSe := h.2.2.1
  have hS4 := hSe.1
  unfold kXM
  iterate 3 (refine kX_one rfl ?_)
  refine kX_cal (mc_hasRole L xs (d + 4) σ R x hR4 hR.2.1) rfl (Or.inr rfl) rfl rfl rfl (fun r1 σ1 q1 => ?_)
  obtain ⟨rfl, rfl⟩ := q1
  repeat refine kX_one rfl ?_
  refine kX_if (fun q => ?_) (fun q => ?_)
  · obtain ⟨r, hr, rfl⟩ := isB_ne.mp (qne q)
    have hr4 : r < 4 := by omega
    obtain ⟨vc, ev, v1, e1, v2, e2, so1, ev1⟩ := hR.2.2 r hr
    have hPle : cnt (fun k => σ (24 + 35 * r) k = 0) vc ≤ vc := cnt_le _ _
    obtain ⟨ar1, ar2, ar3, ar4, ar5⟩ := hAr r hr
    have hvr : σ 244 r = nI vc := ar1.symm.trans v2
    have h24 : ∀ k, k < vc → σ (24 + 35 * r) k = σ 246 (6 * r + k) := fun k hk => (ar4 k (by rw [hvr, fN_nI (by omega)]; exact hk)).1
    have hH0 : cnt (fun k => σ (24 + 35 * r) k = 0) vc = hma σ r 0 vc := cnt_hma h24 (Nat.le_refl _)
    have hH1 : cnt (fun k => σ (24 + 35 * r) k = 1) vc = hma σ r 1 vc := cnt_hma1 h24 (Nat.le_refl _)
    have hag : ∀ w : Int32, (∃ t, t < n ∧ w = nI t ∧ σ 2 t = 0) ↔ ∃ z, z < n ∧ w = nI z ∧ σ 233 z = 0 := fun w => ⟨fun ⟨t, t1, t2, t3⟩ => ⟨t, t1, t2, by rw [← (hAt.1 t t1).1]; exact t3⟩, fun ⟨t, t1, t2, t3⟩ => ⟨t, t1, t2, by rw [(hAt.1 t t1).1]; exact t3⟩⟩
    have key : ∀ P, P ≤ 6 → cnt (fun k => σ (24 + 35 * r) k = 0) vc = P → kX kT L xs (d + 6) 118 28 [(5, .int (nI P)), (0, .ref 0), (1, .int (nI r)), (2, .int a), (3, .int b), (4, .int c)] [] σ Q := by
      intro P hP6 hP
      have hPh : hma σ r 0 vc = P := hH0.symm.trans hP
      have hU2 := gU2 r vc hr rfl hvr v1
      have hS' := gS r vc hr rfl hvr v1
      have hF' := gF r vc hr rfl hvr v1
      have hO' := gO r vc hr rfl hvr v1
      have hN' := gN r vc
      rw [hPh] at hU2 hS' hF' hO'
      have k79 : ¬ parT n P a b c → kX kT L xs (d + 6) 118 79 [(5, .int (nI P)), (0, .ref 0), (1, .int (nI r)), (2, .int a), (3, .int b), (4, .int c)] [] σ Q := by
        intro q
        repeat refine kX_one rfl ?_
        refine kX_ret (i := .ireturn) (len := 1) rfl (Or.inr rfl) rfl (hU2 q)
      have k132 : parT n P a b c → σ 181 8 = 0 → (S = 4 ∨ 200 < n + hma σ r 1 vc) → kX kT L xs (d + 6) 118 132 [(5, .int (nI P)), (0, .ref 0), (1, .int (nI r)), (2, .int a), (3, .int b), (4, .int c)] [] σ Q := by
        intro q1 q2 q3
        repeat refine kX_one rfl ?_
        refine kX_ret (i := .ireturn) (len := 1) rfl (Or.inr rfl) rfl (hF' q1 q2 q3)
      have k205 : ∀ z : Int32, parT n P a b c → σ 181 8 = 0 → S < 4 → n + hma σ r 1 vc ≤ 200 → ¬ (P ≤ 3 ∧ parG σ n P a b c) → kX kT L xs (d + 6) 118 205 [(6, .int z), (5, .int (nI P)), (0, .ref 0), (1, .int (nI r)), (2, .int a), (3, .int b), (4, .int c)] [] σ Q := by
        intro z q1 q2 q3 q4 q5
        repeat refine kX_one rfl ?_
        refine kX_ret (i := .ireturn) (len := 1) rfl (Or.inr rfl) rfl (hO' q1 q2 q3 q4 q5)
      have k81 : parT n P a b c → kX kT L xs (d + 6) 118 81 [(5, .int (nI P)), (0, .ref 0), (1, .int (nI r)), (2, .int a), (3, .int b), (4, .int c)] [] σ Q := by
        intro hpt
        repeat refine kX_one rfl ?_
        refine kX_if (fun q2 => ?_) (fun q2 => ?_)
        · have hon : σ 181 8 = 0 := qeq q2
          iterate 3 (refine kX_one rfl ?_)
          refine kX_top (hSe.2.1) ?_
          iterate 1 (refine kX_one rfl ?_)
          repeat refine kX_one rfl ?_
          refine kX_if (fun q3 => ?_) (fun q3 => ?_)
          · exact k132 hpt hon (Or.inl (by have := qge q3 S 4; omega))
          · have hS := qgeF q3 S 4
            have k191 : n + hma σ r 1 vc ≤ 200 → ¬ (P ≤ 3 ∧ parG σ n P a b c) → kX kT L xs (d + 6) 118 191 [(5, .int (nI P)), (0, .ref 0), (1, .int (nI r)), (2, .int a), (3, .int b), (4, .int c)] [] σ Q := by
              intro y1 y2
              iterate 4 (refine kX_one rfl ?_)
              repeat refine kX_one rfl ?_
              refine kX_if (fun q4 => ?_) (fun q4 => ?_)
              · exact kX_lv _ rfl rfl rfl (k205 0 hpt hon hS y1 y2)
              · iterate 2 (refine kX_one rfl ?_)
                exact kX_lv _ rfl rfl rfl (k205 0 hpt hon hS y1 y2)
            have k187 : n + hma σ r 1 vc ≤ 200 → (1 ≤ P → ∃ z, z < n ∧ a = nI z ∧ σ 233 z = 0) → (2 ≤ P → ∃ z, z < n ∧ b = nI z ∧ σ 233 z = 0) → (3 ≤ P → ∃ z, z < n ∧ c = nI z ∧ σ 233 z = 0) → kX kT L xs (d + 6) 118 187 [(5, .int (nI P)), (0, .ref 0), (1, .int (nI r)), (2, .int a), (3, .int b), (4, .int c)] [] σ Q := by
              intro hle ha hb hc
              iterate 5 (refine kX_one rfl ?_)
              repeat refine kX_one rfl ?_
              refine kX_if (fun q4 => ?_) (fun q4 => ?_)
              · have q4 := qgt q4 P 3
                exact kX_lv _ rfl rfl rfl (k205 1 hpt hon hS hle (fun e => by have := e.1; omega))
              · have q4 := qgtF q4 P 3
                have hpg : parG σ n P a b c := fun i hi => by
                  have : i = 0 ∨ i = 1 ∨ i = 2 := by omega
                  rcases this with rfl | rfl | rfl
                  · exact ha hi
                  · exact hb hi
                  · exact hc hi
                have gva : ∀ w : Int32, (∃ z, z < n ∧ w = nI z ∧ σ 233 z = 0) → gV σ n w := fun w hw => ag_ground hT ((hag w).mpr hw)
                iterate 4 (refine kX_one rfl ?_)
                refine kX_cal (mf_forget L xs (d + 2) σ) rfl (Or.inr rfl) rfl rfl rfl (fun r1 ρ q1 => ?_)
                obtain ⟨rfl, g1, g2, g4, g5, -, -, g3⟩ := q1
                have h2 := cJ_sr h g3 (cSr_0 g1 g2)
                have eg : ∀ e, e < 181 → ρ e = σ e := fun e he => g3 e (by omega) (by omega) (by omega)
                have hgv : ∀ w, gV σ n w → gV ρ n w := fun w hw => gV_up (Nat.le_refl _) (fun z _ => by rw [eg _ (by decide)]) hw
                have h24' : ρ (24 + 35 * r) = σ (24 + 35 * r) := eg _ (by omega)
                have eh : ∀ e, 232 ≤ e → ρ e = σ e := fun e he => g3 e (by omega) (by omega) (by omega)
                have hMρ : mRo ρ n R := mRo_eq eh hM
                have hArρ : aR ρ R := aR_eq2 hM (fun c c1 c2 => eg c (by omega)) eh hAr
                have hAtρ : aT ρ n := aT_c (fun c c1 c2 => eg c (by omega)) (eqC_of (P := fun c => 232 ≤ c) eh _ (by decide)) hAt
                have hma' : ∀ a k, hma ρ r a k = hma σ r a k := fun a k => hma_eq (eh _ (by decide)) r a k
                iterate 6 (refine kX_one rfl ?_)
                refine kX_cal (mf_newSession L xs d ρ n R S C r vc a b c h2 hS hr v1 (by rw [eg _ (by omega)]; exact v2) (by rw [h24', hP]; exact q4) (by rw [h24', hP]; exact fun z => hgv _ (gva _ (ha z))) (by rw [h24', hP]; exact fun z => hgv _ (gva _ (hb z))) (by rw [h24', hP]; exact fun z => hgv _ (gva _ (hc z))) hMρ hArρ hAtρ (by rw [hma']; exact hle) (by rw [hma', hPh]; intro i hi; obtain ⟨z, z1, z2, z3⟩ := hpg i hi; exact ⟨z, z1, z2, by rw [eh _ (by decide)]; exact z3⟩) (by rw [g3 181 (by decide) (by decide) (by decide)]; exact hon) g1 g2) rfl (Or.inr rfl) rfl rfl rfl (fun r1 τ q1 => ?_)
                obtain ⟨rfl, hA⟩ := q1
                refine kX_ret (i := .ireturn) (len := 1) rfl (Or.inr rfl) rfl (hN' ρ τ hr rfl hvr v1 (by rw [hPh]; exact hpt) hon hS hle (by rw [hPh]; exact q4) (by rw [hPh]; exact hpg) ⟨g1, g2, g4, g5, g3⟩ hA)
            have k169 : n + hma σ r 1 vc ≤ 200 → (1 ≤ P → ∃ z, z < n ∧ a = nI z ∧ σ 233 z = 0) → (2 ≤ P → ∃ z, z < n ∧ b = nI z ∧ σ 233 z = 0) → kX kT L xs (d + 6) 118 169 [(5, .int (nI P)), (0, .ref 0), (1, .int (nI r)), (2, .int a), (3, .int b), (4, .int c)] [] σ Q := by
              intro hle ha hb
              iterate 2 (refine kX_one rfl ?_)
              repeat refine kX_one rfl ?_
              refine kX_if (fun q4 => ?_) (fun q4 => ?_)
              · have q4 := qlt q4 P 3
                exact k187 hle ha hb (fun z => by omega)
              · iterate 3 (refine kX_one rfl ?_)
                refine kX_cal (mc_isAgent L xs (d + 3) σ n c hn hT.2.1) rfl (Or.inr rfl) rfl rfl rfl (fun r1 σ1 q1 => ?_)
                obtain ⟨rfl, rfl⟩ := q1
                repeat refine kX_one rfl ?_
                refine kX_if (fun q5 => ?_) (fun q5 => ?_)
                · have q4 := qltF q4 P 3
                  refine k191 hle (fun e => isB_ne.mpr ((hag c).mpr ?_) (qeq q5))
                  exact e.2 2 (by omega)
                · exact k187 hle ha hb (fun _ => (hag c).mp (isB_ne.mp (qeqF q5)))
            have k152 : n + hma σ r 1 vc ≤ 200 → (1 ≤ P → ∃ z, z < n ∧ a = nI z ∧ σ 233 z = 0) → kX kT L xs (d + 6) 118 152 [(5, .int (nI P)), (0, .ref 0), (1, .int (nI r)), (2, .int a), (3, .int b), (4, .int c)] [] σ Q := by
              intro hle ha
              iterate 2 (refine kX_one rfl ?_)
              repeat refine kX_one rfl ?_
              refine kX_if (fun q4 => ?_) (fun q4 => ?_)
              · have q4 := qlt q4 P 2
                exact k169 hle ha (fun z => by omega)
              · iterate 3 (refine kX_one rfl ?_)
                refine kX_cal (mc_isAgent L xs (d + 3) σ n b hn hT.2.1) rfl (Or.inr rfl) rfl rfl rfl (fun r1 σ1 q1 => ?_)
                obtain ⟨rfl, rfl⟩ := q1
                repeat refine kX_one rfl ?_
                refine kX_if (fun q5 => ?_) (fun q5 => ?_)
                · have q4 := qltF q4 P 2
                  refine k191 hle (fun e => isB_ne.mpr ((hag b).mpr ?_) (qeq q5))
                  exact e.2 1 (by omega)
                · exact k169 hle ha (fun _ => (hag b).mp (isB_ne.mp (qeqF q5)))
            iterate 7 (refine kX_one rfl ?_)
            refine kX_aaldN rfl (rfl) (by decide) (by decide) (by decide) (r) (by first | rfl | decide) (hr4) (ro_at hr4) ?_
            iterate 1 (refine kX_one rfl ?_)
            refine kX_cal (mc_countOf L xs (d + 4) σ r vc 1 hr4 v1 v2) rfl (Or.inr rfl) rfl (jcall_v rfl rfl rfl (kT_ro hr4) rfl rfl) rfl (fun r1 σ1 q1 => ?_)
            obtain ⟨rfl, rfl⟩ := q1
            rw [hH1]
            have H1 := hma_le σ r 1 vc
            iterate 1 (refine kX_one rfl ?_)
            refine kX_top (y := nI (n + hma σ r 1 vc)) (by rw [hT.2.1]; exact nI_add _ _) ?_
            iterate 1 (refine kX_one rfl ?_)
            repeat refine kX_one rfl ?_
            refine kX_if (fun q4 => ?_) (fun q4 => ?_)
            · have hle := qle q4 (n + hma σ r 1 vc) 200
              iterate 2 (refine kX_one rfl ?_)
              repeat refine kX_one rfl ?_
              refine kX_if (fun q5 => ?_) (fun q5 => ?_)
              · have q5 := qlt q5 P 1
                exact k152 hle (fun z => by omega)
              · iterate 3 (refine kX_one rfl ?_)
                refine kX_cal (mc_isAgent L xs (d + 3) σ n a hn hT.2.1) rfl (Or.inr rfl) rfl rfl rfl (fun r1 σ1 q1 => ?_)
                obtain ⟨rfl, rfl⟩ := q1
                repeat refine kX_one rfl ?_
                refine kX_if (fun q6 => ?_) (fun q6 => ?_)
                · have q5 := qltF q5 P 1
                  refine k191 hle (fun e => isB_ne.mpr ((hag a).mpr ?_) (qeq q6))
                  exact e.2 0 (by omega)
                · exact k152 hle (fun _ => (hag a).mp (isB_ne.mp (qeqF q6)))
            · exact k132 hpt hon (Or.inr (qleF q4 (n + hma σ r 1 vc) 200))
        · have q2 := qeqF q2
          repeat refine kX_one rfl ?_
          refine kX_ret (i := .ireturn) (len := 1) rfl (Or.inr rfl) rfl (hS' hpt q2)
      have k61 : (0 < P → isN a n) → (1 < P → isN b n) → kX kT L xs (d + 6) 118 61 [(5, .int (nI P)), (0, .ref 0), (1, .int (nI r)), (2, .int a), (3, .int b), (4, .int c)] [] σ Q := by
        intro p1 p2
        iterate 2 (refine kX_one rfl ?_)
        repeat refine kX_one rfl ?_
        refine kX_if (fun q2 => ?_) (fun q2 => ?_)
        · have q2 := qle q2 P 2
          exact k81 ⟨p1, p2, fun z => by omega⟩
        · have q2 := qleF q2 P 2
          iterate 3 (refine kX_one rfl ?_)
          refine kX_cal (mc_has L xs (d + 4) σ n c hn hT.2.1) rfl (Or.inr rfl) rfl rfl rfl (fun r1 σ1 q1 => ?_)
          obtain ⟨rfl, rfl⟩ := q1
          repeat refine kX_one rfl ?_
          refine kX_if (fun q3 => ?_) (fun q3 => ?_)
          · exact k81 ⟨p1, p2, fun _ => isB_ne.mp (qne q3)⟩
          · exact k79 (fun e => isB_ne.mpr (e.2.2 q2) (qneF q3))
      have k44 : (0 < P → isN a n) → kX kT L xs (d + 6) 118 44 [(5, .int (nI P)), (0, .ref 0), (1, .int (nI r)), (2, .int a), (3, .int b), (4, .int c)] [] σ Q := by
        intro p1
        iterate 2 (refine kX_one rfl ?_)
        repeat refine kX_one rfl ?_
        refine kX_if (fun q2 => ?_) (fun q2 => ?_)
        · have q2 := qle q2 P 1
          exact k61 p1 (fun z => by omega)
        · have q2 := qleF q2 P 1
          iterate 3 (refine kX_one rfl ?_)
          refine kX_cal (mc_has L xs (d + 4) σ n b hn hT.2.1) rfl (Or.inr rfl) rfl rfl rfl (fun r1 σ1 q1 => ?_)
          obtain ⟨rfl, rfl⟩ := q1
          repeat refine kX_one rfl ?_
          refine kX_if (fun q3 => ?_) (fun q3 => ?_)
          · exact k79 (fun e => isB_ne.mpr (e.2.1 q2) (qeq q3))
          · exact k61 p1 (fun _ => isB_ne.mp (qeqF q3))
      iterate 1 (refine kX_one rfl ?_)
      repeat refine kX_one rfl ?_
      refine kX_if (fun q2 => ?_) (fun q2 => ?_)
      · have q2 := qle q2 P 0
        exact k44 (fun z => by omega)
      · have q2 := qleF q2 P 0
        iterate 3 (refine kX_one rfl ?_)
        refine kX_cal (mc_has L xs (d + 4) σ n a hn hT.2.1) rfl (Or.inr rfl) rfl rfl rfl (fun r1 σ1 q1 => ?_)
        obtain ⟨rfl, rfl⟩ := q1
        repeat refine kX_one rfl ?_
        refine kX_if (fun q3 => ?_) (fun q3 => ?_)
        · exact k79 (fun e => isB_ne.mpr (e.1 q2) (qeq q3))
        · exact k44 (fun _ => isB_ne.mp (qeqF q3))
    iterate 4 (refine kX_one rfl ?_)
    refine kX_aaldN rfl (rfl) (by decide) (by decide) (by decide) (r) (by first | rfl | decide) (hr4) (ro_at hr4) ?_
    iterate 1 (refine kX_one rfl ?_)
    refine kX_cal (mc_countOf L xs (d + 4) σ r vc 0 hr4 v1 v2) rfl (Or.inr rfl) rfl (jcall_v rfl rfl rfl (kT_ro hr4) rfl rfl) rfl (fun r1 σ1 q1 => ?_)
    obtain ⟨rfl, rfl⟩ := q1
    iterate 1 (refine kX_one rfl ?_)
    exact kX_lv _ rfl rfl rfl (key _ (by omega) rfl)
  · have q := qneF q
    repeat refine kX_one rfl ?_
    refine kX_ret (i := .ireturn) (len := 1) rfl (Or.inr rfl) rfl (gU (fun e => isB_ne.mpr e q))
end
section
/-! alike: session -/
theorem ssV_eq {σ τ : kS} (e : τ 246 = σ 246) (n r : Nat) (a b c : Int32) (k : Nat) : ssV τ n r a b c k = ssV σ n r a b c k := by
  unfold ssV
  rw [hma_eq e, hma_eq e, e]
theorem seN_eq {σ τ : kS} {K : Nat → Int32} {n r v : Nat} (e1 : τ 246 = σ 246) (e2 : τ 240 = σ 240) (e3 : τ 245 = σ 245) (h : seN τ K n r v) : seN σ K n r v := fun k hk ha => by
  have := h k hk (by rw [e1]; exact ha)
  rw [hma_eq e1, e2, e3] at this
  exact this
theorem aM_eq2 {σ ω : kS} {m : Nat} (e : ∀ c, 186 ≤ c → c < 222 → c ≠ 195 → c ≠ 196 → c ≠ 201 → ω c = σ c) (h : aM σ m) : aM ω m := by
  obtain ⟨m1, m2, m3, a1, a2, a3, a4, a5, a6⟩ := h
  exact ⟨m1, m2, m3, a1, a2, a3, kMs_eq (fun c c1 c2 => e c (by omega) (by omega) (by omega) (by omega) (by omega)) a4, kMs_eq (fun c c1 c2 => e c (by omega) (by omega) (by omega) (by omega) (by omega)) a5, kMs_eq (fun c c1 c2 => e c (by omega) (by omega) (by omega) (by omega) (by omega)) a6⟩
/-- one SESSION more on both sides -/
theorem bJ_se {σ ρ τ τ' ω : kS} {n b n2 b' R S C m r v : Nat} {kl : List Nat} {a1 a2 a3 : Int32} (h : aJ σ n b R S C kl m) (hr : r < R) (hv6 : v ≤ 6) (hv : σ 244 r = nI v) (hS : S < 4) (hrn : σ 232 52 = 0) (h03 : hma σ r 0 v ≤ 3) (hpg : parG σ n (hma σ r 0 v) a1 a2 a3) (hf : ρ 196 5 = 0 ∧ ρ 195 9 = -1 ∧ ρ 195 10 = 0 ∧ ρ 195 11 = 0 ∧ ∀ c, c ≠ 195 → c ≠ 196 → c ≠ 201 → ρ c = σ c) (hP : nsP ρ τ n R S C r v a1 a2 a3) (hn2 : n2 = n + hma σ r 1 v) (hn200 : n2 ≤ 200) (hL : mLow τ τ') (hR : seR τ τ' n n2 S r v a1 a2 a3) (hω : ω = va_up (seS τ' S r) 232 (fgO (seS τ' S r 232))) (hI : mI ω n2 b' R (S + 1) C kl) : bJ m ω := by
  obtain ⟨i, j, tt, ar, as, ac, k, u, f, mm⟩ := h
  have hR4 := i.2.1.1
  obtain ⟨f1, f2, f3, f4, f5⟩ := hf
  obtain ⟨n', ho, p1, p2, p3, p4, p5, p6, p7, p8⟩ := hP
  obtain ⟨s1, s2, s3, s4, s5, s6, s7⟩ := hR
  obtain ⟨q1, q2, q3, q4, q5, q6, q7, q8⟩ := p2
  have hfv : fN (σ 244 r) = v := by rw [hv, fN_nI (by omega)]
  have eρ : ∀ c, 232 ≤ c → ρ c = σ c := fun c hc => f5 c (by omega) (by omega) (by omega)
  have eτ : ∀ c, 232 ≤ c → τ c = σ c := fun c hc => (p8 c (by omega) (by omega) (by omega) (by omega) (by omega) (by omega)).trans (eρ c hc)
  have hmaρ : ∀ a k, hma ρ r a k = hma σ r a k := hma_eq (eρ _ (by decide)) r
  have hmaτ : ∀ a k, hma τ r a k = hma σ r a k := hma_eq (eτ _ (by decide)) r
  have ssρ : ∀ k, ssV ρ n r a1 a2 a3 k = ssV σ n r a1 a2 a3 k := ssV_eq (eρ _ (by decide)) n r a1 a2 a3
  have ssτ : ∀ k, ssV τ n r a1 a2 a3 k = ssV σ n r a1 a2 a3 k := ssV_eq (eτ _ (by decide)) n r a1 a2 a3
  have hmin : min 6 v = v := by omega
  rw [hmin] at q1 q4
  rw [hmaρ] at q1
  obtain rfl : n' = n2 := by omega
  have lo : ∀ c, c < 232 → ω c = τ c := fun c hc => by
    rw [hω]
    unfold seS
    rw [up_ne (by omega), up_ne (by omega), up_ne (by omega), up_ne (by omega)]
    exact hL c hc
  have el : ∀ e, 13 ≤ e → e < 232 → e ≠ 13 → e ≠ 17 → e ≠ 15 → e ≠ 16 → e ≠ 23 + 35 * r → e ≠ 195 → e ≠ 196 → e ≠ 201 → ω e = σ e := fun e x0 x1 x2 x3 x4 x5 x6 x7 x8 x9 => (lo e x1).trans ((p8 e x0 x2 x3 x4 x5 x6).trans (f5 e x7 x8 x9))
  have er : ∀ e, 232 < e → e ∉ rowC → e ≠ 256 → e ≠ 255 → e ≠ 250 → ω e = σ e := fun e x0 x1 x2 x3 x4 => by
    rw [hω]
    unfold seS
    rw [up_ne (by omega), up_ne (by omega), up_ne x4, up_ne x3, s1 e x0 x1 x2, eτ e (by omega)]
  have hr' : ∀ l : List Nat, l.all (fun c => decide (232 < c ∧ c ∉ rowC ∧ c ≠ 256 ∧ c ≠ 255 ∧ c ≠ 250)) = true → eqC σ ω l := eqC_of (fun c q => er c q.1 q.2.1 q.2.2.1 q.2.2.2.1 q.2.2.2.2)
  have one : ∀ c, [c].all (fun c => decide (232 < c ∧ c ∉ rowC ∧ c ≠ 256 ∧ c ≠ 255 ∧ c ≠ 250)) = true → ω c = σ c := fun c hc => hr' [c] hc c (List.mem_singleton.mpr rfl)
  have e_sr : ω 255 = upd (σ 255) S (nI r) := by
    rw [hω]; show upd (τ' 255) S (nI r) = _; rw [s1 _ (by decide) (by decide) (by decide), eτ _ (by decide)]
  have e_cl : ω 250 = upd (σ 250) r 1 := by
    rw [hω]; show upd (τ' 250) r 1 = _; rw [s1 _ (by decide) (by decide) (by decide), eτ _ (by decide)]
  have e_af : ω 256 = τ' 256 := by rw [hω]; rfl
  have hk : ∀ t, t < n → ω 233 t = σ 233 t ∧ ω 234 t = σ 234 t ∧ ω 235 t = σ 235 t := fun t ht => by
    have := s4 t ht
    rw [eτ 233 (by decide), eτ 234 (by decide), eτ 235 (by decide)] at this
    rw [hω]
    exact this
  have hk2 : ∀ u, u < n → ω 233 u = σ 233 u ∧ ω 234 u = σ 234 u ∧ ω 235 u = σ 235 u ∧ ω 240 u = σ 240 u ∧ ω 241 u = σ 241 u := fun u hu => ⟨(hk u hu).1, (hk u hu).2.1, (hk u hu).2.2, by rw [one 240 (by decide)], by rw [one 241 (by decide)]⟩
  have hnn : n ≤ n' := by omega
  have hsg := fun t (ht : t < n) => mTb_sg i.1 hI.1 hnn hk ht
  have eru : ω 232 52 = 0 := by
    rw [hω]
    show τ' 232 52 = 0
    rw [s2 _ (by decide), eτ _ (by decide)]
    exact hrn
  have hbd : ∀ r' dn k, r' < R → dn ≤ fN (σ 247 r') → (bdv ω r' dn k ↔ bdv σ r' dn k) := fun r' dn k hr' hdn => by
    unfold bdv
    rw [one 244 (by decide), one 246 (by decide), one 249 (by decide), one 245 (by decide), one 248 (by decide)]
    refine and_congr_right (fun _ => or_congr_right (exists_congr (fun e => and_congr_right (fun he => and_congr_right (fun _ => ?_)))))
    obtain ⟨t, t1, t2, -⟩ := i.2.1.2.2.2.2.2 r' e hr' (by omega)
    have hn1 := i.1.1
    rw [t2, fN_nI (by omega), (fT_all i.1 hk t1).2.2]
  have hbl : ∀ r' e, r' < R → e < fN (σ 247 r') → bls ω r' e = bls σ r' e := fun r' e hr' he => by
    have hn1 := i.1.1
    obtain ⟨t, t1, t2, -⟩ := i.2.1.2.2.2.2.2 r' e hr' he
    unfold bls
    rw [one 248 (by decide), t2, fN_nI (by omega), (fT_all i.1 hk t1).2.2, one 241 (by decide)]
    refine fl_congr (fun w hw => ?_)
    unfold nbv
    rw [hbd r' _ _ hr' (by omega), hbd r' _ _ hr' (by omega)]
  have hop : ∀ j, j < 7 * S → ω 17 j = σ 17 j := fun j hj => by
    rw [lo _ (by decide), p6 j hj, f5 _ (by decide) (by decide) (by decide)]
  have haf : ∀ j, j < 6 * S → ω 256 j = σ 256 j := fun j hj => by
    rw [e_af, s3 j hj, eτ _ (by decide)]
  have hafS : ∀ k, k < v → ω 256 (6 * S + k) = ssV σ n r a1 a2 a3 k := fun k hk => by
    rw [e_af, s7 k hk, ssτ]
  have hnew : ∀ t, n ≤ t → t < n' → ∃ so, (so = 1 ∨ so = 2) ∧ ω 2 t = nI so ∧ ω 233 t = nI so := fun t t1 t2 => by
    obtain ⟨k0, k1, k2, k3⟩ := hma_at σ r v (t - n) (by omega)
    obtain ⟨tv, so, asv, w1, w2, w3, w4, w5, w6, w7, w8, w9, w10, w11⟩ := i.2.1.2.2.2.1 r k0 hr (by omega)
    have has : asv = 1 := nI_inj (w9.symm.trans k2)
    have hso := w11 has
    have hn1 := i.1.1
    have hst : σ 240 (fN (σ 245 (6 * r + k0))) = nI so := by rw [w2, fN_nI (by omega)]; exact w7
    have c1 := (seN_eq (eρ _ (by decide)) (eρ _ (by decide)) (eρ _ (by decide)) q4) k0 k1 k2
    have c2 := (seN_eq (eτ _ (by decide)) (eτ _ (by decide)) (eτ _ (by decide)) s6) k0 k1 k2
    rw [hst, k3, show n + (t - n) = t by omega] at c1 c2
    refine ⟨so, hso, ?_, ?_⟩
    · rw [lo _ (by decide)]
      exact c1
    · rw [hω]
      exact c2
  refine ⟨n', b', R, S + 1, C, kl, hI, cJ_low lo p1, ⟨fun t ht => ?_, ?_⟩, fun r' hr2 => ?_, fun s hs => ?_, aC_c i.2.2.2.2.1 (fun c c1 c2 => el c (by omega) (by omega) (by omega) (by omega) (by omega) (by omega) (by omega) (by omega) (by omega) (by omega)) (hr' _ (by decide)) ac, aK_eq ?_ (el _ (by decide) (by decide) (by decide) (by decide) (by decide) (by decide) (by omega) (by decide) (by decide) (by decide)) k, aU_none ?_ eru, aF_none ?_ ?_ ?_ ?_ (by rw [hω]; rfl) (by rw [hω]; rfl) (by rw [hω]; rfl) (by rw [hω]; rfl), aM_eq2 (fun c c1 c2 c3 c4 c5 => el c (by omega) (by omega) (by omega) (by omega) (by omega) (by omega) (by omega) c3 c4 c5) mm⟩
  · by_cases e : t < n
    · obtain ⟨g1, g2, g3, g4, g5, g6, g7, g8, g9⟩ := q2 t e
      have := tt.1 t e
      unfold aT1 at this ⊢
      rw [lo 2 (by decide), lo 3 (by decide), lo 4 (by decide), lo 5 (by decide), lo 8 (by decide), lo 9 (by decide), lo 10 (by decide), lo 11 (by decide), lo 12 (by decide), g1, g2, g3, g4, g5, g6, g7, g8, g9, f5 2 (by decide) (by decide) (by decide), f5 3 (by decide) (by decide) (by decide), f5 4 (by decide) (by decide) (by decide), f5 5 (by decide) (by decide) (by decide), f5 8 (by decide) (by decide) (by decide), f5 9 (by decide) (by decide) (by decide), f5 10 (by decide) (by decide) (by decide), f5 11 (by decide) (by decide) (by decide), f5 12 (by decide) (by decide) (by decide), (hk t e).1, (hk t e).2.1, (hk t e).2.2, (hsg t e).1, (hsg t e).2, one 238 (by decide), one 239 (by decide), one 240 (by decide), one 241 (by decide)]
      exact this
    · obtain ⟨so, c1, c2, c3⟩ := hnew t (by omega) ht
      obtain ⟨d1, d2, d3, d4⟩ := q3 t (by omega) ht
      have esz := hI.1.2.2.2.2.2.1.2.1 t (Or.inl ht)
      have egr := hI.1.2.2.2.2.2.2.1 t (Or.inl ht)
      have c4 : ω 234 t = -1 ∧ ω 235 t = -1 := by
        rw [hω]
        exact s5 t (by omega) ht
      have g2 : tsz (ω 233) (ω 234) (ω 235) t = 1 := tA_0 c3 (by omega)
      have g3 : tgd (ω 233) (ω 234) (ω 235) t = true := by
        have : tgd (ω 233) (ω 234) (ω 235) t = decide (ω 233 t ≠ nI 3) := tA_0 c3 (by omega)
        rw [this, c3]
        exact decide_eq_true (nI_ne (by omega))
      unfold aT1
      rw [c2, c3, lo 3 (by decide), lo 4 (by decide), lo 5 (by decide), lo 8 (by decide), d1, d2, d3, d4, c4.1, c4.2, esz, egr, g2, g3]
      refine ⟨rfl, rfl, rfl, rfl, rfl, fun z => ?_, fun z => ?_⟩
      · have := nI_inj z
        omega
      · have := nI_inj z
        omega
  · unfold cCn cpt at q5 ⊢
    rw [lo 2 (by decide), lo 3 (by decide), lo 4 (by decide), lo 7 (by decide), lo 6 (by decide)]
    exact q5
  · obtain ⟨-, ev, ev1, ev2⟩ := i.2.1.2.2.1 r' hr2
    have he6 : fN (σ 247 r') ≤ 6 := by rw [ev2, fN_nI (by omega)]; exact ev1
    obtain ⟨g1, g2, g3, g4, g5⟩ := ar r' hr2
    have c24 : ω (24 + 35 * r') = σ (24 + 35 * r') := el _ (by omega) (by omega) (by omega) (by omega) (by omega) (by omega) (by omega) (by omega) (by omega) (by omega)
    have c25 : ω (25 + 35 * r') = σ (25 + 35 * r') := el _ (by omega) (by omega) (by omega) (by omega) (by omega) (by omega) (by omega) (by omega) (by omega) (by omega)
    have c26 : ω (26 + 35 * r') = σ (26 + 35 * r') := el _ (by omega) (by omega) (by omega) (by omega) (by omega) (by omega) (by omega) (by omega) (by omega) (by omega)
    have c23 : ω (23 + 35 * r') 3 = σ (23 + 35 * r') 3 ∧ ω (23 + 35 * r') 5 = σ (23 + 35 * r') 5 ∧ (ω (23 + 35 * r') 6 ≠ 0 ↔ ω 250 r' ≠ 0) := by
      by_cases e : r' = r
      · subst e
        rw [lo _ (by omega), p3, e_cl, f5 _ (by omega) (by omega) (by omega)]
        exact ⟨rfl, rfl, fun _ => by rw [pk_us]; decide, fun _ => by show (1 : Int32) ≠ 0; decide⟩
      · rw [el _ (by omega) (by omega) (by omega) (by omega) (by omega) (by omega) (by omega) (by omega) (by omega) (by omega), e_cl, pk_un e]
        exact ⟨rfl, rfl, g3⟩
    unfold aR1
    rw [c23.1, c23.2.1, c24, c25, c26, one 244 (by decide), one 247 (by decide), one 246 (by decide), one 240 (by decide), one 245 (by decide)]
    refine ⟨g1, g2, c23.2.2, fun k hk => ?_, fun e he => ?_⟩
    · rw [hbd r' _ _ hr2 (Nat.le_refl _)]
      exact g4 k hk
    · exact aE_g i.1 i.2.1 hr2 he hk2 (by rw [one 248 (by decide)]) (by rw [one 249 (by decide)]) (hbl r' e hr2 he) (fun i hi => el _ (by omega) (by omega) (by omega) (by omega) (by omega) (by omega) (by omega) (by omega) (by omega) (by omega)) (g5 e he)
  · by_cases e : s = S
    · subst e
      unfold aS1 hoF
      have eo : ω 17 = τ 17 := lo _ (by decide)
      rw [lo 15 (by decide), p4, e_sr, pk_us, pk_us, fN_nI (by omega), one 244 (by decide), hfv, eo, lo 16 (by decide), p5, pk_us, one 246 (by decide), one 238 (by decide)]
      refine ⟨rfl, q6, fun k hk => ?_, ?_⟩
      · rw [q7 k hk]
        by_cases e2 : k < v
        · rw [if_pos e2, if_pos e2, hafS k e2, ssρ]
        · rw [if_neg e2, if_neg e2]
      · rw [q8]
        constructor
        · intro z k hk ha
          rw [hafS k hk, ← ssρ, ← eρ 238 (by decide)]
          exact z k (by omega) hk (by rw [eρ 246 (by decide)]; exact ha)
        · intro z k _ hk ha
          rw [ssρ, eρ 238 (by decide), ← hafS k hk]
          exact z k hk (by rw [← eρ 246 (by decide)]; exact ha)
    · have hs' : s < S := by omega
      obtain ⟨a1, a2, a3, a4⟩ := as s hs'
      obtain ⟨rs, r1, r2, -, r4⟩ := i.2.2.1.2.2 s hs'
      obtain ⟨⟨vs, v1, v2⟩, -⟩ := i.2.1.2.2.1 rs r1
      have hrs : fN (σ 255 s) = rs := by rw [r2, fN_nI (by omega)]
      have hvs : fN (σ 244 rs) ≤ 6 := by rw [v2, fN_nI (by omega)]; exact v1
      unfold hoF at a4
      unfold aS1 hoF
      rw [hrs] at a3 a4
      rw [lo 15 (by decide), p4, e_sr, pk_un e, pk_un e, hrs, one 244 (by decide), lo 16 (by decide), p5, pk_un e, one 246 (by decide), one 238 (by decide), f5 15 (by decide) (by decide) (by decide), f5 16 (by decide) (by decide) (by decide), hop _ (by omega)]
      refine ⟨a1, a2, fun k hk => ?_, ?_⟩
      · rw [hop _ (by omega), haf _ (by omega)]
        exact a3 k hk
      · rw [a4]
        refine forall_congr' (fun k => ?_)
        refine imp_congr_right (fun hk => ?_)
        rw [haf _ (by omega)]
  · rw [lo 13 (by decide), p7 _ (by decide), f5 13 (by decide) (by decide) (by decide)]
  · rw [el 181 (by decide) (by decide) (by decide) (by decide) (by decide) (by decide) (by omega) (by decide) (by decide) (by decide)]
    exact Classical.byContradiction (fun z => absurd hrn (u.1.mp z))
  · rw [lo 196 (by decide), p8 196 (by decide) (by decide) (by decide) (by decide) (by decide) (by omega)]
    exact f1
  · rw [lo 195 (by decide), p8 195 (by decide) (by decide) (by decide) (by decide) (by decide) (by omega)]
    exact f3
  · rw [lo 195 (by decide), p8 195 (by decide) (by decide) (by decide) (by decide) (by decide) (by omega)]
    exact f4
  · rw [lo 195 (by decide), p8 195 (by decide) (by decide) (by decide) (by decide) (by decide) (by omega)]
    exact f2
theorem bo_session (L : Nat) (xs : Nat → Int32) (d d' m : Nat) (σ : kS) (x a b c : Int32) (h : bJ m σ) : kXM kT L xs (d + 6) 118 [.ref 0, .int x, .int a, .int b, .int c] σ (fun r τ => ∃ z, r = some (.int z) ∧ kXM kT L xs (d' + 4) 170 [.ref 232, .int x, .int a, .int b, .int c] τ (fun r' ω => r' = some (.int z) ∧ bJ m ω)) := by
  have hb := h
  obtain ⟨n, bb, R, S, C, kl, h⟩ := h
  have hI := h.1
  have hU := h.2.2.2.2.2.2.2.1
  have hR4 := hI.2.1.1
  -- which role it is, and how many VARIABLES it has
  have uni : ∀ r r' v v', r < R → r' < R → x = nI r → x = nI r' → σ 244 r = nI v → σ 244 r' = nI v' → v ≤ 6 → v' ≤ 6 → r' = r ∧ v' = v := fun r r' v v' h1 h2 e1 e2 f1 f2 h3 h4 => by
    obtain rfl : r' = r := nI_inj (e2.symm.trans e1)
    exact ⟨rfl, nI_inj (f2.symm.trans f1)⟩
  have hon : σ 181 8 = 0 → σ 232 52 = 0 := fun q => Classical.byContradiction (fun z => hU.1.mpr z q)
  refine kg_session L xs d σ n R S C x a b c _ h.2.1 hI.2.1 h.2.2.2.1 h.2.2.1 (fun q => ⟨_, rfl, ?_⟩) (fun r v c1 c2 c3 c0 c4 => ⟨_, rfl, ?_⟩) (fun r v c1 c2 c3 c0 c4 c5 => ⟨_, rfl, ?_⟩) (fun r v c1 c2 c3 c0 c4 c5 c6 => ⟨_, rfl, ?_⟩) (fun r v c1 c2 c3 c0 c4 c5 c6 c7 c8 => ⟨_, rfl, ?_⟩) (fun r v ρ ω c1 c2 c3 c4 c5 c6 c7 c8 c9 c10 c11 c12 => ⟨_, rfl, ?_⟩)
  · exact mg_session L xs d' σ n bb R S C kl x a b c _ hI (fun _ => ⟨rfl, hb⟩) (fun r v e1 e2 => absurd ⟨r, e1, e2⟩ q) (fun r v e1 e2 => absurd ⟨r, e1, e2⟩ q) (fun r v e1 e2 => absurd ⟨r, e1, e2⟩ q) (fun r v e1 e2 => absurd ⟨r, e1, e2⟩ q) (fun r v τ n' b' e1 e2 => absurd ⟨r, e1, e2⟩ q)
  · have no : ∀ r' v', r' < R → x = nI r' → σ 244 r' = nI v' → v' ≤ 6 → ¬ parT n (hma σ r' 0 v') a b c := fun r' v' e1 e2 e3 e0 => by
      obtain ⟨rfl, rfl⟩ := uni r r' v v' c1 e1 c2 e2 c3 e3 c0 e0
      exact c4
    exact mg_session L xs d' σ n bb R S C kl x a b c _ hI (fun z => absurd ⟨r, c1, c2⟩ z) (fun _ _ _ _ _ _ _ => ⟨rfl, hb⟩) (fun r' v' e1 e2 e3 e0 e4 => absurd e4 (no r' v' e1 e2 e3 e0)) (fun r' v' e1 e2 e3 e0 e4 => absurd e4 (no r' v' e1 e2 e3 e0)) (fun r' v' e1 e2 e3 e0 e4 => absurd e4 (no r' v' e1 e2 e3 e0)) (fun r' v' τ n' b' e1 e2 e3 e0 e4 => absurd e4 (no r' v' e1 e2 e3 e0))
  · have yes : ∀ r' v', r' < R → x = nI r' → σ 244 r' = nI v' → v' ≤ 6 → parT n (hma σ r' 0 v') a b c := fun r' v' e1 e2 e3 e0 => by
      obtain ⟨rfl, rfl⟩ := uni r r' v v' c1 e1 c2 e2 c3 e3 c0 e0
      exact c4
    have hr := hU.1.mp c5
    exact mg_session L xs d' σ n bb R S C kl x a b c _ hI (fun z => absurd ⟨r, c1, c2⟩ z) (fun r' v' e1 e2 e3 e0 e4 => absurd (yes r' v' e1 e2 e3 e0) e4) (fun _ _ _ _ _ _ _ _ => ⟨rfl, hb⟩) (fun r' v' e1 e2 e3 e0 e4 e5 => absurd e5 hr) (fun r' v' e1 e2 e3 e0 e4 e5 => absurd e5 hr) (fun r' v' τ n' b' e1 e2 e3 e0 e4 e5 => absurd e5 hr)
  · have yes : ∀ r' v', r' < R → x = nI r' → σ 244 r' = nI v' → v' ≤ 6 → parT n (hma σ r' 0 v') a b c ∧ (S = 4 ∨ 200 < n + hma σ r' 1 v') := fun r' v' e1 e2 e3 e0 => by
      obtain ⟨rfl, rfl⟩ := uni r r' v v' c1 e1 c2 e2 c3 e3 c0 e0
      exact ⟨c4, c6⟩
    have hr := hon c5
    exact mg_session L xs d' σ n bb R S C kl x a b c _ hI (fun z => absurd ⟨r, c1, c2⟩ z) (fun r' v' e1 e2 e3 e0 e4 => absurd (yes r' v' e1 e2 e3 e0).1 e4) (fun r' v' e1 e2 e3 e0 e4 e5 => absurd hr e5) (fun _ _ _ _ _ _ _ _ _ => ⟨rfl, hb⟩) (fun r' v' e1 e2 e3 e0 e4 e5 e6 e7 => by have := (yes r' v' e1 e2 e3 e0).2; omega) (fun r' v' τ n' b' e1 e2 e3 e0 e4 e5 e6 e7 => by have := (yes r' v' e1 e2 e3 e0).2; omega)
  · have yes : ∀ r' v', r' < R → x = nI r' → σ 244 r' = nI v' → v' ≤ 6 → parT n (hma σ r' 0 v') a b c ∧ n + hma σ r' 1 v' ≤ 200 ∧ ¬ (hma σ r' 0 v' ≤ 3 ∧ parG σ n (hma σ r' 0 v') a b c) := fun r' v' e1 e2 e3 e0 => by
      obtain ⟨rfl, rfl⟩ := uni r r' v v' c1 e1 c2 e2 c3 e3 c0 e0
      exact ⟨c4, c7, c8⟩
    have hr := hon c5
    exact mg_session L xs d' σ n bb R S C kl x a b c _ hI (fun z => absurd ⟨r, c1, c2⟩ z) (fun r' v' e1 e2 e3 e0 e4 => absurd (yes r' v' e1 e2 e3 e0).1 e4) (fun r' v' e1 e2 e3 e0 e4 e5 => absurd hr e5) (fun r' v' e1 e2 e3 e0 e4 e5 e6 => by have := (yes r' v' e1 e2 e3 e0).2.1; omega) (fun _ _ _ _ _ _ _ _ _ _ _ => ⟨rfl, hb⟩) (fun r' v' τ n' b' e1 e2 e3 e0 e4 e5 e6 e7 e8 e9 => absurd ⟨e8, e9⟩ (yes r' v' e1 e2 e3 e0).2.2)
  · have hr := hon c6
    have hi : ∀ e, 232 ≤ e → ω e = σ e := fun e he => by
      obtain ⟨n', ho, p1, p2, p3, p4, p5, p6, p7, p8⟩ := c12
      rw [p8 e (by omega) (by omega) (by omega) (by omega) (by omega) (by omega), c11.2.2.2.2 e (by omega) (by omega) (by omega)]
    have hIω := aJ_hi h hi
    have eV : ω 244 = σ 244 := hi _ (by decide)
    have eH : ∀ r a k, hma ω r a k = hma σ r a k := hma_eq (hi _ (by decide))
    have ePG : ∀ p, parG ω n p a b c ↔ parG σ n p a b c := fun p => by
      unfold parG
      rw [hi 233 (by decide)]
    have e232 : ω 232 = σ 232 := hi _ (by decide)
    have yes : ∀ r' v', r' < R → x = nI r' → ω 244 r' = nI v' → v' ≤ 6 → parT n (hma ω r' 0 v') a b c ∧ n + hma ω r' 1 v' ≤ 200 ∧ (hma ω r' 0 v' ≤ 3 ∧ parG ω n (hma ω r' 0 v') a b c) ∧ r' = r ∧ v' = v := fun r' v' e1 e2 e3 e0 => by
      rw [eV] at e3
      obtain ⟨rfl, rfl⟩ := uni r r' v v' c1 e1 c2 e2 c3 e3 c4 e0
      rw [eH, eH, ePG]
      exact ⟨c5, c8, ⟨c9, c10⟩, rfl, rfl⟩
    refine mg_session L xs d' ω n bb R S C kl x a b c _ hIω (fun z => absurd ⟨r, c1, c2⟩ z) (fun r' v' e1 e2 e3 e0 e4 => absurd (yes r' v' e1 e2 e3 e0).1 e4) (fun r' v' e1 e2 e3 e0 e4 e5 => absurd hr (by rw [← e232]; exact e5)) (fun r' v' e1 e2 e3 e0 e4 e5 e6 => by have := (yes r' v' e1 e2 e3 e0).2.1; omega) (fun r' v' e1 e2 e3 e0 e4 e5 e6 e7 e8 => absurd (yes r' v' e1 e2 e3 e0).2.2.1 e8) (fun r' v' τ n' b' e1 e2 e3 e0 e4 e5 e6 e7 e8 e9 e10 e11 e12 e13 => ⟨rfl, ?_⟩)
    obtain ⟨-, -, -, rfl, rfl⟩ := yes r' v' e1 e2 e3 e0
    rw [eH] at e7 e10
    exact bJ_se h c1 c4 c3 c7 hr c9 c10 c11 c12 e10 (by omega) e11 e12 rfl e13
end
section
/-! alike: event, the reference's half -/
set_option maxRecDepth 100000 in
set_option maxHeartbeats 4000000 in
theorem mg_event (L : Nat) (xs : Nat → Int32) (d : Nat) (σ : kS) (n b R S C : Nat) (kl : List Nat) (x y z : Int32) (hy : y = 0 ∨ y = 1) (Q : Option Value → kS → Prop) (h : mI σ n b R S C kl) (hU : ¬ (isN x R ∧ isN z n) → Q (some (.int (-1))) σ) (hS : ∀ r t, r < R → x = nI r → t < n → z = nI t → σ 250 r ≠ 0 → Q (some (.int (-3))) σ) (hF : ∀ r t, r < R → x = nI r → t < n → z = nI t → σ 250 r = 0 → σ 247 r = nI 6 → Q (some (.int (-4))) σ) (hO : ∀ r t ev W ST m A, r < R → x = nI r → t < n → z = nI t → σ 250 r = 0 → σ 247 r = nI ev → ev < 6 → ¬ (∀ u ∈ tvs (σ 233) (σ 234) (σ 235) t, okU σ r ev y u) → mI (evS σ W ST m A) n b R S C kl → Q (some (.int (-5))) (evS σ W ST m A))
    (hN : ∀ r t ev W ST m A, r < R → x = nI r → t < n → z = nI t → σ 250 r = 0 → σ 247 r = nI ev → ev < 6 → (∀ u ∈ tvs (σ 233) (σ 234) (σ 235) t, okU σ r ev y u) → mI (evN (evS σ W ST m A) r ev (nI t) y) n b R S C kl → Q (some (.int (nI (ev + 1)))) (evN (evS σ W ST m A) r ev (nI t) y)) : kXM kT L xs (d + 3) 166 [.ref 232, .int x, .int y, .int z] σ Q := by
  have h1 := h.1
  have h2 := h.2.1
  have h3 := h.2.2.1
  have hn := h1.1
  have hR4 := h2.1
  unfold kXM
  repeat refine kX_one rfl ?_
  refine kX_cal (mr_isRole L xs (d + 1) σ R x h2.2.1 (by omega)) rfl (Or.inr rfl) rfl rfl rfl (fun r1 σ1 q1 => ?_)
  obtain ⟨rfl, rfl⟩ := q1
  repeat refine kX_one rfl ?_
  refine kX_if (fun q => ?_) (fun q => ?_)
  · have q := qeq q
    repeat refine kX_one rfl ?_
    refine kX_ret (i := .ireturn) (len := 1) rfl (Or.inr rfl) rfl (hU (fun e => isB_ne.mpr e.1 q))
  · obtain ⟨r, hr, rfl⟩ := isB_ne.mp (qeqF q)
    repeat refine kX_one rfl ?_
    refine kX_cal (mr_isTerm L xs (d + 1) σ n z h1.2.2.2.1 (by omega)) rfl (Or.inr rfl) rfl rfl rfl (fun r1 σ1 q1 => ?_)
    obtain ⟨rfl, rfl⟩ := q1
    repeat refine kX_one rfl ?_
    refine kX_if (fun q => ?_) (fun q => ?_)
    · obtain ⟨t, ht, rfl⟩ := isB_ne.mp (qne q)
      obtain ⟨-, ev, he6, hev⟩ := h2.2.2.1 r hr
      have hfe : fN (σ 247 r) = ev := by rw [hev]; exact fN_nI (by omega)
      repeat refine kX_one rfl ?_
      refine kX_baldN rfl rfl (by decide) (r) (by first | rfl | decide) (by omega) ?_
      repeat refine kX_one rfl ?_
      refine kX_if (fun q => ?_) (fun q => ?_)
      · have hcl : σ 250 r = 0 := qeq q
        repeat refine kX_one rfl ?_
        refine kX_ialdV rfl rfl (by decide) (r) (by first | rfl | decide) (by omega) (hev) ?_
        repeat refine kX_one rfl ?_
        refine kX_if (fun q => ?_) (fun q => ?_)
        · have hev6 : ev ≠ 6 := fun e => qne q (by rw [e]; rfl)
          repeat refine kX_one rfl ?_
          refine kX_cal (mr_findVariables L xs (d + 1) σ n b t h1 ht) rfl (Or.inr rfl) rfl rfl rfl (fun r1 σ1 q1 => ?_)
          obtain ⟨rfl, W, ST, rfl, g1, g2⟩ := q1
          generalize hacc : ddl [] (tvs (σ 233) (σ 234) (σ 235) t) = acc at g1 g2
          have hmem : ∀ u, u ∈ acc ↔ u ∈ tvs (σ 233) (σ 234) (σ 235) t := fun u => by
            rw [← hacc, ddl_mem]
            exact ⟨fun q => q.elim (fun q => by cases q) id, Or.inr⟩
          have hlt : ∀ u ∈ acc, u < n := fun u q => by
            have := (tvs_mem (mTb_num h1) t ht u ((hmem u).mp q)).2.2
            omega
          have loop2 : ∀ (A : Nat → Int32), (∀ i (hi : i < acc.length), A i = nI acc[i]) → ∀ q : Nat × (Nat → Int32) × (Nat → Int32) × Int32, (q.1 ≤ acc.length ∧ ∀ i (hi : i < acc.length), i < q.1 → okU σ r ev y acc[i]) → kX kT L xs (d + 3) 166 88 [(5, .int (nI q.1)), (4, .int (nI acc.length)), (0, .ref 232), (1, .int (nI r)), (2, .int y), (3, .int (nI t))] [] (evS σ q.2.1 q.2.2.1 q.2.2.2 A) Q := by
            intro A hA
            refine kX_while (fun q : Nat × (Nat → Int32) × (Nat → Int32) × Int32 => [(5, .int (nI q.1)), (4, .int (nI acc.length)), (0, .ref 232), (1, .int (nI r)), (2, .int y), (3, .int (nI t))]) (fun q => evS σ q.2.1 q.2.2.1 q.2.2.2 A) _ (fun q => acc.length - q.1) ?_
            rintro ⟨k, W', ST', m'⟩ ⟨i1, i2⟩ ih
            dsimp only at i1 i2 ih ⊢
            have hI := mI_ev h W' ST' m' A
            have bad : ∀ u, u ∈ tvs (σ 233) (σ 234) (σ 235) t → ¬ okU σ r ev y u → ∀ W' ST' m', Q (some (.int (-5))) (evS σ W' ST' m' A) := fun u hu hno W' ST' m' => hO r t ev W' ST' m' A hr rfl ht rfl hcl hev (by omega) (fun e => hno (e u hu)) (mI_ev h W' ST' m' A)
            iterate 2 (refine kX_one rfl ?_)
            repeat refine kX_one rfl ?_
            refine kX_if (fun q => ?_) (fun q => ?_)
            · have q := qge q k acc.length
              repeat refine kX_one rfl ?_
              refine kX_ialdV rfl rfl (by decide) (r) (by first | rfl | decide) (by omega) (hev) ?_
              repeat refine kX_one rfl ?_
              refine kX_iastN rfl rfl (by decide) (6 * r + ev) (ix6 r ev) (by omega) ?_
              repeat refine kX_one rfl ?_
              refine kX_ialdV rfl rfl (by decide) (r) (by first | rfl | decide) (by omega) (hev) ?_
              repeat refine kX_one rfl ?_
              refine kX_bastN rfl rfl (by decide) (6 * r + ev) (ix6 r ev) (by omega) (hy) ?_
              repeat refine kX_one rfl ?_
              refine kX_ialdV rfl rfl (by decide) (r) (by first | rfl | decide) (by omega) (hev) ?_
              repeat refine kX_one rfl ?_
              refine kX_iastN rfl rfl (by decide) (r) (by first | rfl | decide) (by omega) ?_
              repeat refine kX_one rfl ?_
              refine kX_ialdN rfl rfl (by decide) (r) (by first | rfl | decide) (by omega) ?_
              refine kX_top (y := nI (ev + 1)) (pk_us.trans (nI_1 ev)) ?_
              refine kX_st (evN (evS σ W' ST' m' A) r ev (nI t) y) ?_ ?_
              · rw [evN, nI_succ ev]
                rfl
              have hall : ∀ u ∈ tvs (σ 233) (σ 234) (σ 235) t, okU σ r ev y u := fun u hu => by
                obtain ⟨i, hi, rfl⟩ := List.mem_iff_getElem.mp ((hmem u).mpr hu)
                exact i2 i hi (by omega)
              have hF' := roF_ev (evS σ W' ST' m' A) r ev (nI t) y
              refine kX_ret (i := .ireturn) (len := 1) rfl (Or.inr rfl) rfl (hN r t ev W' ST' m' A hr rfl ht rfl hcl hev (by omega) hall (mI_ro hI (Nat.le_refl R) hF' (fun s hs => ?_) (fun t ht => ⟨rfl, rfl⟩) h1 (mRo_ev hI.2.1 hr hev (by omega) ht (fun u hu => ?_)) (fun _ _ => Nat.le_refl _)))
              · obtain ⟨r', r1, r2, r3, -⟩ := h3.2.2 s hs
                rw [show evS σ W' ST' m' A 255 s = nI r' from r2, fN_nI (by omega)]
                have hne : r' ≠ r := fun e => r3 (by rw [e]; exact hcl)
                exact ⟨rfl, pk_un hne, rfl, fun k hk => ⟨rfl, rfl, pk_un (by omega), pk_un (by omega)⟩⟩
              · exact hall u hu
            · have q := qgeF q k acc.length
              have hku := hlt acc[k] (List.getElem_mem q)
              generalize hu : acc[k] = u at hku
              have back : ∀ (W' ST' : Nat → Int32) (m' : Int32) (w : Value), okU σ r ev y u → kX kT L xs (d + 3) 166 153 [(6, w), (5, .int (nI k)), (4, .int (nI acc.length)), (0, .ref 232), (1, .int (nI r)), (2, .int y), (3, .int (nI t))] [] (evS σ W' ST' m' A) Q := by
                intro W' ST' m' w hok
                iterate 2 (refine kX_one rfl ?_)
                have := ih (k + 1, W', ST', m') ⟨q, fun i hi hik => by
                  by_cases e : i = k
                  · subst e
                    rw [hu]
                    exact hok
                  · exact i2 i hi (by simp only at hik; omega)⟩ (by simp only; omega)
                dsimp only at this
                rw [← nI_1] at this
                exact kX_lv _ rfl rfl rfl this
              repeat refine kX_one rfl ?_
              refine kX_ialdV rfl rfl (by decide) k rfl (by omega) (show A k = nI u by rw [hA k q, hu]) ?_
              repeat refine kX_one rfl ?_
              refine kX_ialdN rfl rfl (by decide) (u) (by first | rfl | decide) (by omega) ?_
              have hut0 : u ∈ tvs (σ 233) (σ 234) (σ 235) t := (hmem u).mp (by rw [← hu]; exact List.getElem_mem _)
              repeat refine kX_one rfl ?_
              refine kX_if (fun q => ?_) (fun q => ?_)
              · have qr : σ 239 u ≠ nI r := qne q
                repeat refine kX_one rfl ?_
                refine kX_ret (i := .ireturn) (len := 1) rfl (Or.inr rfl) rfl (bad u hut0 (fun e => qr e.1) _ _ _)
              · have qr : σ 239 u = nI r := qneF q
                have hut : u ∈ tvs (σ 233) (σ 234) (σ 235) t := (hmem u).mp (by rw [← hu]; exact List.getElem_mem _)
                obtain ⟨r', p, a1, a2, a3⟩ := h2.2.2.2.2.1 u hku (tvs_mem (mTb_num h1) t ht u hut).2.1
                obtain ⟨t', so', as', b1, b2, b3, b4, b5, -⟩ := h2.2.2.2.1 r' p a1 a2
                obtain rfl : u = t' := nI_inj (a3.symm.trans b2)
                obtain rfl : r' = r := nI_inj (b4.symm.trans qr)
                obtain ⟨⟨v, hv6, hv⟩, -⟩ := h2.2.2.1 r' hr
                have hp6 : p < 6 := by rw [hv, fN_nI (by omega)] at a2; omega
                have hfp : fN (σ 241 u) = p := by rw [b5]; exact fN_nI (by omega)
                repeat refine kX_one rfl ?_
                refine kX_if (fun q => ?_) (fun q => ?_)
                · refine kX_lv _ rfl rfl rfl (back W' ST' m' (.int (nI u)) ⟨qr, fun z => absurd (qeq q) z⟩)
                · repeat refine kX_one rfl ?_
                  refine kX_ialdV rfl rfl (by decide) (u) (by first | rfl | decide) (by omega) (b5) ?_
                  repeat refine kX_one rfl ?_
                  refine kX_ialdN rfl rfl (by decide) (6 * r' + p) (ix6 r' p) (by omega) ?_
                  repeat refine kX_one rfl ?_
                  refine kX_if (fun q2 => ?_) (fun q2 => ?_)
                  · refine kX_lv _ rfl rfl rfl (back W' ST' m' (.int (nI u)) ⟨qr, fun _ z => absurd (by rw [hfp] at z; exact z) (qne q2)⟩)
                  · repeat refine kX_one rfl ?_
                    refine kX_cal (mr_isReceived L xs d (evS σ W' ST' m' A) n b R r' u h1 hI.2.1 hr hku) rfl (Or.inr rfl) rfl rfl rfl (fun r1 σ1 q1 => ?_)
                    obtain ⟨rfl, W2, ST2, m2, rfl⟩ := q1
                    have e2 : fvS (evS σ W' ST' m' A) W2 ST2 m2 = evS σ W2 ST2 m2 A := by
                      funext c; unfold evS fvS; first
                        | ((repeat (refine va_case ?_ ?_; (· (intro h; first | (subst h; rfl) | (unfold va_up; repeat' split; (all_goals first | rfl | omega | (subst_vars; rfl) | (funext j; unfold upd; repeat' split; all_goals first | rfl | omega | (subst_vars; rfl)))))); intro h)); (repeat (refine va_case2 ?_ ?_; (· (intro h; first | exact absurd h (by assumption) | (subst h; rfl) | (subst h; funext j; unfold upd; repeat' split; (all_goals first | rfl | omega | (subst_vars; rfl))))); intro h)); rfl)
                        | (unfold va_up; repeat' split
                           all_goals first | rfl | omega | (subst_vars; rfl) | (funext j; unfold upd; repeat' split; all_goals first | rfl | omega | (subst_vars; rfl)))
                    rw [e2]
                    repeat refine kX_one rfl ?_
                    refine kX_if (fun q3 => ?_) (fun q3 => ?_)
                    · have q3 : rcv σ r' (fN (σ 247 r')) u := isB_ne.mp (qne q3)
                      rw [hfe] at q3
                      refine kX_lv _ rfl rfl rfl (back W2 ST2 m2 (.int (nI u)) ⟨qr, fun _ _ => q3⟩)
                    · have q3 : ¬ rcv σ r' (fN (σ 247 r')) u := fun e => isB_ne.mpr e (qneF q3)
                      rw [hfe] at q3
                      have hy0 : y ≠ 0 := qeqF q
                      have h22 : σ 246 (6 * r' + fN (σ 241 u)) = nI 2 := by rw [hfp]; exact qneF q2
                      repeat refine kX_one rfl ?_
                      refine kX_ret (i := .ireturn) (len := 1) rfl (Or.inr rfl) rfl (bad u hut0 (fun e => q3 (e.2 hy0 h22)) _ _ _)
          have loop1 : ∀ q : Nat × (Nat → Int32), (q.1 ≤ acc.length ∧ ∀ i (hi : i < acc.length), i < q.1 → q.2 i = nI acc[i]) → kX kT L xs (d + 3) 166 58 [(5, .int (nI q.1)), (4, .int (nI acc.length)), (0, .ref 232), (1, .int (nI r)), (2, .int y), (3, .int (nI t))] [] (evS σ W ST (nI acc.length) q.2) Q := by
            refine kX_while (fun q : Nat × (Nat → Int32) => [(5, .int (nI q.1)), (4, .int (nI acc.length)), (0, .ref 232), (1, .int (nI r)), (2, .int y), (3, .int (nI t))]) (fun q => evS σ W ST (nI acc.length) q.2) _ (fun q => acc.length - q.1) ?_
            rintro ⟨k, A⟩ ⟨i1, i2⟩ ih
            dsimp only at i1 i2 ih ⊢
            iterate 2 (refine kX_one rfl ?_)
            repeat refine kX_one rfl ?_
            refine kX_if (fun q => ?_) (fun q => ?_)
            · have q := qge q k acc.length
              iterate 2 (refine kX_one rfl ?_)
              exact kX_lv _ rfl rfl rfl (loop2 A (fun i hi => i2 i hi (by omega)) (0, W, ST, nI acc.length) ⟨Nat.zero_le _, fun i hi hz => absurd hz (Nat.not_lt_zero i)⟩)
            · have q := qgeF q k acc.length
              repeat refine kX_one rfl ?_
              refine kX_ialdV rfl rfl (by decide) k rfl (by omega) (show ST k = nI acc[k] from g1 k q) ?_
              refine kX_iastN rfl rfl (by decide) (k) (by first | rfl | decide) (by omega) ?_
              iterate 2 (refine kX_one rfl ?_)
              have := ih (k + 1, upd A k (nI acc[k])) ⟨q, fun i hi hik => by
                by_cases e : i = k
                · subst e
                  exact pk_us
                · simp only at hik ⊢
                  rw [pk_un e]
                  exact i2 i hi (by omega)⟩ (by simp only; omega)
              dsimp only at this
              rw [← nI_1] at this
              refine kX_to _ _ rfl rfl rfl ?_ this
              funext c; unfold evS fvS; first
                | ((repeat (refine va_case ?_ ?_; (· (intro h; first | (subst h; rfl) | (unfold va_up; repeat' split; (all_goals first | rfl | omega | (subst_vars; rfl) | (funext j; unfold upd; repeat' split; all_goals first | rfl | omega | (subst_vars; rfl)))))); intro h)); (repeat (refine va_case2 ?_ ?_; (· (intro h; first | exact absurd h (by assumption) | (subst h; rfl) | (subst h; funext j; unfold upd; repeat' split; (all_goals first | rfl | omega | (subst_vars; rfl))))); intro h)); rfl)
                | (unfold va_up; repeat' split
                   all_goals first | rfl | omega | (subst_vars; rfl) | (funext j; unfold upd; repeat' split; all_goals first | rfl | omega | (subst_vars; rfl)))
          iterate 5 (refine kX_one rfl ?_)
          refine kX_to _ _ rfl rfl rfl ?_ (loop1 (0, σ 253) ⟨Nat.zero_le _, fun i hi hz => absurd hz (Nat.not_lt_zero i)⟩)
          funext c; unfold evS fvS; first
            | ((repeat (refine va_case ?_ ?_; (· (intro h; first | (subst h; rfl) | (unfold va_up; repeat' split; (all_goals first | rfl | omega | (subst_vars; rfl) | (funext j; unfold upd; repeat' split; all_goals first | rfl | omega | (subst_vars; rfl)))))); intro h)); (repeat (refine va_case2 ?_ ?_; (· (intro h; first | exact absurd h (by assumption) | (subst h; rfl) | (subst h; funext j; unfold upd; repeat' split; (all_goals first | rfl | omega | (subst_vars; rfl))))); intro h)); rfl)
            | (unfold va_up; repeat' split
               all_goals first | rfl | omega | (subst_vars; rfl) | (funext j; unfold upd; repeat' split; all_goals first | rfl | omega | (subst_vars; rfl)))
        · have q : ev = 6 := nI_inj (qneF q)
          repeat refine kX_one rfl ?_
          refine kX_ret (i := .ireturn) (len := 1) rfl (Or.inr rfl) rfl (hF r t hr rfl ht rfl hcl (by rw [hev, q]))
      · have q := qeqF q
        repeat refine kX_one rfl ?_
        refine kX_ret (i := .ireturn) (len := 1) rfl (Or.inr rfl) rfl (hS r t hr rfl ht rfl q)
    · have q := qneF q
      repeat refine kX_one rfl ?_
      refine kX_ret (i := .ireturn) (len := 1) rfl (Or.inr rfl) rfl (hU (fun e => isB_ne.mpr e.2 q))
end
