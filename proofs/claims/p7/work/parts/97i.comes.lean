/-! the reference: comesToBe -/
def ceS (σ : kS) (SD SV : Nat → Int32) : kS := va_up (va_up σ 284 SD) 285 SV
def ceI (σ : kS) (N s : Nat) (SD SV : Nat → Int32) : Prop := (∀ j, j < 4 * N → SD j = σ 284 j) ∧ (∀ u, u < s → SD (4 * N + u) = σ 264 u) ∧ (∀ j, j < 24 * N → SV j = σ 285 j) ∧ ∀ u k, u < s → k < 6 → SV (24 * N + 6 * u + k) = σ 265 (6 * u + k)
set_option maxRecDepth 100000 in
set_option maxHeartbeats 4000000 in
theorem mr_ce_in (L : Nat) (xs : Nat → Int32) (d : Nat) (σ : kS) (N s : Nat) (hN : σ 232 69 = nI N) (hN6 : N < 600) (hs : s < 4) (x y : Int32) (P : Prop) (SD : Nat → Int32) (Q : Option Value → kS → Prop)
    (he : ∀ SV, ceI σ N (s + 1) SD SV → kX kT L xs (d + 1) 213 140 [(4, .int (nI s)), (3, .int (isB P)), (0, .ref 232), (1, .int x), (2, .int y)] [] (ceS σ SD SV) Q) :
    ∀ q : Nat × (Nat → Int32), (q.1 ≤ 6 ∧ (∀ j, j < 4 * N → SD j = σ 284 j) ∧ (∀ u, u < s + 1 → SD (4 * N + u) = σ 264 u) ∧ (∀ j, j < 24 * N → q.2 j = σ 285 j) ∧ (∀ u k, u < s → k < 6 → q.2 (24 * N + 6 * u + k) = σ 265 (6 * u + k)) ∧ ∀ k, k < q.1 → q.2 (24 * N + 6 * s + k) = σ 265 (6 * s + k)) → kX kT L xs (d + 1) 213 93 [(5, .int (nI q.1)), (4, .int (nI s)), (3, .int (isB P)), (0, .ref 232), (1, .int x), (2, .int y)] [] (ceS σ SD q.2) Q := by
  refine kX_while (fun q : Nat × (Nat → Int32) => [(5, .int (nI q.1)), (4, .int (nI s)), (3, .int (isB P)), (0, .ref 232), (1, .int x), (2, .int y)]) (fun q => ceS σ SD q.2) _ (fun q => 6 - q.1) ?_
  rintro ⟨k, SV⟩ ⟨i1, i2, i3, i4, i5, i6⟩ ih
  dsimp only at i1 i2 i3 i4 i5 i6 ih ⊢
  repeat refine kX_one rfl ?_
  refine kX_if (fun q => ?_) (fun q => ?_)
  · have q := qge q k 6
    obtain rfl : k = 6 := by omega
    refine kX_lv _ rfl rfl rfl (he SV ⟨i2, i3, i4, fun u k' hu hk => ?_⟩)
    by_cases e : u = s
    · subst e
      exact i6 k' hk
    · exact i5 u k' (by omega) hk
  · have q := qgeF q k 6
    iterate 5 (refine kX_one rfl ?_)
    refine kX_top (hN) ?_
    iterate 14 (refine kX_one rfl ?_)
    refine kX_ialdN rfl rfl (by decide) (6 * s + k) (ix6 s k) (by omega) ?_
    refine kX_iastN rfl rfl (by decide) (24 * N + 6 * s + k) (ix24 N s k) (by omega) ?_
    iterate 2 (refine kX_one rfl ?_)
    have := ih (k + 1, upd SV (24 * N + 6 * s + k) (σ 265 (6 * s + k))) ⟨by simp only; omega, i2, i3, fun j hj => by
      simp only
      rw [pk_un (by omega)]
      exact i4 j hj, fun u k' hu hk => by
      simp only
      rw [pk_un (by omega)]
      exact i5 u k' hu hk, fun k' hk => by
      simp only at hk ⊢
      by_cases e : k' = k
      · subst e
        exact pk_us
      · rw [pk_un (by omega)]
        exact i6 k' (by omega)⟩ (by simp only; omega)
    dsimp only at this
    rw [← nI_1] at this
    refine kX_to _ _ rfl rfl rfl ?_ this
    funext c; unfold ceS va_up; repeat' split
    all_goals first | rfl | omega | (subst_vars; rfl) | (funext j; unfold upd; repeat' split; all_goals first | rfl | omega | (subst_vars; rfl))
set_option maxRecDepth 100000 in
set_option maxHeartbeats 4000000 in
theorem mr_ce_copy (L : Nat) (xs : Nat → Int32) (d : Nat) (σ : kS) (n R S N : Nat) (hS : mSe σ n R S) (hR : R ≤ 4) (hN : σ 232 69 = nI N) (hN6 : N < 600) (x y : Int32) (Q : Option Value → kS → Prop)
    (he : ∀ SD SV (P : Prop), ceI σ N S SD SV → kX kT L xs (d + 1) 213 146 [(3, .int (isB P)), (0, .ref 232), (1, .int x), (2, .int y)] [] (ceS σ SD SV) Q) :
    ∀ q : Nat × Prop × (Nat → Int32) × (Nat → Int32), (q.1 ≤ S ∧ ceI σ N q.1 q.2.2.1 q.2.2.2) → kX kT L xs (d + 1) 213 28 [(4, .int (nI q.1)), (3, .int (isB q.2.1)), (0, .ref 232), (1, .int x), (2, .int y)] [] (ceS σ q.2.2.1 q.2.2.2) Q := by
  have hS4 := hS.1
  refine kX_while (fun q : Nat × Prop × (Nat → Int32) × (Nat → Int32) => [(4, .int (nI q.1)), (3, .int (isB q.2.1)), (0, .ref 232), (1, .int x), (2, .int y)]) (fun q => ceS σ q.2.2.1 q.2.2.2) _ (fun q => S - q.1) ?_
  rintro ⟨s, P, SD, SV⟩ ⟨i1, i2, i3, i4, i5⟩ ih
  dsimp only at i1 i2 i3 i4 i5 ih ⊢
  iterate 3 (refine kX_one rfl ?_)
  refine kX_top (hS.2.1) ?_
  repeat refine kX_one rfl ?_
  refine kX_if (fun q => ?_) (fun q => ?_)
  · have q := qge q s S
    obtain rfl : s = S := by omega
    exact kX_lv _ rfl rfl rfl (he SD SV P ⟨i2, i3, i4, i5⟩)
  · have q := qgeF q s S
    obtain ⟨r, r1, r2, -⟩ := hS.2.2 s q
    have k89 : ∀ P' : Prop, kX kT L xs (d + 1) 213 89 [(4, .int (nI s)), (3, .int (isB P)), (0, .ref 232), (1, .int x), (2, .int y)] [.int (isB P')] (ceS σ (upd SD (4 * N + s) (σ 264 s)) SV) Q := by
      intro P'
      iterate 3 (refine kX_one rfl ?_)
      have := mr_ce_in L xs d σ N s hN hN6 (by omega) x y P' (upd SD (4 * N + s) (σ 264 s)) Q (fun SV' h' => by
        iterate 2 (refine kX_one rfl ?_)
        have := ih (s + 1, P', upd SD (4 * N + s) (σ 264 s), SV') ⟨q, h'⟩ (by simp only; omega)
        dsimp only at this
        rw [← nI_1] at this
        exact kX_lv _ rfl rfl rfl this) (0, SV) ⟨Nat.zero_le _, fun j hj => by
          rw [pk_un (by omega)]
          exact i2 j hj, fun u hu => by
          by_cases e : u = s
          · subst e
            exact pk_us
          · rw [pk_un (by omega)]
            exact i3 u (by omega), i4, i5, fun k hk => absurd hk (Nat.not_lt_zero k)⟩
      exact kX_lv _ rfl rfl rfl this
    iterate 5 (refine kX_one rfl ?_)
    refine kX_top (hN) ?_
    iterate 6 (refine kX_one rfl ?_)
    refine kX_ialdN rfl rfl (by decide) (s) (by first | rfl | decide) (by omega) ?_
    refine kX_iastN rfl rfl (by decide) (4 * N + s) (ix4 N s) (by omega) ?_
    refine kX_to [(4, .int (nI s)), (3, .int (isB P)), (0, .ref 232), (1, .int x), (2, .int y)] (ceS σ (upd SD (4 * N + s) (σ 264 s)) SV) rfl rfl rfl ?_ ?_
    · funext c; unfold ceS va_up; repeat' split
      all_goals first | rfl | omega | (subst_vars; rfl) | (funext j; unfold upd; repeat' split; all_goals first | rfl | omega | (subst_vars; rfl))
    repeat refine kX_one rfl ?_
    refine kX_if (fun q2 => ?_) (fun q2 => ?_)
    · iterate 1 (refine kX_one rfl ?_)
      have := k89 False
      rw [isB_F (fun z => z)] at this
      exact this
    · iterate 3 (refine kX_one rfl ?_)
      refine kX_ialdN rfl rfl (by decide) (s) (by first | rfl | decide) (by omega) ?_
      iterate 5 (refine kX_one rfl ?_)
      refine kX_ialdV rfl rfl (by decide) (s) (by first | rfl | decide) (by omega) (r2) ?_
      refine kX_ialdN rfl rfl (by decide) (r) (by first | rfl | decide) (by omega) ?_
      repeat refine kX_one rfl ?_
      refine kX_if (fun q3 => ?_) (fun q3 => ?_)
      · iterate 1 (refine kX_one rfl ?_)
        have := k89 False
        rw [isB_F (fun z => z)] at this
        exact this
      · iterate 2 (refine kX_one rfl ?_)
        have := k89 True
        rw [isB_T trivial] at this
        exact this
/-- one STATE more is noted -/
def ceT (σ : kS) (N : Nat) (SD SV : Nat → Int32) (x y e : Int32) : kS := va_up (va_up (va_up (ceS σ SD SV) 286 (upd (σ 286) N x)) 287 (upd (σ 287) N y)) 232 (upd (upd (σ 232) 69 (nI (N + 1))) 71 e)
theorem ceT_sf (σ : kS) (n N : Nat) (SD SV : Nat → Int32) (x y e : Int32) : mSf σ (ceT σ N SD SV x y e) n := by
  refine ⟨fun c h1 h2 => ?_, fun j h1 h2 => ?_, fun u hu => ⟨rfl, rfl, rfl⟩⟩
  · have : c ≠ 232 := fun q => by subst q; revert h1; decide
    simp only [srX, List.mem_cons, List.not_mem_nil, or_false, not_or] at h2
    simp [ceT, ceS, va_up, h2, this]
  · simp only [srJ, List.mem_cons, List.not_mem_nil, or_false, not_or] at h2
    show upd (upd (σ 232) 69 (nI (N + 1))) 71 e j = _
    rw [pk_un h2.2.2, pk_un h2.1]
theorem ceT_Ss {σ : kS} {n b R S N : Nat} {SD SV : Nat → Int32} {x y e : Int32} (h : mTb σ n b) (hR : mRo σ n R) (hS : mSs σ n R S N) (hS4 : S ≤ 4) (hN : N < 600) (hI : ceI σ N S SD SV) (hc : cfg σ n R S (σ 264) (σ 265)) (hl : (N = 0 ∧ ∀ s, s < S → σ 264 s = 0) ∨ ∃ j m, j < N ∧ x = nI j ∧ y = nI m ∧ stp S (stD σ j) (stV σ j) (σ 264) (σ 265) m) : mSs (ceT σ N SD SV x y e) n R S (N + 1) := by
  have hF := ceT_sf σ n N SD SV x y e
  obtain ⟨i1, i2, i3, i4⟩ := hI
  obtain ⟨s1, s2, s3⟩ := hS
  have dO : ∀ i, i < N → ∀ s, s < S → stD (ceT σ N SD SV x y e) i s = stD σ i s := fun i hi s hs => i1 (4 * i + s) (by omega)
  have vO : ∀ i, i < N → ∀ s k, s < S → k < 6 → stV (ceT σ N SD SV x y e) i (6 * s + k) = stV σ i (6 * s + k) := fun i hi s k hs hk => i3 (24 * i + (6 * s + k)) (by omega)
  have dN : ∀ s, s < S → stD (ceT σ N SD SV x y e) N s = σ 264 s := fun s hs => i2 s hs
  have vN : ∀ s k, s < S → k < 6 → stV (ceT σ N SD SV x y e) N (6 * s + k) = σ 265 (6 * s + k) := fun s k hs hk => by
    have := i4 s k hs hk
    rw [show 24 * N + 6 * s + k = 24 * N + (6 * s + k) by omega] at this
    exact this
  refine ⟨by omega, rfl, fun i hi => ?_⟩
  by_cases e : i = N
  · subst e
    refine ⟨cfg_ext dN vN (cfg_sf h hR hF hc), fun q s hs => ?_, fun q => ?_⟩
    · rcases hl with ⟨-, hl⟩ | ⟨j, m, hl, -⟩
      · rw [dN s hs]
        exact hl s hs
      · omega
    · rcases hl with ⟨hl, -⟩ | ⟨j, m, l1, l2, l3, l4⟩
      · omega
      · refine ⟨j, m, l1, ?_, ?_, stp_ext (dO j l1) (vO j l1) dN vN l4⟩
        · show upd (σ 286) i x i = _
          rw [pk_us, l2]
        · show upd (σ 287) i y i = _
          rw [pk_us, l3]
  · have hi : i < N := by omega
    obtain ⟨g1, g2, g3⟩ := s3 i hi
    refine ⟨cfg_ext (dO i hi) (vO i hi) (cfg_sf h hR hF g1), fun q s hs => ?_, fun q => ?_⟩
    · rw [dO i hi s hs]
      exact g2 q s hs
    · obtain ⟨j, m, a1, a2, a3, a4⟩ := g3 q
      refine ⟨j, m, a1, ?_, ?_, stp_ext (dO j (by omega)) (vO j (by omega)) (dO i hi) (vO i hi) a4⟩
      · show upd (σ 286) N x i = _
        rw [pk_un e, a2]
      · show upd (σ 287) N y i = _
        rw [pk_un e, a3]
/-- what comesToBe answers -/
def ceR (C N : Nat) (r : Option Value) : Prop := r = some (.int (-6)) ∨ r = some (.int (-7)) ∨ ∃ c, c < C ∧ r = some (.int (nI c)) ∧ 0 < N
set_option maxRecDepth 100000 in
set_option maxHeartbeats 4000000 in
theorem mr_ce_brk (L : Nat) (xs : Nat → Int32) (d : Nat) (σ : kS) (n b R S C N : Nat) (kl : List Nat) (l : rwT) (h : mTb σ n b) (hB : mBs σ n R S C kl) (hS : mSs σ n R S N) (hN : 0 < N) (hc : cfg σ n R S (σ 264) (σ 265)) (hq : mRq σ (mvG σ n b) l) (hj : mJd σ n b l) (x y z : Int32) (Q : Option Value → kS → Prop)
    (he : ∀ r τ, ceR C N r → mFr σ τ n → (∃ b', mTb τ n b') → Q r τ) :
    ∀ q : Nat × kS, (q.1 ≤ C ∧ mFr σ q.2 n ∧ mTb q.2 n b ∧ mRq q.2 (mvG q.2 n b) l ∧ mJd q.2 n b l) → kX kT L xs (d + 7) 213 201 [(4, .int (nI q.1)), (0, .ref 232), (1, .int x), (2, .int y), (3, .int z)] [] q.2 Q := by
  have hC6 := hB.2.2.2.1
  have hS4 := hB.2.1.1
  refine kX_while (fun q : Nat × kS => [(4, .int (nI q.1)), (0, .ref 232), (1, .int x), (2, .int y), (3, .int z)]) (fun q => q.2) _ (fun q => C - q.1) ?_
  rintro ⟨c, τ⟩ ⟨i1, i2, i3, i4, i5⟩ ih
  dsimp only at i1 i2 i3 i4 i5 ih ⊢
  have hB2 := mBs_sf h (mSf_fr i2) hB
  iterate 3 (refine kX_one rfl ?_)
  refine kX_top (hB2.2.2.2.2.1) ?_
  repeat refine kX_one rfl ?_
  refine kX_if (fun q => ?_) (fun q => ?_)
  · repeat refine kX_one rfl ?_
    refine kX_ret (i := .ireturn) (len := 1) rfl (Or.inr rfl) rfl (he _ τ (Or.inl rfl) i2 ⟨b, i3⟩)
  · have q := qgeF q c C
    have hc2 : cfg τ n R S (τ 264) (τ 265) := by
      rw [i2.1 264 (by decide), i2.1 265 (by decide)]
      exact cfg_sf h hB.1 (mSf_fr i2) hc
    iterate 2 (refine kX_one rfl ?_)
    refine kX_cal (mr_isBroken L xs d τ n b R S C c l i3 hB2.1 hS4 (cfg_Sv i3 hB2.1 hB2.2.1 hc2) hB2.2.2.2 q i4 i5) rfl (Or.inr rfl) rfl rfl rfl (fun r1 σ2 q1 => ?_)
    obtain ⟨rfl, k1, -⟩ := q1
    repeat refine kX_one rfl ?_
    refine kX_if (fun q3 => ?_) (fun q3 => ?_)
    · iterate 2 (refine kX_one rfl ?_)
      have := ih (c + 1, σ2) ⟨q, mFr_trans i2 k1.1, k1.2.1, k1.2.2.1, k1.2.2.2.1⟩ (by simp only; omega)
      dsimp only at this
      rw [← nI_1] at this
      exact kX_lv _ rfl rfl rfl this
    · repeat refine kX_one rfl ?_
      refine kX_ret (i := .ireturn) (len := 1) rfl (Or.inr rfl) rfl (he _ σ2 (Or.inr (Or.inr ⟨c, q, rfl, hN⟩)) (mFr_trans i2 k1.1) ⟨b, k1.2.1⟩)
/-- what comesToBe leaves -/
def ceP (σ σ' : kS) (n R S C N : Nat) (r : Option Value) : Prop := ∃ N', N ≤ N' ∧ N' ≤ N + 1 ∧ ceR C N' r ∧ mSf σ σ' n ∧ (∃ b', mTb σ' n b') ∧ mSs σ' n R S N' ∧ σ' 264 = σ 264 ∧ σ' 265 = σ 265 ∧ σ' 292 = σ 292 ∧ σ' 293 = σ 293 ∧ ∀ i, i < N → (∀ s, s < S → stD σ' i s = stD σ i s) ∧ ∀ s k, s < S → k < 6 → stV σ' i (6 * s + k) = stV σ i (6 * s + k)
theorem ceP_same {σ : kS} {n b R S C N : Nat} {r : Option Value} (h : mTb σ n b) (hS : mSs σ n R S N) (hr : r = some (.int (-6)) ∨ r = some (.int (-7))) : ceP σ σ n R S C N r := ⟨N, Nat.le_refl _, by omega, hr.elim Or.inl (fun q => Or.inr (Or.inl q)), mSf_refl σ n, ⟨b, h⟩, hS, rfl, rfl, rfl, rfl, fun i _ => ⟨fun _ _ => rfl, fun _ _ _ _ => rfl⟩⟩
set_option maxRecDepth 100000 in
set_option maxHeartbeats 4000000 in
theorem mr_ce_two (L : Nat) (xs : Nat → Int32) (d : Nat) (σ : kS) (n b R S C N : Nat) (kl : List Nat) (x y : Int32) (h : mTb σ n b) (hB : mBs σ n R S C kl) (hS : mSs σ n R S N) (hN6 : N < 600) (hc : cfg σ n R S (σ 264) (σ 265)) (hl : (N = 0 ∧ ∀ s, s < S → σ 264 s = 0) ∨ ∃ j m, j < N ∧ x = nI j ∧ y = nI m ∧ stp S (stD σ j) (stV σ j) (σ 264) (σ 265) m) (SD SV : Nat → Int32) (P : Prop) (hI : ceI σ N S SD SV) :
    kX kT L xs (d + 8) 213 146 [(3, .int (isB P)), (0, .ref 232), (1, .int x), (2, .int y)] [] (ceS σ SD SV) (fun r σ' => ceP σ σ' n R S C N r) := by
  have hS4 := hB.2.1.1
  have hN := hS.2.1
  have k194 : ∀ e : Int32, kX kT L xs (d + 8) 213 194 [(3, .int (isB P)), (0, .ref 232), (1, .int x), (2, .int y)] [] (ceT σ N SD SV x y e) (fun r σ' => ceP σ σ' n R S C N r) := by
    intro e
    have hF := ceT_sf σ n N SD SV x y e
    have hT : mTb (ceT σ N SD SV x y e) n b := h
    have hB2 := mBs_sf h hF hB
    have hS2 := ceT_Ss (e := e) h hB.1 hS hS4 hN6 hI hc hl
    have hc2 : cfg (ceT σ N SD SV x y e) n R S (ceT σ N SD SV x y e 264) (ceT σ N SD SV x y e 265) := cfg_sf h hB.1 hF hc
    have hst : ∀ i, i < N → (∀ s, s < S → stD (ceT σ N SD SV x y e) i s = stD σ i s) ∧ ∀ s k, s < S → k < 6 → stV (ceT σ N SD SV x y e) i (6 * s + k) = stV σ i (6 * s + k) := fun i hi => ⟨fun s hs => hI.1 (4 * i + s) (by omega), fun s k hs hk => hI.2.2.1 (24 * i + (6 * s + k)) (by omega)⟩
    have hd : ceT σ N SD SV x y e 264 = σ 264 := rfl
    have hv : ceT σ N SD SV x y e 265 = σ 265 := rfl
    have ho : ceT σ N SD SV x y e 292 = σ 292 := rfl
    have hch : ceT σ N SD SV x y e 293 = σ 293 := rfl
    generalize ceT σ N SD SV x y e = ρ at *
    iterate 1 (refine kX_one rfl ?_)
    refine kX_cal (mr_stateRow L xs d ρ n b R S kl hT hB2.2.2.1 hB2.1 hS4 (cfg_Sv hT hB2.1 hB2.2.1 hc2)) rfl (Or.inr rfl) rfl rfl rfl (fun r1 σ1 q1 => ?_)
    obtain ⟨rfl, -, b', l, -, g1, g2, g3, g4, -⟩ := q1
    have hB3 := mBs_sf hT (mSf_fr g1) hB2
    have hS3 := mSs_fr hT hB2.1 g1 hS2
    have ed := g1.1 264 (by decide)
    have ev := g1.1 265 (by decide)
    have hc3 : cfg σ1 n R S (σ1 264) (σ1 265) := by
      rw [ed, ev]
      exact cfg_sf hT hB2.1 (mSf_fr g1) hc2
    iterate 2 (refine kX_one rfl ?_)
    have := mr_ce_brk L xs (d + 1) σ1 n b' R S C (N + 1) kl l g2 hB3 hS3 (by omega) hc3 g3 g4 x y (isB P) (fun r σ' => ceP σ σ' n R S C N r) (fun r τ e1 e2 e3 => ?_) (0, σ1) ⟨Nat.zero_le _, mFr_refl σ1 n, g2, g3, g4⟩
    · exact kX_lv _ rfl rfl rfl this
    · have hS4' := mSs_fr g2 hB3.1 e2 hS3
      have esd : τ 284 = ρ 284 := (e2.1 _ (by decide)).trans (g1.1 _ (by decide))
      have esv : τ 285 = ρ 285 := (e2.1 _ (by decide)).trans (g1.1 _ (by decide))
      refine ⟨N + 1, by omega, by omega, e1, mSf_trans hF (mSf_trans (mSf_fr g1) (mSf_fr e2)), e3, hS4', ?_, ?_, ?_, ?_, fun i hi => ?_⟩
      · rw [e2.1 264 (by decide), ed, hd]
      · rw [e2.1 265 (by decide), ev, hv]
      · rw [e2.1 292 (by decide), g1.1 292 (by decide), ho]
      · rw [e2.1 293 (by decide), g1.1 293 (by decide), hch]
      · have := hst i hi
        unfold stD stV at this ⊢
        rw [esd, esv]
        exact this
  have k190 : ∀ m : Int32, kX kT L xs (d + 8) 213 190 [(3, .int (isB P)), (0, .ref 232), (1, .int x), (2, .int y)] [.int m, .int (σ 232 71), .ref 232] (va_up (va_up (va_up (ceS σ SD SV) 286 (upd (σ 286) N x)) 287 (upd (σ 287) N y)) 232 (upd (σ 232) 69 (nI (N + 1)))) (fun r σ' => ceP σ σ' n R S C N r) := by
    intro m
    iterate 2 (refine kX_one rfl ?_)
    refine kX_st (ceT σ N SD SV x y (σ 232 71 + m)) ?_ (k194 _)
    funext c; unfold ceT va_up; repeat' split
    all_goals first | rfl | omega | (subst_vars; rfl) | (funext j; unfold upd; repeat' split; all_goals first | rfl | omega | (subst_vars; rfl))
  iterate 4 (refine kX_one rfl ?_)
  refine kX_top (hN) ?_
  iterate 1 (refine kX_one rfl ?_)
  refine kX_iastN rfl rfl (by decide) (N) (by first | rfl | decide) (by omega) ?_
  iterate 4 (refine kX_one rfl ?_)
  refine kX_top (hN) ?_
  iterate 1 (refine kX_one rfl ?_)
  refine kX_iastN rfl rfl (by decide) (N) (by first | rfl | decide) (by omega) ?_
  iterate 3 (refine kX_one rfl ?_)
  refine kX_top (hN) ?_
  iterate 3 (refine kX_one rfl ?_)
  refine kX_st (va_up (va_up (va_up (ceS σ SD SV) 286 (upd (σ 286) N x)) 287 (upd (σ 287) N y)) 232 (upd (σ 232) 69 (nI (N + 1)))) ?_ ?_
  · rw [← nI_1]
    funext c; unfold ceS va_up; repeat' split
    all_goals first | rfl | omega | (subst_vars; rfl) | (funext j; unfold upd; repeat' split; all_goals first | rfl | omega | (subst_vars; rfl))
  iterate 3 (refine kX_one rfl ?_)
  repeat refine kX_one rfl ?_
  refine kX_if (fun q => ?_) (fun q => ?_)
  · iterate 1 (refine kX_one rfl ?_)
    exact k190 0
  · iterate 2 (refine kX_one rfl ?_)
    exact k190 1
set_option maxRecDepth 100000 in
set_option maxHeartbeats 4000000 in
theorem mr_comesToBe (L : Nat) (xs : Nat → Int32) (d : Nat) (σ : kS) (n b R S C N : Nat) (kl : List Nat) (x y : Int32) (h : mTb σ n b) (hB : mBs σ n R S C kl) (hS : mSs σ n R S N) (hc : cfg σ n R S (σ 264) (σ 265)) (hl : (N = 0 ∧ ∀ s, s < S → σ 264 s = 0) ∨ ∃ j m, j < N ∧ x = nI j ∧ y = nI m ∧ stp S (stD σ j) (stV σ j) (σ 264) (σ 265) m) :
    kXM kT L xs (d + 8) 213 [.ref 232, .int x, .int y] σ (fun r σ' => ceP σ σ' n R S C N r) := by
  have hS4 := hB.2.1.1
  have hR4 := hB.1.1
  have hN6 := hS.1
  have hN := hS.2.1
  unfold kXM
  iterate 1 (refine kX_one rfl ?_)
  refine kX_cal (mr_isThere L xs (d + 6) σ S N hB.2.1.2.1 hS4 hN hN6) rfl (Or.inr rfl) rfl rfl rfl (fun r1 σ1 q1 => ?_)
  obtain ⟨⟨P, rfl⟩, rfl⟩ := q1
  repeat refine kX_one rfl ?_
  refine kX_if (fun q => ?_) (fun q => ?_)
  · iterate 2 (refine kX_one rfl ?_)
    refine kX_top (hN) ?_
    iterate 1 (refine kX_one rfl ?_)
    repeat refine kX_one rfl ?_
    refine kX_if (fun q2 => ?_) (fun q2 => ?_)
    · have q2 : N ≠ 600 := fun e => qne q2 (by rw [e]; decide)
      iterate 4 (refine kX_one rfl ?_)
      have := mr_ce_copy L xs (d + 7) σ n R S N hB.2.1 hR4 hN (by omega) x y (fun r σ' => ceP σ σ' n R S C N r) (fun SD SV P hI => mr_ce_two L xs d σ n b R S C N kl x y h hB hS (by omega) hc hl SD SV P hI) (0, True, σ 284, σ 285) ⟨Nat.zero_le _, fun j _ => rfl, fun u hu => absurd hu (Nat.not_lt_zero u), fun j _ => rfl, fun u k hu => absurd hu (Nat.not_lt_zero u)⟩
      dsimp only at this
      rw [isB_T trivial] at this
      refine kX_to _ _ rfl rfl rfl ?_ this
      funext c; unfold ceS va_up; repeat' split
      all_goals first | rfl | omega | (subst_vars; rfl) | (funext j; unfold upd; repeat' split; all_goals first | rfl | omega | (subst_vars; rfl))
    · repeat refine kX_one rfl ?_
      refine kX_ret (i := .ireturn) (len := 1) rfl (Or.inr rfl) rfl (ceP_same h hS (Or.inr rfl))
  · repeat refine kX_one rfl ?_
    refine kX_ret (i := .ireturn) (len := 1) rfl (Or.inr rfl) rfl (ceP_same h hS (Or.inl rfl))
