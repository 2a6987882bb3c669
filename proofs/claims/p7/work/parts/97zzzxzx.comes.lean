/-! alike: comesToBe -/
theorem trSt_eq {σ τ : kS} {kl : List Nat} {S : Nat} (e1 : τ 233 = σ 233) (e2 : τ 234 = σ 234) (e3 : τ 235 = σ 235) (e4 : τ 265 = σ 265) (e5 : τ 241 = σ 241) (e6 : τ 249 = σ 249) (e7 : τ 248 = σ 248) (e8 : τ 255 = σ 255) (e9 : τ 238 = σ 238) (e10 : τ 264 = σ 264) : trSt τ kl S = trSt σ kl S := by
  have h1 : trKn τ kl = trKn σ kl := by
    unfold trKn
    rw [e1, e2, e3]
  have h2 : tin τ = tin σ := by
    funext s t
    unfold tin mVl
    rw [e1, e2, e3, e4, e5]
  have h3 : ∀ s tr k, trSe τ s tr k = trSe σ s tr k := by
    intro s tr k
    induction k with
    | zero => rfl
    | succ k ih =>
      unfold trSe mEv
      rw [ih, h2, e6, e7, e8]
  have h4 : ∀ tr s, trSs τ tr s = trSs σ tr s := by
    intro tr s
    induction s with
    | zero => rfl
    | succ s ih =>
      unfold trSs
      rw [ih, h3, e10]
  have h5 : mA τ = mA σ := by
    unfold mA
    rw [e1]
  unfold trSt
  rw [h1, h4, h5, e9]
/-- a STATE more -/
def ceG (σ σ' : kS) (S C N : Nat) (kl : List Nat) (x y : Int32) (r : Option Value) : Prop := cbR C (fsB (fun c => mBt σ (trSt σ kl S) c S) C 0) r ∧ σ' 232 69 = nI (N + 1) ∧ σ' 232 71 = σ 232 71 + isB (∀ s, s < S → adN σ s) ∧ (∀ j, j ∉ rowJ → j ≠ 69 → j ≠ 71 → σ' 232 j = σ 232 j) ∧ σ' 286 = upd (σ 286) N x ∧ σ' 287 = upd (σ 287) N y ∧ (∀ s, s < S → stD σ' N s = σ 264 s) ∧ ∀ s k, s < S → k < 6 → stV σ' N (6 * s + k) = σ 265 (6 * s + k)
set_option maxRecDepth 100000 in
set_option maxHeartbeats 4000000 in
theorem mf_ce_two (L : Nat) (xs : Nat → Int32) (d : Nat) (σ : kS) (n b R S C N : Nat) (kl : List Nat) (x y : Int32) (h : mTb σ n b) (hB : mBs σ n R S C kl) (hS : mSs σ n R S N) (hN6 : N < 600) (hc : cfg σ n R S (σ 264) (σ 265)) (hl : (N = 0 ∧ ∀ s, s < S → σ 264 s = 0) ∨ ∃ j m, j < N ∧ x = nI j ∧ y = nI m ∧ stp S (stD σ j) (stV σ j) (σ 264) (σ 265) m) (SD SV : Nat → Int32) (P : Prop) (hPa : P ↔ ∀ s, s < S → adN σ s) (hI : ceI σ N S SD SV) :
    kX kT L xs (d + 8) 213 146 [(3, .int (isB P)), (0, .ref 232), (1, .int x), (2, .int y)] [] (ceS σ SD SV) (fun r σ' => ceP σ σ' n R S C N r ∧ ceG σ σ' S C N kl x y r) := by
  have hS4 := hB.2.1.1
  have hN := hS.2.1
  have k194 : ∀ e : Int32, e = σ 232 71 + isB P → kX kT L xs (d + 8) 213 194 [(3, .int (isB P)), (0, .ref 232), (1, .int x), (2, .int y)] [] (ceT σ N SD SV x y e) (fun r σ' => ceP σ σ' n R S C N r ∧ ceG σ σ' S C N kl x y r) := by
    intro e hee
    have hF := ceT_sf σ n N SD SV x y e
    have hT : mTb (ceT σ N SD SV x y e) n b := h
    have hB2 := mBs_sf h hF hB
    have hS2 := ceT_Ss (e := e) h hB.1 hS hS4 hN6 hI hc hl
    have hc2 : cfg (ceT σ N SD SV x y e) n R S (ceT σ N SD SV x y e 264) (ceT σ N SD SV x y e 265) := cfg_sf h hB.1 hF hc
    have hst : ∀ i, i < N → (∀ s, s < S → stD (ceT σ N SD SV x y e) i s = stD σ i s) ∧ ∀ s k, s < S → k < 6 → stV (ceT σ N SD SV x y e) i (6 * s + k) = stV σ i (6 * s + k) := fun i hi => ⟨fun s hs => hI.1 (4 * i + s) (by omega), fun s k hs hk => hI.2.2.1 (24 * i + (6 * s + k)) (by omega)⟩
    have hd : ceT σ N SD SV x y e 264 = σ 264 := rfl
    have hv : ceT σ N SD SV x y e 265 = σ 265 := rfl
    have ho : ceT σ N SD SV x y e 292 = σ 292 := rfl
    have hch : ceT σ N SD SV x y e 293 = σ 293 := rfl
    have hpa : ceT σ N SD SV x y e 286 = upd (σ 286) N x := rfl
    have hmo : ceT σ N SD SV x y e 287 = upd (σ 287) N y := rfl
    have h232 : ceT σ N SD SV x y e 232 = upd (upd (σ 232) 69 (nI (N + 1))) 71 e := rfl
    have hnw : (∀ s, s < S → stD (ceT σ N SD SV x y e) N s = σ 264 s) ∧ ∀ s k, s < S → k < 6 → stV (ceT σ N SD SV x y e) N (6 * s + k) = σ 265 (6 * s + k) := ⟨fun s hs => hI.2.1 s hs, fun s k hs hk => by
      have := hI.2.2.2 s k hs hk
      rw [show 24 * N + 6 * s + k = 24 * N + (6 * s + k) by omega] at this
      exact this⟩
    have hbt : ∀ tr c, mBt (ceT σ N SD SV x y e) tr c S = mBt σ tr c S := fun _ _ => rfl
    have htt : trSt (ceT σ N SD SV x y e) kl S = trSt σ kl S := trSt_eq rfl rfl rfl rfl rfl rfl rfl rfl rfl rfl
    generalize ceT σ N SD SV x y e = ρ at *
    iterate 1 (refine kX_one rfl ?_)
    refine kX_cal (mr_stateRow L xs d ρ n b R S kl hT hB2.2.2.1 hB2.1 hS4 (cfg_Sv hT hB2.1 hB2.2.1 hc2)) rfl (Or.inr rfl) rfl rfl rfl (fun r1 σ1 q1 => ?_)
    obtain ⟨rfl, -, b', l, -, g1, g2, g3, g4, g5⟩ := q1
    have hB3 := mBs_sf hT (mSf_fr g1) hB2
    have hS3 := mSs_fr hT hB2.1 g1 hS2
    have ed := g1.1 264 (by decide)
    have ev := g1.1 265 (by decide)
    have hc3 : cfg σ1 n R S (σ1 264) (σ1 265) := by
      rw [ed, ev]
      exact cfg_sf hT hB2.1 (mSf_fr g1) hc2
    iterate 2 (refine kX_one rfl ?_)
    have := mf_ce_brk L xs (d + 1) σ1 n b' R S C kl l g2 hB3 hc3 x y (isB P) (fun r σ' => ceP σ σ' n R S C N r ∧ ceG σ σ' S C N kl x y r) (fun r τ e1 e2 e3 => ?_) (0, σ1) ⟨Nat.zero_le _, mFr_refl σ1 n, g2, g3, g4, rfl, fun c hc => absurd hc (Nat.not_lt_zero c)⟩
    · exact kX_lv _ rfl rfl rfl this
    · have hS4' := mSs_fr g2 hB3.1 e2 hS3
      have esd : τ 284 = ρ 284 := (e2.1 _ (by decide)).trans (g1.1 _ (by decide))
      have esv : τ 285 = ρ 285 := (e2.1 _ (by decide)).trans (g1.1 _ (by decide))
      have hfc : fsB (fun c => mBt σ1 (rwM σ1 l) c S) C 0 = fsB (fun c => mBt σ (trSt σ kl S) c S) C 0 := fsB_congr C 0 (fun c _ hc => by
        have a1 := mBk_tr (l := l) g2 (mFr_refl σ1 n) hB3.1 hB3.2.2.2 (c := c) (by omega) hS4 (cfg_Sv g2 hB3.1 hB3.2.1 hc3)
        have a2 := mBk_tr (l := l) hT g1 hB2.1 hB2.2.2.2 (c := c) (by omega) hS4 (cfg_Sv hT hB2.1 hB2.2.1 hc2)
        rw [← a1, a2, g5, htt, hbt])
      rw [hfc] at e1
      have e1' : ceR C (N + 1) r := by
        rcases e1 with w | ⟨c, w1, w2, -⟩
        · exact Or.inl w.1
        · exact Or.inr (Or.inr ⟨c, w1, w2, by omega⟩)
      have o232 : ∀ j, j ∉ rowJ → τ 232 j = ρ 232 j := fun j hj => (e2.2.1 j hj).trans (g1.2.1 j hj)
      refine ⟨⟨N + 1, by omega, by omega, e1', mSf_trans hF (mSf_trans (mSf_fr g1) (mSf_fr e2)), e3, hS4', ?_, ?_, ?_, ?_, fun i hi => ?_⟩, e1, ?_, ?_, ?_, ?_, ?_, ?_⟩
      · rw [e2.1 264 (by decide), ed, hd]
      · rw [e2.1 265 (by decide), ev, hv]
      · rw [e2.1 292 (by decide), g1.1 292 (by decide), ho]
      · rw [e2.1 293 (by decide), g1.1 293 (by decide), hch]
      · have := hst i hi
        unfold stD stV at this ⊢
        rw [esd, esv]
        exact this
      · rw [o232 _ (by decide), h232, pk_un (by decide), pk_us]
      · rw [o232 _ (by decide), h232, pk_us, hee, isB_iff hPa]
      · intro j hj j1 j2
        rw [o232 j hj, h232, pk_un j2, pk_un j1]
      · rw [e2.1 286 (by decide), g1.1 286 (by decide), hpa]
      · rw [e2.1 287 (by decide), g1.1 287 (by decide), hmo]
      · unfold stD stV at hnw ⊢
        rw [esd, esv]
        exact hnw
  have k190 : ∀ m : Int32, m = isB P → kX kT L xs (d + 8) 213 190 [(3, .int (isB P)), (0, .ref 232), (1, .int x), (2, .int y)] [.int m, .int (σ 232 71), .ref 232] (va_up (va_up (va_up (ceS σ SD SV) 286 (upd (σ 286) N x)) 287 (upd (σ 287) N y)) 232 (upd (σ 232) 69 (nI (N + 1)))) (fun r σ' => ceP σ σ' n R S C N r ∧ ceG σ σ' S C N kl x y r) := by
    intro m hm
    iterate 2 (refine kX_one rfl ?_)
    refine kX_st (ceT σ N SD SV x y (σ 232 71 + m)) ?_ (k194 _ (by rw [hm]))
    funext c; unfold ceT va_up; repeat' split
    all_goals first | rfl | omega | (subst_vars; rfl) | (funext j; unfold upd; repeat' split; all_goals first | rfl | omega | (subst_vars; rfl))
  iterate 4 (refine kX_one rfl ?_)
  refine kX_top (hN) ?_
  iterate 1 (refine kX_one rfl ?_)
  refine kX_iastN rfl rfl (by decide) (N) (by first | rfl | decide) (by omega) ?_
  iterate 4 (refine kX_one rfl ?_)
  refine kX_top (hN) ?_
  iterate 1 (refine kX_one rfl ?_)
  refine kX_iastN rfl rfl (by decide) (N) (by first | rfl | decide) (by omega) ?_
  iterate 3 (refine kX_one rfl ?_)
  refine kX_top (hN) ?_
  iterate 3 (refine kX_one rfl ?_)
  refine kX_st (va_up (va_up (va_up (ceS σ SD SV) 286 (upd (σ 286) N x)) 287 (upd (σ 287) N y)) 232 (upd (σ 232) 69 (nI (N + 1)))) ?_ ?_
  · rw [← nI_1]
    funext c; unfold ceS va_up; repeat' split
    all_goals first | rfl | omega | (subst_vars; rfl) | (funext j; unfold upd; repeat' split; all_goals first | rfl | omega | (subst_vars; rfl))
  iterate 3 (refine kX_one rfl ?_)
  repeat refine kX_one rfl ?_
  refine kX_if (fun q => ?_) (fun q => ?_)
  · have q : ¬ P := fun w => isB_ne.mpr w (qeq q)
    iterate 1 (refine kX_one rfl ?_)
    exact k190 0 (isB_F q).symm
  · have q : P := isB_ne.mp (qeqF q)
    iterate 2 (refine kX_one rfl ?_)
    exact k190 1 (isB_T q).symm
set_option maxRecDepth 100000 in
set_option maxHeartbeats 4000000 in
theorem mf_comesToBe (L : Nat) (xs : Nat → Int32) (d : Nat) (σ : kS) (n b R S C N : Nat) (kl : List Nat) (x y : Int32) (h : mTb σ n b) (hB : mBs σ n R S C kl) (hS : mSs σ n R S N) (hc : cfg σ n R S (σ 264) (σ 265)) (hl : (N = 0 ∧ ∀ s, s < S → σ 264 s = 0) ∨ ∃ j m, j < N ∧ x = nI j ∧ y = nI m ∧ stp S (stD σ j) (stV σ j) (σ 264) (σ 265) m) :
    kXM kT L xs (d + 8) 213 [.ref 232, .int x, .int y] σ (fun r σ' => ceP σ σ' n R S C N r ∧ (((∃ i, i < N ∧ smS σ S i) ∧ r = some (.int (-6)) ∧ σ = σ') ∨ (¬ (∃ i, i < N ∧ smS σ S i) ∧ N = 600 ∧ r = some (.int (-7)) ∧ σ = σ') ∨ (¬ (∃ i, i < N ∧ smS σ S i) ∧ N < 600 ∧ ceG σ σ' S C N kl x y r))) := by
  have hS4 := hB.2.1.1
  have hR4 := hB.1.1
  have hN6 := hS.1
  have hN := hS.2.1
  unfold kXM
  iterate 1 (refine kX_one rfl ?_)
  refine kX_cal (mf_isThere L xs (d + 6) σ S N hB.2.1.2.1 hS4 hN hN6) rfl (Or.inr rfl) rfl rfl rfl (fun r1 σ1 q1 => ?_)
  obtain ⟨rfl, rfl⟩ := q1
  repeat refine kX_one rfl ?_
  refine kX_if (fun q => ?_) (fun q => ?_)
  · have q : ¬ (∃ i, i < N ∧ smS σ S i) := fun w => isB_ne.mpr w (qeq q)
    iterate 2 (refine kX_one rfl ?_)
    refine kX_top (hN) ?_
    iterate 1 (refine kX_one rfl ?_)
    repeat refine kX_one rfl ?_
    refine kX_if (fun q2 => ?_) (fun q2 => ?_)
    · have q2 : N ≠ 600 := fun e => qne q2 (by rw [e]; decide)
      iterate 4 (refine kX_one rfl ?_)
      have := mf_ce_copy L xs (d + 7) σ n R S N hB.2.1 hR4 hN (by omega) x y (fun r σ' => ceP σ σ' n R S C N r ∧ (((∃ i, i < N ∧ smS σ S i) ∧ r = some (.int (-6)) ∧ σ = σ') ∨ (¬ (∃ i, i < N ∧ smS σ S i) ∧ N = 600 ∧ r = some (.int (-7)) ∧ σ = σ') ∨ (¬ (∃ i, i < N ∧ smS σ S i) ∧ N < 600 ∧ ceG σ σ' S C N kl x y r))) (fun SD SV P hPa hI => kX_post (mf_ce_two L xs d σ n b R S C N kl x y h hB hS (by omega) hc hl SD SV P hPa hI) (fun r σ' w => ⟨w.1, Or.inr (Or.inr ⟨q, by omega, w.2⟩)⟩)) (0, True, σ 284, σ 285) ⟨Nat.zero_le _, ⟨fun _ s hs => absurd hs (Nat.not_lt_zero s), fun _ => trivial⟩, fun j _ => rfl, fun u hu => absurd hu (Nat.not_lt_zero u), fun j _ => rfl, fun u k hu => absurd hu (Nat.not_lt_zero u)⟩
      dsimp only at this
      rw [isB_T trivial] at this
      refine kX_to _ _ rfl rfl rfl ?_ this
      funext c; unfold ceS va_up; repeat' split
      all_goals first | rfl | omega | (subst_vars; rfl) | (funext j; unfold upd; repeat' split; all_goals first | rfl | omega | (subst_vars; rfl))
    · have q2 : nI N = nI 600 := qneF q2
      have q2 : N = 600 := nI_inj q2
      repeat refine kX_one rfl ?_
      refine kX_ret (i := .ireturn) (len := 1) rfl (Or.inr rfl) rfl (⟨ceP_same h hS (Or.inr rfl), Or.inr (Or.inl ⟨q, q2, rfl, rfl⟩)⟩)
  · have q : ∃ i, i < N ∧ smS σ S i := isB_ne.mp (qeqF q)
    repeat refine kX_one rfl ?_
    refine kX_ret (i := .ireturn) (len := 1) rfl (Or.inr rfl) rfl (⟨ceP_same h hS (Or.inl rfl), Or.inl ⟨q, rfl, rfl⟩⟩)
