/-! alike: receives, all of it -/
theorem wy_aV {σ : kS} {n b R s r dn t w : Nat} {a : Nat → Int32} (h : mTb σ n b) (hR : mRo σ n R) (r1 : r < R) (hdn : dn < fN (σ 247 r)) (ht : t < n) (het : σ 248 (6 * r + dn) = nI t) (hw : w < wyN ((owO σ n r dn).map List.length)) : (∀ p (hp : p < (bls σ r dn).length), aV (aWy σ n r dn s a w) (6 * s + fN (σ 241 ((bls σ r dn)[p]'hp))) = nI (oG (owO σ n r dn) p (dG (owO σ n r dn) w p))) ∧ ∀ u k, k < 6 → (∀ p (h : p < (bls σ r dn).length), 6 * u + k ≠ 6 * s + fN (σ 241 ((bls σ r dn)[p]'h))) → aV (aWy σ n r dn s a w) (6 * u + k) = aV a (6 * u + k) := by
  have hn := h.1
  obtain ⟨b1, b2, b3, b4, b5⟩ := bls_ok h hR r1 hdn het ht
  obtain ⟨l1, l2, l3⟩ := ow_len σ n r dn w
  have hfk : ∀ u ∈ bls σ r dn, fN (σ 241 u) < 6 := fun u hu => by
    obtain ⟨-, ⟨k, k1, k2⟩, -⟩ := b3 u hu
    rw [k2, fN_nI (by omega)]
    exact k1
  refine ⟨fun p hp => ?_, fun u k hk hne => ?_⟩
  · have hin := wyT_in hw (j := p) (by omega) (by omega)
    have e1 : (owO σ n r dn)[p]'(by omega) = opL σ (fN (σ 240 ((bls σ r dn)[p]'hp))) n := by
      simp only [owO, List.getElem_map]
    rw [e1, opL_mem] at hin
    have e2 := wyT_G (os := owO σ n r dn) (w := w) (p := p) (by omega)
    rw [List.getD_eq_getElem?_getD, List.getElem?_eq_getElem (show p < (wyT (owO σ n r dn) w).length by omega)] at e2
    have e2 : (wyT (owO σ n r dn) w)[p]'(by omega) = oG (owO σ n r dn) p (dG (owO σ n r dn) w p) := e2
    have := hin.1
    rw [aV_at _ (hfk _ (List.getElem_mem hp)), aWy_at (ow_pw h hR r1 hdn het ht) hp (by omega), nnI_nI (by omega), e2]
  · rw [aV_at _ hk, aWy_ne (fun v hv => ?_), ← aV_at _ hk, aUp_V a s hk]
    obtain ⟨p, hp', rfl⟩ := List.getElem_of_mem hv
    have := hne p hp'
    have := hfk _ hv
    omega
section TK
variable {σ ρ : kS} {n b R S C i : Nat} {kl : List Nat} {x : sX} {a D V : Nat → Int32}
theorem tk_st (hT : mTb σ n b) (hB : mBs σ n R S C kl) (hY : mY σ ρ n R S x) (hi : i < x.1.length) (hai : (xq x.1 i).1 = a) (hD : ∀ u, u < S → D u = ρ 284 (4 * i + u)) (hV : ∀ u k, u < S → k < 6 → V (6 * u + k) = ρ 285 (24 * i + 6 * u + k)) : mY σ (va_up (va_up ρ 264 D) 265 V) n R S x ∧ aSt (va_up (va_up ρ 264 D) 265 V) S a := by
  refine ⟨mY_up hT hB (mY_up hT hB hY (Or.inl rfl)) (Or.inr (Or.inl rfl)), fun s hs => ?_, fun s k hs hk => ?_⟩
  · show D s = _
    rw [hD s hs, ← hai]
    exact (hY.2.2.2.1 i hi).1 s hs
  · show V (6 * s + k) = _
    rw [hV s k hs hk, ← hai, ← (hY.2.2.2.1 i hi).2.1 s k hs hk]
    unfold stV
    rw [show 24 * i + (6 * s + k) = 24 * i + 6 * s + k by omega]
/-- .. and its row -/
theorem tk_row {υ ω : kS} {b' : Nat} {l : rwT} (hT : mTb σ n b) (hB : mBs σ n R S C kl) (hY : mY σ υ n R S x) (ha : aOk σ n R S a) (hs : aSt υ S a) (hb : b' ≤ 776) (hm : mBd υ ω n b' l (trSt υ kl S)) : mY σ ω n R S x ∧ aSt ω S a ∧ rwY ω n (trSt (stI σ a) kl S) ∧ ω 292 = υ 292 ∧ ω 293 = υ 293 := by
  obtain ⟨f1, f2, f3, f4, f5⟩ := hm
  refine ⟨mY_fr hT hB hY f1 ⟨b', f2⟩, ⟨fun s h => ?_, fun s k h hk => ?_⟩, ⟨b', l, hb, f2, f3, f4, ?_⟩, f1.1 _ (by decide), f1.1 _ (by decide)⟩
  · rw [f1.1 264 (by decide)]
    exact hs.1 s h
  · rw [f1.1 265 (by decide)]
    exact hs.2 s k h hk
  · rw [f5]
    exact tr_st hT hB hY.1 ha hs
end TK
theorem rY_ne {C : Nat} {x : sX} {r : Option Value} (hC : C ≤ 6) (h : rY C x r) : (x.2.2.2 = 0 ↔ r = some (.int (-6))) := by
  rcases h with ⟨q1, q2⟩ | ⟨q1, q2⟩ | ⟨c, c1, c2, c3, -⟩
  · exact ⟨fun _ => q2, fun _ => q1⟩
  · refine ⟨fun z => ?_, fun z => ?_⟩
    · rw [q1] at z
      exact absurd z (by decide)
    · rw [q2] at z
      exact absurd (Value.int.inj (Option.some.inj z)) (by decide)
  · refine ⟨fun z => ?_, fun z => ?_⟩
    · rw [c2] at z
      exact absurd z (nI_ne0 (by omega) (by omega))
    · rw [c3] at z
      have z := Value.int.inj (Option.some.inj z)
      exact absurd (show nI c < 0 by rw [z]; decide) (nI_pos (by omega))
/-- how the loop over the ways stands -/
def ryI (σ τ : kS) (n R S s : Nat) (x : sX) (a : Nat → Int32) (op : List Nat) (os : List (List Nat)) (tr : trT) (w : Nat) : Prop := mY σ τ n R S x ∧ lst (τ 292) op ∧ rwY τ n tr ∧ (∀ u, u < S → τ 264 u = aD a u) ∧ (∀ u k, u < S → k < 6 → (∀ p (h : p < op.length), 6 * u + k ≠ 6 * s + fN (σ 241 (op[p]'h))) → τ 265 (6 * u + k) = aV a (6 * u + k)) ∧ ∀ p, p < op.length → τ 293 p = nI (oG os p (dG os w p))
/-- what receives leaves -/
def rcY (σ ω : kS) (n R S C : Nat) (kl : List Nat) (a : Nat → Int32) (X : sX) (r : Option Value) : Prop := mY σ ω n R S X ∧ rY C X r ∧ (X.2.2.2 = 0 → aSt ω S a ∧ rwY ω n (trSt (stI σ a) kl S))
set_option maxRecDepth 100000 in
set_option maxHeartbeats 4000000 in
theorem mY_rc_main (L : Nat) (xs : Nat → Int32) (d : Nat) (σ : kS) (n b R S C i s r dn t W : Nat) (kl : List Nat) (a : Nat → Int32) (X : sX) (hT : mTb σ n b) (hB : mBs σ n R S C kl) (ha : aOk σ n R S a) (hs : s < S) (r1 : r < R) (r2 : σ 255 s = nI r) (r3 : a (7 * s) = nI dn) (hdn : dn < fN (σ 247 r)) (hse : σ 249 (6 * r + dn) = 0) (ht : t < n) (het : σ 248 (6 * r + dn) = nI t) (hW : wyN ((owO σ n r dn).map List.length) = W) (hi6 : i < 600) (my : Int64) :
    ∀ q : Nat × kS × sX, (q.1 < W ∧ q.2.2.2.2.2 = 0 ∧ (i < q.2.2.1.length ∧ (xq q.2.2.1 i).1 = a) ∧ sWy σ kl S C i s a t (owP σ r dn) (owO σ n r dn) (W - q.1) q.1 q.2.2 = X ∧ ryI σ q.2.1 n R S s q.2.2 a (bls σ r dn) (owO σ n r dn) (trSt (stI σ a) kl S) q.1) → kX kT L xs (d + 9) 217 192 [(7, .int 1), (0, .ref 232), (1, .int (nI i)), (2, .int (nI s)), (3, .int (nI t)), (4, .int (nI (bls σ r dn).length)), (5, .long my)] [] q.2.1 (fun r σ' => rcY σ σ' n R S C kl a X r) := by
  have hn := hT.1
  have hR := hB.1
  have hS4 := hB.2.1.1
  have hR4 := hR.1
  have hC6 : C ≤ 6 := hB.2.2.2.1
  have he6 : fN (σ 247 r) ≤ 6 := by
    obtain ⟨-, e, e1, e2⟩ := hR.2.2.1 r r1
    rw [e2, fN_nI (by omega)]
    exact e1
  obtain ⟨bo1, bo2, bo3, bo4, bo5⟩ := bls_ok hT hR r1 hdn het ht
  have lO : (owO σ n r dn).length = (bls σ r dn).length := (ow_len σ n r dn 0).2.1
  have hO : opW σ n (bls σ r dn) (owO σ n r dn) := ⟨lO, bo5, fun p hp hp' => by
    obtain ⟨u1, -, so, s1, s2⟩ := bo3 _ (List.getElem_mem hp)
    refine ⟨by omega, so, s1, s2, ?_⟩
    simp only [owO, List.getElem_map]
    rw [s2, fN_nI (by omega)]⟩
  have hN : opN σ (bls σ r dn) := ⟨fun p hp => by
    obtain ⟨u1, u2, -⟩ := bo3 _ (List.getElem_mem hp)
    exact ⟨by omega, u2⟩, fun p q hp hq hpq => bo4 _ (List.getElem_mem hp) _ (List.getElem_mem hq) (fun e => by
      rcases Nat.lt_or_gt_of_ne hpq with hh | hh
      · exact List.pairwise_iff_getElem.mp bo2 p q hp hq hh e
      · exact List.pairwise_iff_getElem.mp bo2 q p hq hp hh e.symm)⟩
  refine kX_while (fun q : Nat × kS × sX => [(7, .int 1), (0, .ref 232), (1, .int (nI i)), (2, .int (nI s)), (3, .int (nI t)), (4, .int (nI (bls σ r dn).length)), (5, .long my)]) (fun q => q.2.1) _ (fun q => W - q.1) ?_
  rintro ⟨w, τ, x⟩ ⟨i1, i2, ⟨i3, i3'⟩, i4, i5⟩ ih
  dsimp only at i1 i2 i3 i3' i4 i5 ih ⊢
  obtain ⟨j1, j2, ⟨bt, l, c1, c2, c3, c4, c5⟩, j4, j5, j6⟩ := i5
  have hF := j1.1
  have hwW : w < wyN ((owO σ n r dn).map List.length) := by rw [hW]; exact i1
  obtain ⟨ok1, ok2, ok3⟩ := aOk_way hT hR ha hs r1 r2 r3 hdn hse ht het hwW
  obtain ⟨va1, va2⟩ := wy_aV (s := s) (a := a) hT hR r1 hdn ht het hwW
  obtain ⟨m', hm'⟩ : ∃ m', W - w = m' + 1 := ⟨W - w - 1, by omega⟩
  rw [hm', sWy_s i2] at i4
  have hofn : τ 241 = σ 241 := hF.1 _ (by decide) (by decide)
  /- the turn, with what came to be -/
  have k308 : ∀ ρ x2, x2 = sW1 σ kl n S C i s a r dn t w x → x2.2.2.2 = 0 → mY σ ρ n R S x2 → lst (ρ 292) (bls σ r dn) → rwY ρ n (trSt (stI σ a) kl S) → (∀ u, u < S → ρ 264 u = aD a u) → (∀ u k, u < S → k < 6 → (∀ p (h : p < (bls σ r dn).length), 6 * u + k ≠ 6 * s + fN (σ 241 ((bls σ r dn)[p]'h))) → ρ 265 (6 * u + k) = aV a (6 * u + k)) → ρ 293 = τ 293 → kX kT L xs (d + 9) 217 308 [(0, .ref 232), (1, .int (nI i)), (2, .int (nI s)), (3, .int (nI t)), (4, .int (nI (bls σ r dn).length)), (5, .long my)] [] ρ (fun r σ' => rcY σ σ' n R S C kl a X r) := by
    intro ρ x2 e0 ez e1 e2 ⟨b2, l2, g1, g2, g3, g4, g5⟩ e4 e5 e6
    have hpre := sW1_pre (σ := σ) (kl := kl) (n := n) (S := S) (C := C) (i := i) (s := s) (r := r) (dn := dn) (t := t) (w := w) (a := a) i3
    rw [← e0] at hpre i4
    have hai2 : (xq x2.1 i).1 = a := by rw [hpre.2]; exact i3'
    refine mf_rc_turn L xs (d + 6) σ ρ n b b2 w (bls σ r dn) (owO σ n r dn) hT e1.1 g2 hO e2 hwW (by rw [e6]; exact j6) (nI i) (nI s) (nI t) my _ (fun hlast CH => ?_) (fun hgo CH hCH => ?_)
    · have hx2 : x2 = X := by
        rw [show m' = 0 by omega] at i4
        exact i4
      have hse2 : (va_up ρ 293 CH) 232 27 = nI S := (e1.1.2.1 _ (by decide) (by decide)).trans hB.2.1.2.1
      iterate 2 (refine kX_one rfl ?_)
      refine kX_cal (mr_takeState L xs (d + 7) (va_up ρ 293 CH) S i hse2 hS4 hi6) rfl (Or.inr rfl) rfl rfl rfl (fun r1 σ3 q1 => ?_)
      obtain ⟨rfl, D, V, rfl, hD, hV⟩ := q1
      obtain ⟨y1, y2⟩ := tk_st hT hB (mY_up (f := CH) hT hB e1 (Or.inr (Or.inr (Or.inr rfl)))) hpre.1 hai2 hD hV
      subst hx2
      repeat refine kX_one rfl ?_
      refine kX_ret (i := .ireturn) (len := 1) rfl (Or.inr rfl) rfl ⟨y1, Or.inl ⟨ez, rfl⟩, fun _ => ⟨y2, b2, l2, g1, g2, g3, g4, g5⟩⟩
    · exact ih (w + 1, va_up ρ 293 CH, x2) ⟨by simp only; omega, ez, ⟨hpre.1, hai2⟩, by simp only; rw [show W - (w + 1) = m' by omega]; exact i4, mY_up hT hB e1 (Or.inr (Or.inr (Or.inr rfl))), e2, ⟨b2, l2, g1, g2, g3, g4, g5⟩, e4, e5, hCH⟩ (by simp only; omega)
  iterate 4 (refine kX_one rfl ?_)
  have hset := mr_rc_set L xs (d + 8) τ s (bls σ r dn) (fun p => oG (owO σ n r dn) p (dG (owO σ n r dn) w p)) (by omega) bo5 (by unfold opN; rw [hofn]; exact hN) j2 (fun p hp => j6 p hp) (nI i) (nI t) 1 my (fun r σ' => rcY σ σ' n R S C kl a X r) (fun V hV => ?_) (0, τ 265) ⟨Nat.zero_le _, fun p hp h0 => absurd h0 (Nat.not_lt_zero p), fun j _ => rfl⟩
  · refine kX_to _ _ rfl rfl rfl ?_ hset
    funext c; unfold  va_up; repeat' split
    all_goals first | rfl | omega | (subst_vars; rfl) | (funext j; unfold upd; repeat' split; all_goals first | rfl | omega | (subst_vars; rfl))
  · unfold opV at hV
    rw [hofn] at hV
    have hval : ∀ u k, u < S → k < 6 → V (6 * u + k) = aV (aWy σ n r dn s a w) (6 * u + k) := fun u k hu hk => by
      by_cases q : ∀ p (h : p < (bls σ r dn).length), 6 * u + k ≠ 6 * s + fN (σ 241 ((bls σ r dn)[p]'h))
      · rw [va2 u k hk q, hV.2 _ q]
        exact j5 u k hu hk q
      · obtain ⟨p, hp, e⟩ : ∃ p, ∃ (h : p < (bls σ r dn).length), 6 * u + k = 6 * s + fN (σ 241 ((bls σ r dn)[p]'h)) := Classical.byContradiction (fun z => q (fun p hp e => z ⟨p, hp, e⟩))
        rw [e, va1 p hp, hV.1 p hp hp]
    have etv : tvs (τ 233) (τ 234) (τ 235) t = tvs (σ 233) (σ 234) (σ 235) t := (mFr_all hT (pat_fr hF) ht).2.2
    have hvz : ∀ u ∈ tvs (σ 233) (σ 234) (σ 235) t, ∃ p z, p < 6 ∧ z < n ∧ σ 241 u = nI p ∧ aV (aWy σ n r dn s a w) (6 * s + p) = nI z ∧ V (6 * s + p) = nI z ∧ tgd (σ 233) (σ 234) (σ 235) z = true ∧ (σ 240 u = nI 0 → σ 233 z = nI 0) := fun u hu => by
      obtain ⟨p, z, p1, p2, p3, p4, p5, p6⟩ := ok3 u hu
      exact ⟨p, z, p1, p2, p3, p4, by rw [hval s p hs p1]; exact p4, p5, p6⟩
    have hst : mSt (va_up τ 265 V) n s t := by
      intro u hu
      have hu : u ∈ tvs (τ 233) (τ 234) (τ 235) t := hu
      rw [etv] at hu
      obtain ⟨p, z, p1, p2, p3, -, p4, p5, p6⟩ := hvz u hu
      have etg : tgd (τ 233) (τ 234) (τ 235) z = tgd (σ 233) (σ 234) (σ 235) z := (mFr_all hT (pat_fr hF) p2).2.1
      refine ⟨p, z, p1, p2, ?_, p4, etg.trans p5, ?_⟩
      · show τ 241 u = _
        rw [hofn]
        exact p3
      · show τ 240 u = _ → τ 233 z = _
        rw [hF.1 240 (by decide) (by decide), (hF.2.2 z (by omega)).1]
        exact p6
    have htin : tin (va_up τ 265 V) s t = tin (stI σ (aWy σ n r dn s a w)) s t := tin_cg (σ := stI σ (aWy σ n r dn s a w)) (τ := va_up τ 265 V) (b := b) hT (fun u hu => hF.2.2 u (by omega)) hofn t ht (fun u hu => by
      obtain ⟨p, z, p1, p2, p3, p4, p5, -⟩ := hvz u hu
      exact ⟨p, z, p1, p2, p3, p4, p5⟩)
    have htrM : trM (va_up τ 265 V) (rwM (va_up τ 265 V) l) (tin (va_up τ 265 V) s t) = trM σ (trSt (stI σ a) kl S) (tin (stI σ (aWy σ n r dn s a w)) s t) := by
      have e1 : rwM (va_up τ 265 V) l = trSt (stI σ a) kl S := c5
      have e2 : mA (va_up τ 265 V) = mA σ := mA_cg (σ := σ) (τ := va_up τ 265 V) hF.2.2
      have e3 : (va_up τ 265 V) 238 = σ 238 := hF.1 _ (by decide) (by decide)
      unfold trM
      rw [e1, htin, e2, e3]
    refine mf_rc_try L xs (d + 3) (va_up τ 265 V) n bt s t l c2 c1 c3 c4 (by omega) ht hst (nI i) (nI (bls σ r dn).length) 1 my (fun r σ' => rcY σ σ' n R S C kl a X r) (fun ρ hFr hTr hqr hjr hrw => ?_)
    rw [htrM]
    have hYr : mY σ ρ n R S x := mY_fr hT hB (mY_up (f := V) hT hB j1 (Or.inr (Or.inl rfl))) hFr ⟨bt, hTr⟩
    have hrwr : rwY ρ n (trSt (stI σ a) kl S) := ⟨bt, l, c1, hTr, hqr, hjr, hrw.trans c5⟩
    have edo : ρ 264 = τ 264 := hFr.1 _ (by decide)
    have eva : ρ 265 = V := hFr.1 _ (by decide)
    have eop : ρ 292 = τ 292 := hFr.1 _ (by decide)
    have ech : ρ 293 = τ 293 := hFr.1 _ (by decide)
    by_cases hcan : trM σ (trSt (stI σ a) kl S) (tin (stI σ (aWy σ n r dn s a w)) s t)
    · rw [isB_T hcan]
      have hw1 : sW1 σ kl n S C i s a r dn t w x = sRe σ kl S C x (aWy σ n r dn s a w) (nI i) (nI s) := by
        unfold sW1
        rw [cit_T hcan]
      have hds : ρ 264 s = nI dn := by
        rw [edo, j4 s hs]
        exact r3
      have hst2 : aSt (va_up ρ 264 (upd (ρ 264) s (nI (dn + 1)))) S (aWy σ n r dn s a w) := by
        refine ⟨fun u hu => ?_, fun u k hu hk => ?_⟩
        · show upd (ρ 264) s (nI (dn + 1)) u = _
          have := ok2.2 u hu
          by_cases e : u = s
          · subst e
            rw [pk_us, (this.2 rfl).1]
            show _ = a (7 * u) + 1
            rw [r3, nI_1]
          · rw [pk_un e, (this.1 e).1, edo]
            exact j4 u hu
        · show ρ 265 (6 * u + k) = _
          rw [eva]
          exact hval u k hu hk
      iterate 6 (refine kX_one rfl ?_)
      refine kX_ialdV rfl rfl (by decide) (s) (by first | rfl | decide) (by omega) (hds) ?_
      iterate 2 (refine kX_one rfl ?_)
      refine kX_top (nI_1 dn) ?_
      refine kX_iastN rfl rfl (by decide) (s) (by first | rfl | decide) (by omega) ?_
      have hcom := mY_comes L xs d σ (va_up ρ 264 (upd (ρ 264) s (nI (dn + 1)))) n b R S C kl x (aWy σ n r dn s a w) (nI i) (nI s) hT hB (mY_up hT hB hYr (Or.inl rfl)) ok1 hst2 i2 (Or.inr ⟨i, s, i3, rfl, rfl, by rw [i3']; exact ok2⟩)
      have eop1 : (va_up ρ 264 (upd (ρ 264) s (nI (dn + 1)))) 292 = τ 292 := eop
      have ech1 : (va_up ρ 264 (upd (ρ 264) s (nI (dn + 1)))) 293 = τ 293 := ech
      rw [← hw1] at hcom
      generalize va_up ρ 264 (upd (ρ 264) s (nI (dn + 1))) = ρ1 at *
      iterate 3 (refine kX_one rfl ?_)
      refine kX_cal hcom rfl (Or.inr rfl) rfl rfl rfl (fun r1 ω q1 => ?_)
      obtain ⟨z1, z2, -, -, z5, z6⟩ := q1
      have hne := rY_ne hC6 z2
      have hpre := sW1_pre (σ := σ) (kl := kl) (n := n) (S := S) (C := C) (i := i) (s := s) (r := r) (dn := dn) (t := t) (w := w) (a := a) i3
      have hret : ∀ v : Int32, r1 = some (.int v) → v ≠ -6 → rcY σ ω n R S C kl a X (some (.int v)) := fun v hv hv6 => by
        have hnz : (sW1 σ kl n S C i s a r dn t w x).2.2.2 ≠ 0 := fun z => by
          have := hne.mp z
          rw [hv] at this
          exact hv6 (Value.int.inj (Option.some.inj this))
        rw [sWy_n hnz] at i4
        rw [← i4, ← hv]
        exact ⟨z1, z2, fun z => absurd z hnz⟩
      have k299 : (sW1 σ kl n S C i s a r dn t w x).2.2.2 = 0 → ∀ lv, nk lv = true → ([(0, .ref 232), (1, .int (nI i)), (2, .int (nI s)), (3, .int (nI t)), (4, .int (nI (bls σ r dn).length)), (5, .long my)] : jL).map (fun q => jl lv q.1) = ([(0, Value.ref 232), (1, .int (nI i)), (2, .int (nI s)), (3, .int (nI t)), (4, .int (nI (bls σ r dn).length)), (5, .long my)] : jL).map (fun q => some q.2) → kX kT L xs (d + 9) 217 299 lv [] ω (fun r σ' => rcY σ σ' n R S C kl a X r) := by
        intro hz lv hk hlv
        refine kX_lv _ hk rfl hlv ?_
        have hse2 : ω 232 27 = nI S := (z1.1.2.1 _ (by decide) (by decide)).trans hB.2.1.2.1
        iterate 2 (refine kX_one rfl ?_)
        refine kX_cal (mr_takeState L xs (d + 7) ω S i hse2 hS4 hi6) rfl (Or.inr rfl) rfl rfl rfl (fun r1 σ3 q1 => ?_)
        obtain ⟨rfl, D, V2, rfl, hD, hV2⟩ := q1
        obtain ⟨y1, y2⟩ := tk_st (a := a) hT hB z1 hpre.1 (by rw [hpre.2]; exact i3') hD hV2
        have yop : (va_up (va_up ω 264 D) 265 V2) 292 = ω 292 := rfl
        have ych : (va_up (va_up ω 264 D) 265 V2) 293 = ω 293 := rfl
        generalize va_up (va_up ω 264 D) 265 V2 = υ at *
        obtain ⟨bu, hTu⟩ := y1.2.1
        have hBu := mBs_sf hT y1.1 hB
        iterate 1 (refine kX_one rfl ?_)
        refine kX_cal (mr_stateRow L xs (d + 1) υ n bu R S kl hTu hBu.2.2.1 hBu.1 hS4 (cfg_Sv hTu hBu.1 hBu.2.1 (cfg_st hT hR y1.1 ha y2))) rfl (Or.inr rfl) rfl rfl rfl (fun r1 κ q1 => ?_)
        obtain ⟨rfl, -, b', l', hb', hbd⟩ := q1
        obtain ⟨t1, t2, t3, t4, t5⟩ := tk_row hT hB y1 ha y2 hb' hbd
        refine kX_lv _ rfl rfl rfl (k308 κ _ rfl hz t1 (by rw [t4, yop, z5, eop1]; exact j2) t3 t2.1 (fun u k hu hk _ => t2.2 u k hu hk) (by rw [t5, ych, z6, ech1]))
      rcases z2 with ⟨q1, rfl⟩ | ⟨q1, rfl⟩ | ⟨c, hc1, hc2, rfl, -⟩
      · iterate 4 (refine kX_one rfl ?_)
        exact k299 q1 _ rfl rfl
      · repeat refine kX_one rfl ?_
        refine kX_ret (i := .ireturn) (len := 1) rfl (Or.inr rfl) rfl (hret _ rfl (by decide))
      · have h0 : ¬ nI c < 0 := nI_pos (by omega)
        have h6 : nI c ≠ -6 := fun e => h0 (by rw [e]; decide)
        repeat refine kX_one rfl ?_
        refine kX_if (fun q => ?_) (fun q => ?_)
        · exact absurd (qeq q) h6
        · repeat refine kX_one rfl ?_
          refine kX_ret (i := .ireturn) (len := 1) rfl (Or.inr rfl) rfl (hret _ rfl h6)
    · rw [isB_F hcan]
      have hw1 : x = sW1 σ kl n S C i s a r dn t w x := by
        unfold sW1
        rw [cit_F hcan]
      iterate 2 (refine kX_one rfl ?_)
      refine kX_lv _ rfl rfl rfl (k308 ρ x hw1 i2 hYr (by rw [eop]; exact j2) hrwr (fun u hu => by rw [edo]; exact j4 u hu) (fun u k hu hk hne => ?_) ech)
      rw [eva, hV.2 _ hne]
      exact j5 u k hu hk hne
