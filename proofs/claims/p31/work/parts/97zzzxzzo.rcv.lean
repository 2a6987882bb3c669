section
/-! alike: receives, all of it -/
theorem wy_aV {σ : kS} {n b R s r dn t w : Nat} {a : Nat → Int32} (h : mTb σ n b) (hR : mRo σ n R) (r1 : r < R) (hdn : dn < fN (σ 247 r)) (ht : t < n) (het : σ 248 (6 * r + dn) = nI t) (hw : w < wyN ((owO σ n r dn).map List.length)) : (∀ p (hp : p < (bls σ r dn).length), aV (aWy σ n r dn s a w) (6 * s + fN (σ 241 ((bls σ r dn)[p]'hp))) = nI (oG (owO σ n r dn) p (dG (owO σ n r dn) w p))) ∧ ∀ u k, k < 6 → (∀ p (h : p < (bls σ r dn).length), 6 * u + k ≠ 6 * s + fN (σ 241 ((bls σ r dn)[p]'h))) → aV (aWy σ n r dn s a w) (6 * u + k) = aV a (6 * u + k) := by
  have hn := h.1
  obtain ⟨b1, b2, b3, b4, b5⟩ := bls_ok h hR r1 hdn het ht
  obtain ⟨l1, l2, l3⟩ := ow_len σ n r dn w
  have hfk : ∀ u ∈ bls σ r dn, fN (σ 241 u) < 6 := fun u hu => by
    obtain ⟨-, ⟨k, k1, k2⟩, -⟩ := b3 u hu
    rw [k2, fN_nI (by omega)]
    exact k1
  refine ⟨fun p hp => ?_, fun u k hk hne => ?_⟩
  · have hin := wyT_in hw (j := p) (by omega) (by omega)
    have e1 : (owO σ n r dn)[p]'(by omega) = opL σ (fN (σ 240 ((bls σ r dn)[p]'hp))) n := by
      simp only [owO, List.getElem_map]
    rw [e1, opL_mem] at hin
    have e2 := wyT_G (os := owO σ n r dn) (w := w) (p := p) (by omega)
    rw [List.getD_eq_getElem?_getD, List.getElem?_eq_getElem (show p < (wyT (owO σ n r dn) w).length by omega)] at e2
    have e2 : (wyT (owO σ n r dn) w)[p]'(by omega) = oG (owO σ n r dn) p (dG (owO σ n r dn) w p) := e2
    have := hin.1
    rw [aV_at _ (hfk _ (List.getElem_mem hp)), aWy_at (ow_pw h hR r1 hdn het ht) hp (by omega), nnI_nI (by omega), e2]
  · rw [aV_at _ hk, aWy_ne (fun v hv => ?_), ← aV_at _ hk, aUp_V a s hk]
    obtain ⟨p, hp', rfl⟩ := List.getElem_of_mem hv
    have := hne p hp'
    have := hfk _ hv
    omega
section TK
variable {σ ρ : kS} {n b R S C i : Nat} {kl : List Nat} {x : sX} {a D V : Nat → Int32}
theorem tk_st (hT : mTb σ n b) (hB : mBs σ n R S C kl) (hY : mY σ ρ n R S x) (hi : i < x.1.length) (hai : (xq x.1 i).1 = a) (hD : ∀ u, u < S → D u = ρ 284 (4 * i + u)) (hV : ∀ u k, u < S → k < 6 → V (6 * u + k) = ρ 285 (24 * i + 6 * u + k)) : mY σ (va_up (va_up ρ 264 D) 265 V) n R S x ∧ aSt (va_up (va_up ρ 264 D) 265 V) S a := by
  refine ⟨mY_up hT hB (mY_up hT hB hY (Or.inl rfl)) (Or.inr (Or.inl rfl)), fun s hs => ?_, fun s k hs hk => ?_⟩
  · show D s = _
    rw [hD s hs, ← hai]
    exact (hY.2.2.2.1 i hi).1 s hs
  · show V (6 * s + k) = _
    rw [hV s k hs hk, ← hai, ← (hY.2.2.2.1 i hi).2.1 s k hs hk]
    unfold stV
    rw [show 24 * i + (6 * s + k) = 24 * i + 6 * s + k by omega]
/-- .. and its row -/
theorem tk_row {υ ω : kS} {b' : Nat} {l : rwT} (hT : mTb σ n b) (hB : mBs σ n R S C kl) (hY : mY σ υ n R S x) (ha : aOk σ n R S a) (hs : aSt υ S a) (hb : b' ≤ 776) (hm : mBd υ ω n b' l (trSt υ kl S)) : mY σ ω n R S x ∧ aSt ω S a ∧ rwY ω n (trSt (stI σ a) kl S) ∧ ω 292 = υ 292 ∧ ω 293 = υ 293 := by
  obtain ⟨f1, f2, f3, f4, f5⟩ := hm
  refine ⟨mY_fr hT hB hY f1 ⟨b', f2⟩, ⟨fun s h => ?_, fun s k h hk => ?_⟩, ⟨b', l, hb, f2, f3, f4, ?_⟩, f1.1 _ (by decide), f1.1 _ (by decide)⟩
  · rw [f1.1 264 (by decide)]
    exact hs.1 s h
  · rw [f1.1 265 (by decide)]
    exact hs.2 s k h hk
  · rw [f5]
    exact tr_st hT hB hY.1 ha hs
end TK
theorem rY_ne {C : Nat} {x : sX} {r : Option Value} (hC : C ≤ 6) (h : rY C x r) : (x.2.2.2 = 0 ↔ r = some (.int (-6))) := by
  rcases h with ⟨q1, q2⟩ | ⟨q1, q2⟩ | ⟨c, c1, c2, c3, -⟩
  · exact ⟨fun _ => q2, fun _ => q1⟩
  · refine ⟨fun z => ?_, fun z => ?_⟩
    · rw [q1] at z
      exact absurd z (by decide)
    · rw [q2] at z
      exact absurd (Value.int.inj (Option.some.inj z)) (by decide)
  · refine ⟨fun z => ?_, fun z => ?_⟩
    · rw [c2] at z
      exact absurd z (nI_ne0 (by omega) (by omega))
    · rw [c3] at z
      have z := Value.int.inj (Option.some.inj z)
      exact absurd (show nI c < 0 by rw [z]; decide) (nI_pos (by omega))
/-- how the loop over the ways stands -/
def ryI (σ τ : kS) (n R S s : Nat) (x : sX) (a : Nat → Int32) (op : List Nat) (os : List (List Nat)) (tr : trT) (w : Nat) : Prop := mY σ τ n R S x ∧ lst (τ 292) op ∧ rwY τ n tr ∧ (∀ u, u < S → τ 264 u = aD a u) ∧ (∀ u k, u < S → k < 6 → (∀ p (h : p < op.length), 6 * u + k ≠ 6 * s + fN (σ 241 (op[p]'h))) → τ 265 (6 * u + k) = aV a (6 * u + k)) ∧ ∀ p, p < op.length → τ 293 p = nI (oG os p (dG os w p))
/-- what receives leaves -/
def rcY (σ ω : kS) (n R S C : Nat) (kl : List Nat) (a : Nat → Int32) (X : sX) (r : Option Value) : Prop := mY σ ω n R S X ∧ rY C X r ∧ (X.2.2.2 = 0 → aSt ω S a ∧ rwY ω n (trSt (stI σ a) kl S))
set_option maxRecDepth 100000 in
set_option maxHeartbeats 4000000 in
theorem mY_rc_main (L : Nat) (xs : Nat → Int32) (d : Nat) (σ : kS) (n b R S C i s r dn t W : Nat) (kl : List Nat) (a : Nat → Int32) (X : sX) (hT : mTb σ n b) (hB : mBs σ n R S C kl) (ha : aOk σ n R S a) (hs : s < S) (r1 : r < R) (r2 : σ 255 s = nI r) (r3 : a (7 * s) = nI dn) (hdn : dn < fN (σ 247 r)) (hse : σ 249 (6 * r + dn) = 0) (ht : t < n) (het : σ 248 (6 * r + dn) = nI t) (hW : wyN ((owO σ n r dn).map List.length) = W) (hi6 : i < 600) (my : Int64) :
    ∀ q : Nat × kS × sX, (q.1 < W ∧ q.2.2.2.2.2 = 0 ∧ (i < q.2.2.1.length ∧ (xq q.2.2.1 i).1 = a) ∧ sWy σ kl S C i s a t (owP σ r dn) (owO σ n r dn) (W - q.1) q.1 q.2.2 = X ∧ ryI σ q.2.1 n R S s q.2.2 a (bls σ r dn) (owO σ n r dn) (trSt (stI σ a) kl S) q.1) → kX kT L xs (d + 9) 217 192 [(7, .int 1), (0, .ref 232), (1, .int (nI i)), (2, .int (nI s)), (3, .int (nI t)), (4, .int (nI (bls σ r dn).length)), (5, .long my)] [] q.2.1 (fun r σ' => rcY σ σ' n R S C kl a X r) := by
  have hn := hT.1
  have hR := hB.1
  have hS4 := hB.2.1.1
  have hR4 := hR.1
  have hC6 : C ≤ 6 := hB.2.2.2.1
  have he6 : fN (σ 247 r) ≤ 6 := by
    obtain ⟨-, e, e1, e2⟩ := hR.2.2.1 r r1
    rw [e2, fN_nI (by omega)]
    exact e1
  obtain ⟨bo1, bo2, bo3, bo4, bo5⟩ := bls_ok hT hR r1 hdn het ht
  have lO : (owO σ n r dn).length = (bls σ r dn).length := (ow_len σ n r dn 0).2.1
  have hO : opW σ n (bls σ r dn) (owO σ n r dn) := ⟨lO, bo5, fun p hp hp' => by
    obtain ⟨u1, -, so, s1, s2⟩ := bo3 _ (List.getElem_mem hp)
    refine ⟨by omega, so, s1, s2, ?_⟩
    simp only [owO, List.getElem_map]
    rw [s2, fN_nI (by omega)]⟩
  have hN : opN σ (bls σ r dn) := ⟨fun p hp => by
    obtain ⟨u1, u2, -⟩ := bo3 _ (List.getElem_mem hp)
    exact ⟨by omega, u2⟩, fun p q hp hq hpq => bo4 _ (List.getElem_mem hp) _ (List.getElem_mem hq) (fun e => by
      rcases Nat.lt_or_gt_of_ne hpq with hh | hh
      · exact List.pairwise_iff_getElem.mp bo2 p q hp hq hh e
      · exact List.pairwise_iff_getElem.mp bo2 q p hq hp hh e.symm)⟩
  refine kX_while (fun q : Nat × kS × sX => [(7, .int 1), (0, .ref 232), (1, .int (nI i)), (2, .int (nI s)), (3, .int (nI t)), (4, .int (nI (bls σ r dn).length)), (5, .long my)]) (fun q => q.2.1) _ (fun q => W - q.1) ?_
  rintro ⟨w, τ, x⟩ ⟨i1, i2, ⟨i3, i3'⟩, i4, i5⟩ ih
  dsimp only at i1 i2 i3 i3' i4 i5 ih ⊢
  obtain ⟨j1, j2, ⟨bt, l, c1, c2, c3, c4, c5⟩, j4, j5, j6⟩ := i5
  have hF := j1.1
  have hwW : w < wyN ((owO σ n r dn).map List.length) := by rw [hW]; exact i1
  obtain ⟨ok1, ok2, ok3⟩ := aOk_way hT hR ha hs r1 r2 r3 hdn hse ht het hwW
  obtain ⟨va1, va2⟩ := wy_aV (s := s) (a := a) hT hR r1 hdn ht het hwW
  obtain ⟨m', hm'⟩ : ∃ m', W - w = m' + 1 := ⟨W - w - 1, by omega⟩
  rw [hm', sWy_s i2] at i4
  have hofn : τ 241 = σ 241 := hF.1 _ (by decide) (by decide)
  /- the turn, with what came to be -/
  have k308 : ∀ ρ x2, x2 = sW1 σ kl n S C i s a r dn t w x → x2.2.2.2 = 0 → mY σ ρ n R S x2 → lst (ρ 292) (bls σ r dn) → rwY ρ n (trSt (stI σ a) kl S) → (∀ u, u < S → ρ 264 u = aD a u) → (∀ u k, u < S → k < 6 → (∀ p (h : p < (bls σ r dn).length), 6 * u + k ≠ 6 * s + fN (σ 241 ((bls σ r dn)[p]'h))) → ρ 265 (6 * u + k) = aV a (6 * u + k)) → ρ 293 = τ 293 → kX kT L xs (d + 9) 217 308 [(0, .ref 232), (1, .int (nI i)), (2, .int (nI s)), (3, .int (nI t)), (4, .int (nI (bls σ r dn).length)), (5, .long my)] [] ρ (fun r σ' => rcY σ σ' n R S C kl a X r) := by
    intro ρ x2 e0 ez e1 e2 ⟨b2, l2, g1, g2, g3, g4, g5⟩ e4 e5 e6
    have hpre := sW1_pre (σ := σ) (kl := kl) (n := n) (S := S) (C := C) (i := i) (s := s) (r := r) (dn := dn) (t := t) (w := w) (a := a) i3
    rw [← e0] at hpre i4
    have hai2 : (xq x2.1 i).1 = a := by rw [hpre.2]; exact i3'
    refine mf_rc_turn L xs (d + 6) σ ρ n b b2 w (bls σ r dn) (owO σ n r dn) hT e1.1 g2 hO e2 hwW (by rw [e6]; exact j6) (nI i) (nI s) (nI t) my _ (fun hlast CH => ?_) (fun hgo CH hCH => ?_)
    · have hx2 : x2 = X := by
        rw [show m' = 0 by omega] at i4
        exact i4
      have hse2 : (va_up ρ 293 CH) 232 27 = nI S := (e1.1.2.1 _ (by decide) (by decide)).trans hB.2.1.2.1
      iterate 2 (refine kX_one rfl ?_)
      refine kX_cal (mr_takeState L xs (d + 7) (va_up ρ 293 CH) S i hse2 hS4 hi6) rfl (Or.inr rfl) rfl rfl rfl (fun r1 σ3 q1 => ?_)
      obtain ⟨rfl, D, V, rfl, hD, hV⟩ := q1
      obtain ⟨y1, y2⟩ := tk_st hT hB (mY_up (f := CH) hT hB e1 (Or.inr (Or.inr (Or.inr rfl)))) hpre.1 hai2 hD hV
      subst hx2
      repeat refine kX_one rfl ?_
      refine kX_ret (i := .ireturn) (len := 1) rfl (Or.inr rfl) rfl ⟨y1, Or.inl ⟨ez, rfl⟩, fun _ => ⟨y2, b2, l2, g1, g2, g3, g4, g5⟩⟩
    · exact ih (w + 1, va_up ρ 293 CH, x2) ⟨by simp only; omega, ez, ⟨hpre.1, hai2⟩, by simp only; rw [show W - (w + 1) = m' by omega]; exact i4, mY_up hT hB e1 (Or.inr (Or.inr (Or.inr rfl))), e2, ⟨b2, l2, g1, g2, g3, g4, g5⟩, e4, e5, hCH⟩ (by simp only; omega)
  iterate 4 (refine kX_one rfl ?_)
  have hset := mr_rc_set L xs (d + 8) τ s (bls σ r dn) (fun p => oG (owO σ n r dn) p (dG (owO σ n r dn) w p)) (by omega) bo5 (by unfold opN; rw [hofn]; exact hN) j2 (fun p hp => j6 p hp) (nI i) (nI t) 1 my (fun r σ' => rcY σ σ' n R S C kl a X r) (fun V hV => ?_) (0, τ 265) ⟨Nat.zero_le _, fun p hp h0 => absurd h0 (Nat.not_lt_zero p), fun j _ => rfl⟩
  · refine kX_to _ _ rfl rfl rfl ?_ hset
    funext c; first
      | ((repeat (refine va_case ?_ ?_; (· (intro h; first | (subst h; rfl) | (unfold va_up; repeat' split; (all_goals first | rfl | omega | (subst_vars; rfl) | (funext j; unfold upd; repeat' split; all_goals first | rfl | omega | (subst_vars; rfl)))))); intro h)); (repeat (refine va_case2 ?_ ?_; (· (intro h; first | exact absurd h (by assumption) | (subst h; rfl) | (subst h; funext j; unfold upd; repeat' split; (all_goals first | rfl | omega | (subst_vars; rfl))))); intro h)); rfl)
      | (unfold va_up; repeat' split
         all_goals first | rfl | omega | (subst_vars; rfl) | (funext j; unfold upd; repeat' split; all_goals first | rfl | omega | (subst_vars; rfl)))
  · unfold opV at hV
    rw [hofn] at hV
    have hval : ∀ u k, u < S → k < 6 → V (6 * u + k) = aV (aWy σ n r dn s a w) (6 * u + k) := fun u k hu hk => by
      by_cases q : ∀ p (h : p < (bls σ r dn).length), 6 * u + k ≠ 6 * s + fN (σ 241 ((bls σ r dn)[p]'h))
      · rw [va2 u k hk q, hV.2 _ q]
        exact j5 u k hu hk q
      · obtain ⟨p, hp, e⟩ : ∃ p, ∃ (h : p < (bls σ r dn).length), 6 * u + k = 6 * s + fN (σ 241 ((bls σ r dn)[p]'h)) := Classical.byContradiction (fun z => q (fun p hp e => z ⟨p, hp, e⟩))
        rw [e, va1 p hp, hV.1 p hp hp]
    have etv : tvs (τ 233) (τ 234) (τ 235) t = tvs (σ 233) (σ 234) (σ 235) t := (mFr_all hT (pat_fr hF) ht).2.2
    have hvz : ∀ u ∈ tvs (σ 233) (σ 234) (σ 235) t, ∃ p z, p < 6 ∧ z < n ∧ σ 241 u = nI p ∧ aV (aWy σ n r dn s a w) (6 * s + p) = nI z ∧ V (6 * s + p) = nI z ∧ tgd (σ 233) (σ 234) (σ 235) z = true ∧ (σ 240 u = nI 0 → σ 233 z = nI 0) := fun u hu => by
      obtain ⟨p, z, p1, p2, p3, p4, p5, p6⟩ := ok3 u hu
      exact ⟨p, z, p1, p2, p3, p4, by rw [hval s p hs p1]; exact p4, p5, p6⟩
    have hst : mSt (va_up τ 265 V) n s t := by
      intro u hu
      have hu : u ∈ tvs (τ 233) (τ 234) (τ 235) t := hu
      rw [etv] at hu
      obtain ⟨p, z, p1, p2, p3, -, p4, p5, p6⟩ := hvz u hu
      have etg : tgd (τ 233) (τ 234) (τ 235) z = tgd (σ 233) (σ 234) (σ 235) z := (mFr_all hT (pat_fr hF) p2).2.1
      refine ⟨p, z, p1, p2, ?_, p4, etg.trans p5, ?_⟩
      · show τ 241 u = _
        rw [hofn]
        exact p3
      · show τ 240 u = _ → τ 233 z = _
        rw [hF.1 240 (by decide) (by decide), (hF.2.2 z (by omega)).1]
        exact p6
    have htin : tin (va_up τ 265 V) s t = tin (stI σ (aWy σ n r dn s a w)) s t := tin_cg (σ := stI σ (aWy σ n r dn s a w)) (τ := va_up τ 265 V) (b := b) hT (fun u hu => hF.2.2 u (by omega)) hofn t ht (fun u hu => by
      obtain ⟨p, z, p1, p2, p3, p4, p5, -⟩ := hvz u hu
      exact ⟨p, z, p1, p2, p3, p4, p5⟩)
    have htrM : trM (va_up τ 265 V) (rwM (va_up τ 265 V) l) (tin (va_up τ 265 V) s t) = trM σ (trSt (stI σ a) kl S) (tin (stI σ (aWy σ n r dn s a w)) s t) := by
      have e1 : rwM (va_up τ 265 V) l = trSt (stI σ a) kl S := c5
      have e2 : mA (va_up τ 265 V) = mA σ := mA_cg (σ := σ) (τ := va_up τ 265 V) hF.2.2
      have e3 : (va_up τ 265 V) 238 = σ 238 := hF.1 _ (by decide) (by decide)
      unfold trM
      rw [e1, htin, e2, e3]
    refine mf_rc_try L xs (d + 3) (va_up τ 265 V) n bt s t l c2 c1 c3 c4 (by omega) ht hst (nI i) (nI (bls σ r dn).length) 1 my (fun r σ' => rcY σ σ' n R S C kl a X r) (fun ρ hFr hTr hqr hjr hrw => ?_)
    rw [htrM]
    have hYr : mY σ ρ n R S x := mY_fr hT hB (mY_up (f := V) hT hB j1 (Or.inr (Or.inl rfl))) hFr ⟨bt, hTr⟩
    have hrwr : rwY ρ n (trSt (stI σ a) kl S) := ⟨bt, l, c1, hTr, hqr, hjr, hrw.trans c5⟩
    have edo : ρ 264 = τ 264 := hFr.1 _ (by decide)
    have eva : ρ 265 = V := hFr.1 _ (by decide)
    have eop : ρ 292 = τ 292 := hFr.1 _ (by decide)
    have ech : ρ 293 = τ 293 := hFr.1 _ (by decide)
    by_cases hcan : trM σ (trSt (stI σ a) kl S) (tin (stI σ (aWy σ n r dn s a w)) s t)
    · rw [isB_T hcan]
      have hw1 : sW1 σ kl n S C i s a r dn t w x = sRe σ kl S C x (aWy σ n r dn s a w) (nI i) (nI s) := by
        unfold sW1
        rw [cit_T hcan]
      have hds : ρ 264 s = nI dn := by
        rw [edo, j4 s hs]
        exact r3
      have hst2 : aSt (va_up ρ 264 (upd (ρ 264) s (nI (dn + 1)))) S (aWy σ n r dn s a w) := by
        refine ⟨fun u hu => ?_, fun u k hu hk => ?_⟩
        · show upd (ρ 264) s (nI (dn + 1)) u = _
          have := ok2.2 u hu
          by_cases e : u = s
          · subst e
            rw [pk_us, (this.2 rfl).1]
            show _ = a (7 * u) + 1
            rw [r3, nI_1]
          · rw [pk_un e, (this.1 e).1, edo]
            exact j4 u hu
        · show ρ 265 (6 * u + k) = _
          rw [eva]
          exact hval u k hu hk
      iterate 6 (refine kX_one rfl ?_)
      refine kX_ialdV rfl rfl (by decide) (s) (by first | rfl | decide) (by omega) (hds) ?_
      iterate 2 (refine kX_one rfl ?_)
      refine kX_top (nI_1 dn) ?_
      refine kX_iastN rfl rfl (by decide) (s) (by first | rfl | decide) (by omega) ?_
      have hcom := mY_comes L xs d σ (va_up ρ 264 (upd (ρ 264) s (nI (dn + 1)))) n b R S C kl x (aWy σ n r dn s a w) (nI i) (nI s) hT hB (mY_up hT hB hYr (Or.inl rfl)) ok1 hst2 i2 (Or.inr ⟨i, s, i3, rfl, rfl, by rw [i3']; exact ok2⟩)
      have eop1 : (va_up ρ 264 (upd (ρ 264) s (nI (dn + 1)))) 292 = τ 292 := eop
      have ech1 : (va_up ρ 264 (upd (ρ 264) s (nI (dn + 1)))) 293 = τ 293 := ech
      rw [← hw1] at hcom
      generalize va_up ρ 264 (upd (ρ 264) s (nI (dn + 1))) = ρ1 at *
      iterate 3 (refine kX_one rfl ?_)
      refine kX_cal hcom rfl (Or.inr rfl) rfl rfl rfl (fun r1 ω q1 => ?_)
      obtain ⟨z1, z2, -, -, z5, z6⟩ := q1
      have hne := rY_ne hC6 z2
      have hpre := sW1_pre (σ := σ) (kl := kl) (n := n) (S := S) (C := C) (i := i) (s := s) (r := r) (dn := dn) (t := t) (w := w) (a := a) i3
      have hret : ∀ v : Int32, r1 = some (.int v) → v ≠ -6 → rcY σ ω n R S C kl a X (some (.int v)) := fun v hv hv6 => by
        have hnz : (sW1 σ kl n S C i s a r dn t w x).2.2.2 ≠ 0 := fun z => by
          have := hne.mp z
          rw [hv] at this
          exact hv6 (Value.int.inj (Option.some.inj this))
        rw [sWy_n hnz] at i4
        rw [← i4, ← hv]
        exact ⟨z1, z2, fun z => absurd z hnz⟩
      have k299 : (sW1 σ kl n S C i s a r dn t w x).2.2.2 = 0 → ∀ lv, nk lv = true → ([(0, .ref 232), (1, .int (nI i)), (2, .int (nI s)), (3, .int (nI t)), (4, .int (nI (bls σ r dn).length)), (5, .long my)] : jL).map (fun q => jl lv q.1) = ([(0, Value.ref 232), (1, .int (nI i)), (2, .int (nI s)), (3, .int (nI t)), (4, .int (nI (bls σ r dn).length)), (5, .long my)] : jL).map (fun q => some q.2) → kX kT L xs (d + 9) 217 299 lv [] ω (fun r σ' => rcY σ σ' n R S C kl a X r) := by
        intro hz lv hk hlv
        refine kX_lv _ hk rfl hlv ?_
        have hse2 : ω 232 27 = nI S := (z1.1.2.1 _ (by decide) (by decide)).trans hB.2.1.2.1
        iterate 2 (refine kX_one rfl ?_)
        refine kX_cal (mr_takeState L xs (d + 7) ω S i hse2 hS4 hi6) rfl (Or.inr rfl) rfl rfl rfl (fun r1 σ3 q1 => ?_)
        obtain ⟨rfl, D, V2, rfl, hD, hV2⟩ := q1
        obtain ⟨y1, y2⟩ := tk_st (a := a) hT hB z1 hpre.1 (by rw [hpre.2]; exact i3') hD hV2
        have yop : (va_up (va_up ω 264 D) 265 V2) 292 = ω 292 := rfl
        have ych : (va_up (va_up ω 264 D) 265 V2) 293 = ω 293 := rfl
        generalize va_up (va_up ω 264 D) 265 V2 = υ at *
        obtain ⟨bu, hTu⟩ := y1.2.1
        have hBu := mBs_sf hT y1.1 hB
        iterate 1 (refine kX_one rfl ?_)
        refine kX_cal (mr_stateRow L xs (d + 1) υ n bu R S kl hTu hBu.2.2.1 hBu.1 hS4 (cfg_Sv hTu hBu.1 hBu.2.1 (cfg_st hT hR y1.1 ha y2))) rfl (Or.inr rfl) rfl rfl rfl (fun r1 κ q1 => ?_)
        obtain ⟨rfl, -, b', l', hb', hbd⟩ := q1
        obtain ⟨t1, t2, t3, t4, t5⟩ := tk_row hT hB y1 ha y2 hb' hbd
        refine kX_lv _ rfl rfl rfl (k308 κ _ rfl hz t1 (by rw [t4, yop, z5, eop1]; exact j2) t3 t2.1 (fun u k hu hk _ => t2.2 u k hu hk) (by rw [t5, ych, z6, ech1]))
      rcases z2 with ⟨q1, rfl⟩ | ⟨q1, rfl⟩ | ⟨c, hc1, hc2, rfl, -⟩
      · iterate 4 (refine kX_one rfl ?_)
        exact k299 q1 _ rfl rfl
      · repeat refine kX_one rfl ?_
        refine kX_ret (i := .ireturn) (len := 1) rfl (Or.inr rfl) rfl (hret _ rfl (by decide))
      · have h0 : ¬ nI c < 0 := nI_pos (by omega)
        have h6 : nI c ≠ -6 := fun e => h0 (by rw [e]; decide)
        repeat refine kX_one rfl ?_
        refine kX_if (fun q => ?_) (fun q => ?_)
        · exact absurd (qeq q) h6
        · repeat refine kX_one rfl ?_
          refine kX_ret (i := .ireturn) (len := 1) rfl (Or.inr rfl) rfl (hret _ rfl h6)
    · rw [isB_F hcan]
      have hw1 : x = sW1 σ kl n S C i s a r dn t w x := by
        unfold sW1
        rw [cit_F hcan]
      iterate 2 (refine kX_one rfl ?_)
      refine kX_lv _ rfl rfl rfl (k308 ρ x hw1 i2 hYr (by rw [eop]; exact j2) hrwr (fun u hu => by rw [edo]; exact j4 u hu) (fun u k hu hk hne => ?_) ech)
      rw [eva, hV.2 _ hne]
      exact j5 u k hu hk hne
end
section
/-! alike: receives, goesOn -/
theorem mY_ways {σ τ : kS} {n b R S C k : Nat} {kl : List Nat} {x : sX} {an : Int32} (hT : mTb σ n b) (hB : mBs σ n R S C kl) (hY : mY σ τ n R S x) (hk : k ≤ 20001) : mY σ (va_up τ 232 (upd (τ 232) 70 (nI k))) n R S (x.1, k, x.2.2.1, an) := by
  obtain ⟨h1, ⟨b1, h2⟩, h3, h4, ⟨w1, w2, w3⟩, h5⟩ := hY
  have hF : mSf τ (va_up τ 232 (upd (τ 232) 70 (nI k))) n := mSf_o (by decide)
  exact ⟨mSf_trans h1 hF, ⟨b1, h2⟩, mSs_sf h2 (mSf_Ro hT h1 hB.1) hF rfl rfl rfl rfl rfl h3, h4, ⟨rfl, hk, w3⟩, h5⟩
set_option maxRecDepth 100000 in
set_option maxHeartbeats 4000000 in
theorem mY_rc_go (L : Nat) (xs : Nat → Int32) (d : Nat) (σ τ : kS) (n b R S C i s r dn t W : Nat) (kl : List Nat) (x : sX) (a : Nat → Int32) (X : sX) (hT : mTb σ n b) (hB : mBs σ n R S C kl) (ha : aOk σ n R S a) (hs : s < S) (r1 : r < R) (r2 : σ 255 s = nI r) (r3 : a (7 * s) = nI dn) (hdn : dn < fN (σ 247 r)) (hse : σ 249 (6 * r + dn) = 0) (ht : t < n) (het : σ 248 (6 * r + dn) = nI t) (hW : wyN ((owO σ n r dn).map List.length) = W) (hi6 : i < 600) (hi : i < x.1.length) (hai : (xq x.1 i).1 = a) (han : x.2.2.2 = 0) (hY : mY σ τ n R S x) (hst : aSt τ S a) (hrw : rwY τ n (trSt (stI σ a) kl S)) (ho : lst (τ 292) (bls σ r dn)) (hXe : X = cit (20000 < x.2.1 + W) (x.1, 20001, x.2.2.1, -7) (sWy σ kl S C i s a t (owP σ r dn) (owO σ n r dn) W 0 (x.1, x.2.1 + W, x.2.2.1, x.2.2.2))) :
    kX kT L xs (d + 9) 217 107 [(0, .ref 232), (1, .int (nI i)), (2, .int (nI s)), (3, .int (nI t)), (4, .int (nI (bls σ r dn).length)), (5, .long (lI (min W 20001)))] [] τ (fun r σ' => rcY σ σ' n R S C kl a X r) := by
  obtain ⟨w1, w2, w3⟩ := hY.2.2.2.2.1
  obtain ⟨bo1, bo2, bo3, bo4, bo5⟩ := bls_ok hT hB.1 r1 hdn het ht
  have lO : (owO σ n r dn).length = (bls σ r dn).length := (ow_len σ n r dn 0).2.1
  have hn := hT.1
  have hO : opW σ n (bls σ r dn) (owO σ n r dn) := ⟨lO, bo5, fun p hp hp' => by
    obtain ⟨u1, -, so, s1, s2⟩ := bo3 _ (List.getElem_mem hp)
    refine ⟨by omega, so, s1, s2, ?_⟩
    simp only [owO, List.getElem_map]
    rw [s2, fN_nI (by omega)]⟩
  have hMle : min W 20001 ≤ 20001 := Nat.min_le_right _ _
  have hsum : (nI x.2.1).toInt64 + lI (min W 20001) = lI (x.2.1 + min W 20001) := by
    rw [nI_lI (by omega), lI_add]
  iterate 2 (refine kX_one rfl ?_)
  refine kX_top (w1) ?_
  iterate 5 (refine kX_one rfl ?_)
  repeat refine kX_one rfl ?_
  refine kX_if (fun q => ?_) (fun q => ?_)
  · have q : lg_cmp ((nI x.2.1).toInt64 + lI (min W 20001)) 20000 ≤ 0 := of_decide_eq_true q
    rw [hsum, lc_le (by omega)] at q
    have hWl : W ≤ 20000 := by omega
    rw [Nat.min_eq_left (show W ≤ 20001 by omega)] at q ⊢
    rw [cit_F (by omega)] at hXe
    have hY2 : mY σ (va_up τ 232 (upd (τ 232) 70 (nI (x.2.1 + W)))) n R S (x.1, x.2.1 + W, x.2.2.1, x.2.2.2) := mY_ways hT hB hY (by omega)
    have hst2 : aSt (va_up τ 232 (upd (τ 232) 70 (nI (x.2.1 + W)))) S a := hst
    have hrw2 : rwY (va_up τ 232 (upd (τ 232) 70 (nI (x.2.1 + W)))) n (trSt (stI σ a) kl S) := hrw
    have ho2 : lst ((va_up τ 232 (upd (τ 232) 70 (nI (x.2.1 + W)))) 292) (bls σ r dn) := ho
    iterate 3 (refine kX_one rfl ?_)
    refine kX_top (w1) ?_
    iterate 3 (refine kX_one rfl ?_)
    refine kX_top (y := nI (x.2.1 + W)) (by rw [lI_32 (by omega)]; exact nI_add x.2.1 W) ?_
    iterate 1 (refine kX_one rfl ?_)
    generalize va_up τ 232 (upd (τ 232) 70 (nI (x.2.1 + W))) = ρ at *
    have hl0 : lg_cmp (lI W) 0 ≠ 0 ↔ W ≠ 0 := by
      have e : (0 : Int64) = lI 0 := by decide
      rw [e]
      refine ⟨fun z e2 => z (by rw [e2]; decide), fun z e2 => ?_⟩
      unfold lg_cmp at e2
      rw [if_pos (show lI W > lI 0 by show lI 0 < lI W; rw [Int64.lt_iff_toInt_lt, lI_toInt (by omega), lI_toInt (by omega)]; omega)] at e2
      exact absurd e2 (by decide)
    iterate 3 (refine kX_one rfl ?_)
    repeat refine kX_one rfl ?_
    refine kX_if (fun q2 => ?_) (fun q2 => ?_)
    · have q2 : W ≠ 0 := hl0.mp (qne q2)
      obtain ⟨bt, hTt⟩ := hY2.2.1
      iterate 2 (refine kX_one rfl ?_)
      have := mf_rc_first L xs (d + 6) σ ρ n b bt (bls σ r dn) (owO σ n r dn) hT hY2.1 hTt hO ho2 (wyN_0 (by omega)) (nI i) (nI s) (nI t) (lI W) (fun r σ' => rcY σ σ' n R S C kl a X r) (fun CH hC => ?_) (0, ρ 293) ⟨Nat.zero_le _, fun p _ _ _ hp => absurd hp (Nat.not_lt_zero p)⟩
      · refine kX_to _ _ rfl rfl rfl ?_ this
        funext c; first
          | ((repeat (refine va_case ?_ ?_; (· (intro h; first | (subst h; rfl) | (unfold va_up; repeat' split; (all_goals first | rfl | omega | (subst_vars; rfl) | (funext j; unfold upd; repeat' split; all_goals first | rfl | omega | (subst_vars; rfl)))))); intro h)); (repeat (refine va_case2 ?_ ?_; (· (intro h; first | exact absurd h (by assumption) | (subst h; rfl) | (subst h; funext j; unfold upd; repeat' split; (all_goals first | rfl | omega | (subst_vars; rfl))))); intro h)); rfl)
          | (unfold va_up; repeat' split
             all_goals first | rfl | omega | (subst_vars; rfl) | (funext j; unfold upd; repeat' split; all_goals first | rfl | omega | (subst_vars; rfl)))
      · iterate 2 (refine kX_one rfl ?_)
        have := mY_rc_main L xs d σ n b R S C i s r dn t W kl a X hT hB ha hs r1 r2 r3 hdn hse ht het hW hi6 (lI W) (0, va_up ρ 293 CH, (x.1, x.2.1 + W, x.2.2.1, x.2.2.2)) ⟨by simp only; omega, han, ⟨hi, hai⟩, hXe.symm, mY_up hT hB hY2 (Or.inr (Or.inr (Or.inr rfl))), ho2, hrw2, hst2.1, fun u k hu hk _ => hst2.2 u k hu hk, chW_G hC (by omega)⟩
        exact kX_lv _ rfl rfl rfl this
    · have q2 : W = 0 := Classical.byContradiction (fun z => hl0.mpr z (qneF q2))
      rw [q2] at hXe hY2
      have hXe : X = (x.1, x.2.1 + 0, x.2.2.1, x.2.2.2) := hXe
      rw [← hXe] at hY2
      have hXa : X.2.2.2 = 0 := by rw [hXe]; exact han
      repeat refine kX_one rfl ?_
      refine kX_ret (i := .ireturn) (len := 1) rfl (Or.inr rfl) rfl ⟨hY2, Or.inl ⟨hXa, rfl⟩, fun _ => ⟨hst2, hrw2⟩⟩
  · have q : ¬ lg_cmp ((nI x.2.1).toInt64 + lI (min W 20001)) 20000 ≤ 0 := of_decide_eq_false q
    rw [hsum, lc_le (by omega)] at q
    have hWg : 20000 < x.2.1 + W := by
      have := Nat.min_le_left W 20001
      omega
    rw [cit_T hWg] at hXe
    have hY2 : mY σ (va_up τ 232 (upd (τ 232) 70 (nI 20001))) n R S (x.1, 20001, x.2.2.1, -7) := mY_ways hT hB hY (by omega)
    rw [← hXe] at hY2
    repeat refine kX_one rfl ?_
    refine kX_ret (i := .ireturn) (len := 1) rfl (Or.inr rfl) rfl ⟨hY2, Or.inr (Or.inl ⟨by rw [hXe], rfl⟩), fun z => ?_⟩
    rw [hXe] at z
    have z : (-7 : Int32) = 0 := z
    exact absurd z (by decide)
set_option maxRecDepth 100000 in
set_option maxHeartbeats 4000000 in
theorem mY_receives (L : Nat) (xs : Nat → Int32) (d : Nat) (σ τ : kS) (n b R S C i s r dn t : Nat) (kl : List Nat) (x : sX) (a : Nat → Int32) (X : sX) (hT : mTb σ n b) (hB : mBs σ n R S C kl) (ha : aOk σ n R S a) (hs : s < S) (r1 : r < R) (r2 : σ 255 s = nI r) (r3 : a (7 * s) = nI dn) (hdn : dn < fN (σ 247 r)) (hse : σ 249 (6 * r + dn) = 0) (ht : t < n) (het : σ 248 (6 * r + dn) = nI t) (hi6 : i < 600) (hi : i < x.1.length) (hai : (xq x.1 i).1 = a) (han : x.2.2.2 = 0) (hY : mY σ τ n R S x) (hst : aSt τ S a) (hrw : rwY τ n (trSt (stI σ a) kl S)) (hXe : X = cit (20000 < x.2.1 + wyN ((owO σ n r dn).map List.length)) (x.1, 20001, x.2.2.1, -7) (sWy σ kl S C i s a t (owP σ r dn) (owO σ n r dn) (wyN ((owO σ n r dn).map List.length)) 0 (x.1, x.2.1 + wyN ((owO σ n r dn).map List.length), x.2.2.1, x.2.2.2))) :
    kXM kT L xs (d + 9) 217 [.ref 232, .int (nI i), .int (nI s), .int (nI t)] τ (fun r σ' => rcY σ σ' n R S C kl a X r) := by
  have hR := hB.1
  have hn := hT.1
  have hS4 := hB.2.1.1
  have hR4 := hR.1
  have hF := hY.1
  obtain ⟨bt, l, c1, c2, c3, c4, c5⟩ := id hrw
  obtain ⟨t', t1, t2, t3, -⟩ := hR.2.2.2.2.2 r dn r1 hdn
  obtain rfl : t = t' := nI_inj (het.symm.trans t2)
  have hft : fN (σ 248 (6 * r + dn)) = t := by rw [het]; exact fN_nI (by omega)
  have hvar := fun u hu => mRo_var (u := u) hT hR r1 ht t3 hu
  have etv : tvs (τ 233) (τ 234) (τ 235) t = tvs (σ 233) (σ 234) (σ 235) t := (mFr_all hT (pat_fr hF) ht).2.2
  have hofn : τ 241 = σ 241 := hF.1 _ (by decide) (by decide)
  unfold kXM
  iterate 2 (refine kX_one rfl ?_)
  refine kX_cal (mr_findVariables L xs (d + 7) τ n bt t c2 ht) rfl (Or.inr rfl) rfl rfl rfl (fun r1' σ1 q1 => ?_)
  obtain ⟨rfl, W, ST, rfl, hl, h24⟩ := q1
  rw [etv] at hl h24 ⊢
  have hmem : ∀ u, u ∈ ddl [] (tvs (σ 233) (σ 234) (σ 235) t) ↔ u ∈ tvs (σ 233) (σ 234) (σ 235) t := fun u => by
    rw [ddl_mem]
    simp
  have hnd := ddl_nd (tvs (σ 233) (σ 234) (σ 235) t) [] List.Pairwise.nil
  have hbl : bls σ r dn = fl (fun u => nbv σ r dn (fN (σ 241 u))) (ddl [] (tvs (σ 233) (σ 234) (σ 235) t)) := by
    unfold bls
    rw [hft]
  generalize ddl [] (tvs (σ 233) (σ 234) (σ 235) t) = vs at *
  have hinj : ∀ u ∈ vs, ∀ v ∈ vs, u ≠ v → σ 241 u ≠ σ 241 v := fun u hu v hv' huv e => by
    obtain ⟨k, so, u1, k6, kv, vv, kk, -⟩ := hvar u ((hmem u).mp hu)
    obtain ⟨k', so', u1', k6', kv', vv', kk', -⟩ := hvar v ((hmem v).mp hv')
    obtain rfl : k = k' := nI_inj (by rw [← kk, ← kk', e])
    exact huv (nI_inj (vv.symm.trans vv'))
  have hnum : ∀ u ∈ vs, u < 200 ∧ ∃ k, k < 6 ∧ σ 241 u = nI k := fun u hu => by
    obtain ⟨k, so, u1, k6, kv, vv, kk, -⟩ := hvar u ((hmem u).mp hu)
    exact ⟨by omega, k, k6, kk⟩
  have hopF : opF (fvS τ W ST (nI vs.length)) s vs vs.length = bls σ r dn := by
    rw [hbl]
    unfold opF
    rw [List.take_length]
    refine fl_congr (fun u hu => ?_)
    obtain ⟨k, so, u1, k6, kv, vv, kk, -⟩ := hvar u ((hmem u).mp hu)
    show τ 265 (6 * s + fN (τ 241 u)) < 0 ↔ _
    rw [bls_neg hT hR ha.2.1 hs r1 r2 r3 hdn hse ht het ((hmem u).mp hu), hofn, kk, fN_nI (by omega), hst.2 s k hs k6]
  have hopM : opM (fvS τ W ST (nI vs.length)) n (bls σ r dn) = min (wyN ((owO σ n r dn).map List.length)) 20001 := by
    unfold opM owO
    rw [List.map_map]
    congr 2
    refine List.map_congr_left (fun u hu => ?_)
    obtain ⟨u1, -, so, s1, s2⟩ := (bls_ok hT hR r1 hdn het ht).2.2.1 u hu
    show cnt (ofs τ u) n = (opL σ (fN (σ 240 u)) n).length
    rw [cnt_opL n (ofs_gS hT hF s2 s1), s2, fN_nI (by omega)]
  iterate 6 (refine kX_one rfl ?_)
  have := mf_rc_open L xs (d + 6) (fvS τ W ST (nI vs.length)) n bt s vs c2 (by omega) rfl hl h24 hnd (by show ∀ u ∈ vs, u < 200 ∧ ∃ k, k < 6 ∧ τ 241 u = nI k; rw [hofn]; exact hnum) (by show ∀ u ∈ vs, ∀ v ∈ vs, u ≠ v → τ 241 u ≠ τ 241 v; rw [hofn]; exact hinj) (nI i) (nI t) (fun r σ' => rcY σ σ' n R S C kl a X r) (fun O hO => ?_) (0, τ 292) ⟨Nat.zero_le _, fun p hp => absurd hp (by simp [opF, fl])⟩
  · refine kX_to _ _ rfl rfl rfl ?_ this
    funext c; unfold fvS; first
      | ((repeat (refine va_case ?_ ?_; (· (intro h; first | (subst h; rfl) | (unfold va_up; repeat' split; (all_goals first | rfl | omega | (subst_vars; rfl) | (funext j; unfold upd; repeat' split; all_goals first | rfl | omega | (subst_vars; rfl)))))); intro h)); (repeat (refine va_case2 ?_ ?_; (· (intro h; first | exact absurd h (by assumption) | (subst h; rfl) | (subst h; funext j; unfold upd; repeat' split; (all_goals first | rfl | omega | (subst_vars; rfl))))); intro h)); rfl)
      | (unfold va_up; repeat' split
         all_goals first | rfl | omega | (subst_vars; rfl) | (funext j; unfold upd; repeat' split; all_goals first | rfl | omega | (subst_vars; rfl)))
  · rw [hopF] at hO ⊢
    rw [hopM]
    have hY1 : mY σ (fvS τ W ST (nI vs.length)) n R S x := mY_fr hT hB hY (mFr_fv τ n W ST (nI vs.length)) ⟨bt, c2⟩
    exact mY_rc_go L xs d σ (va_up (fvS τ W ST (nI vs.length)) 292 O) n b R S C i s r dn t _ kl x a X hT hB ha hs r1 r2 r3 hdn hse ht het rfl hi6 hi hai han (mY_up hT hB hY1 (Or.inr (Or.inr (Or.inl rfl)))) hst ⟨bt, l, c1, c2, c3, c4, c5⟩ hO hXe
end
section
/-! alike: goesOn -/
set_option maxRecDepth 100000 in
set_option maxHeartbeats 4000000 in
theorem mY_go_loop (L : Nat) (xs : Nat → Int32) (d : Nat) (σ : kS) (n b R S C i : Nat) (kl : List Nat) (a : Nat → Int32) (X : sX) (hT : mTb σ n b) (hB : mBs σ n R S C kl) (ha : aOk σ n R S a) (hi6 : i < 600) :
    ∀ q : Nat × kS × sX, (q.1 ≤ S ∧ q.2.2.2.2.2 = 0 ∧ (i < q.2.2.1.length ∧ (xq q.2.2.1 i).1 = a) ∧ sGo σ kl n S C i a (S - q.1) q.1 q.2.2 = X ∧ mY σ q.2.1 n R S q.2.2 ∧ aSt q.2.1 S a ∧ rwY q.2.1 n (trSt (stI σ a) kl S)) → kX kT L xs (d + 10) 218 11 [(2, .int (nI q.1)), (0, .ref 232), (1, .int (nI i))] [] q.2.1 (fun r σ' => mY σ σ' n R S X ∧ rY C X r) := by
  have hR := hB.1
  have hS4 := hB.2.1.1
  have hR4 := hR.1
  have hn := hT.1
  have hC6 : C ≤ 6 := hB.2.2.2.1
  refine kX_while (fun q : Nat × kS × sX => [(2, .int (nI q.1)), (0, .ref 232), (1, .int (nI i))]) (fun q => q.2.1) _ (fun q => S - q.1) ?_
  rintro ⟨s, τ, x⟩ ⟨i1, i2, ⟨i3, i3'⟩, i4, i5, i6, i7⟩ ih
  dsimp only at i1 i2 i3 i3' i4 i5 i6 i7 ih ⊢
  have hF := i5.1
  have hB2 := mBs_sf hT hF hB
  iterate 3 (refine kX_one rfl ?_)
  refine kX_top (hB2.2.1.2.1) ?_
  repeat refine kX_one rfl ?_
  refine kX_if (fun q => ?_) (fun q => ?_)
  · have q := qge q s S
    rw [show S - s = 0 by omega] at i4
    have i4 : x = X := i4
    subst i4
    repeat refine kX_one rfl ?_
    refine kX_ret (i := .ireturn) (len := 1) rfl (Or.inr rfl) rfl (⟨i5, Or.inl ⟨i2, rfl⟩⟩)
  · have q := qgeF q s S
    obtain ⟨m', hm'⟩ : ∃ m', S - s = m' + 1 := ⟨S - s - 1, by omega⟩
    rw [hm', sGo, cit_T i2] at i4
    have hpre := sSe_pre (σ := σ) (kl := kl) (n := n) (S := S) (C := C) (i := i) (s := s) (a := a) i3
    have k90 : ∀ (y v : Int32) τ2, mY σ τ2 n R S (sSe σ kl n S C i s a x) → rY C (sSe σ kl n S C i s a x) (some (.int v)) → (v = -6 → aSt τ2 S a ∧ rwY τ2 n (trSt (stI σ a) kl S)) → kX kT L xs (d + 10) 218 90 [(4, .int v), (3, .int y), (2, .int (nI s)), (0, .ref 232), (1, .int (nI i))] [] τ2 (fun r σ' => mY σ σ' n R S X ∧ rY C X r) := by
      intro y v τ2 f1 f2 f3
      have hne := rY_ne hC6 f2
      iterate 2 (refine kX_one rfl ?_)
      repeat refine kX_one rfl ?_
      refine kX_if (fun q2 => ?_) (fun q2 => ?_)
      · have q2 : v = -6 := qeq q2
        obtain ⟨g1, g2⟩ := f3 q2
        iterate 2 (refine kX_one rfl ?_)
        have := ih (s + 1, τ2, sSe σ kl n S C i s a x) ⟨q, hne.mpr (by rw [q2]), ⟨hpre.1, by simp only; rw [hpre.2]; exact i3'⟩, by simp only; rw [show S - (s + 1) = m' by omega]; exact i4, f1, g1, g2⟩ (by simp only; omega)
        dsimp only at this
        rw [← nI_1] at this
        exact kX_lv _ rfl rfl rfl this
      · have q2 : v ≠ -6 := qeqF q2
        have hnz : (sSe σ kl n S C i s a x).2.2.2 ≠ 0 := fun z => q2 (Value.int.inj (Option.some.inj (hne.mp z)))
        rw [sGo_n hnz] at i4
        rw [← i4]
        repeat refine kX_one rfl ?_
        refine kX_ret (i := .ireturn) (len := 1) rfl (Or.inr rfl) rfl (⟨f1, f2⟩)
    obtain ⟨r, dn, a1, a2, a3, a4, -⟩ := ha.2.1 s q
    have a3 : a (7 * s) = nI dn := a3
    have he6 : fN (σ 247 r) ≤ 6 := by
      obtain ⟨-, e, e1, e2⟩ := hR.2.2.1 r a1
      rw [e2, fN_nI (by omega)]
      exact e1
    have hev : τ 247 = σ 247 := hF.1 _ (by decide) (by decide)
    have hsr : τ 255 s = nI r := by rw [hF.1 255 (by decide) (by decide)]; exact a2
    have hds : τ 264 s = nI dn := (i6.1 s q).trans a3
    have hfr : fN (σ 255 s) = r := by rw [a2]; exact fN_nI (by omega)
    have hfd : fN (a (7 * s)) = dn := by rw [a3]; exact fN_nI (by omega)
    iterate 2 (refine kX_one rfl ?_)
    refine kX_cal (mr_nextEvent L xs (d + 8) τ n R s r dn hB2.1 (by omega) a1 hsr hds (by omega)) rfl (Or.inr rfl) rfl rfl rfl (fun r1 σ1 q1 => ?_)
    obtain ⟨rfl, rfl⟩ := q1
    rw [hev]
    by_cases hdn : dn < fN (σ 247 r)
    · rw [if_pos hdn]
      obtain ⟨t, t1, t2, -⟩ := hR.2.2.2.2.2 r dn a1 hdn
      have hft : fN (σ 248 (6 * r + dn)) = t := by rw [t2]; exact fN_nI (by omega)
      have ht2 : τ 248 (6 * r + dn) = nI t := by rw [hF.1 248 (by decide) (by decide)]; exact t2
      have hsd : τ 249 = σ 249 := hF.1 _ (by decide) (by decide)
      have k76 : σ 249 (6 * r + dn) = 0 → kX kT L xs (d + 10) 218 76 [(4, .int (-6)), (3, .int (nI (6 * r + dn))), (2, .int (nI s)), (0, .ref 232), (1, .int (nI i))] [] τ (fun r σ' => mY σ σ' n R S X ∧ rY C X r) := by
        intro hse
        iterate 6 (refine kX_one rfl ?_)
        refine kX_ialdV rfl rfl (by decide) (6 * r + dn) (by first | rfl | decide) (by omega) (ht2) ?_
        refine kX_cal (mY_receives L xs d σ τ n b R S C i s r dn t kl x a (sSe σ kl n S C i s a x) hT hB ha q a1 a2 a3 hdn hse t1 t2 hi6 i3 i3' i2 i5 i6 i7 (sSe_recv hfr hfd hdn hse hft)) rfl (Or.inr rfl) rfl rfl rfl (fun r1 τ2 q1 => ?_)
        obtain ⟨z1, z2, z3⟩ := q1
        have hne := rY_ne hC6 z2
        have hgo : ∀ v : Int32, r1 = some (.int v) → kX kT L xs (d + 10) 218 88 [(4, .int (-6)), (3, .int (nI (6 * r + dn))), (2, .int (nI s)), (0, .ref 232), (1, .int (nI i))] [.int v] τ2 (fun r σ' => mY σ σ' n R S X ∧ rY C X r) := by
          intro v hv
          subst hv
          iterate 1 (refine kX_one rfl ?_)
          exact kX_lv _ rfl rfl rfl (k90 (nI (6 * r + dn)) v τ2 z1 z2 (fun e => z3 (hne.mpr (by rw [e]))))
        rcases z2 with ⟨-, rfl⟩ | ⟨-, rfl⟩ | ⟨c', -, -, rfl, -⟩
        · exact hgo _ rfl
        · exact hgo _ rfl
        · exact hgo _ rfl
      have k58 : ∀ (v : Int32) τ2, mY σ τ2 n R S (sSe σ kl n S C i s a x) → rY C (sSe σ kl n S C i s a x) (some (.int v)) → kX kT L xs (d + 10) 218 58 [(4, .int (-6)), (3, .int (nI (6 * r + dn))), (2, .int (nI s)), (0, .ref 232), (1, .int (nI i))] [.int v] τ2 (fun r σ' => mY σ σ' n R S X ∧ rY C X r) := by
        intro v τ2 z1 z2
        have hse2 : τ2 232 27 = nI S := (z1.1.2.1 _ (by decide) (by decide)).trans hB.2.1.2.1
        iterate 3 (refine kX_one rfl ?_)
        refine kX_cal (mr_takeState L xs (d + 8) τ2 S i hse2 hS4 hi6) rfl (Or.inr rfl) rfl rfl rfl (fun r1 σ3 q1 => ?_)
        obtain ⟨rfl, D, V, rfl, hD, hV⟩ := q1
        obtain ⟨y1, y2⟩ := tk_st (a := a) hT hB z1 hpre.1 (by rw [hpre.2]; exact i3') hD hV
        generalize va_up (va_up τ2 264 D) 265 V = υ at *
        obtain ⟨bu, hTu⟩ := y1.2.1
        have hBu := mBs_sf hT y1.1 hB
        iterate 1 (refine kX_one rfl ?_)
        refine kX_cal (mr_stateRow L xs (d + 2) υ n bu R S kl hTu hBu.2.2.1 hBu.1 hS4 (cfg_Sv hTu hBu.1 hBu.2.1 (cfg_st hT hR y1.1 ha y2))) rfl (Or.inr rfl) rfl rfl rfl (fun r1 κ q1 => ?_)
        obtain ⟨rfl, -, b', l', hb', hbd⟩ := q1
        obtain ⟨t1, t2, t3, -⟩ := tk_row hT hB y1 ha y2 hb' hbd
        iterate 1 (refine kX_one rfl ?_)
        exact kX_lv _ rfl rfl rfl (k90 (nI (6 * r + dn)) v κ t1 z2 (fun _ => ⟨t2, t3⟩))
      have k42 : σ 249 (6 * r + dn) ≠ 0 → kX kT L xs (d + 10) 218 42 [(4, .int (-6)), (3, .int (nI (6 * r + dn))), (2, .int (nI s)), (0, .ref 232), (1, .int (nI i))] [] τ (fun r σ' => mY σ σ' n R S X ∧ rY C X r) := by
        intro hse
        obtain ⟨ok1, ok2⟩ := aOk_up hT hR ha q a1 a2 a3 hdn hse
        have hst2 : aSt (va_up τ 264 (upd (τ 264) s (nI (dn + 1)))) S (aUp a s) := by
          refine ⟨fun u hu => ?_, fun u k hu hk => ?_⟩
          · show upd (τ 264) s (nI (dn + 1)) u = _
            rw [aUp_D, a3, nI_1]
            by_cases e : u = s
            · subst e
              rw [pk_us, pk_us]
            · rw [pk_un e, pk_un e]
              exact i6.1 u hu
          · rw [aUp_V a s hk]
            exact i6.2 u k hu hk
        iterate 4 (refine kX_one rfl ?_)
        refine kX_ialdV rfl rfl (by decide) (s) (by first | rfl | decide) (by omega) (hds) ?_
        iterate 2 (refine kX_one rfl ?_)
        refine kX_top (nI_1 dn) ?_
        refine kX_iastN rfl rfl (by decide) (s) (by first | rfl | decide) (by omega) ?_
        have hcom := mY_comes L xs (d + 1) σ (va_up τ 264 (upd (τ 264) s (nI (dn + 1)))) n b R S C kl x (aUp a s) (nI i) (nI s) hT hB (mY_up hT hB i5 (Or.inl rfl)) ok1 hst2 i2 (Or.inr ⟨i, s, i3, rfl, rfl, by rw [i3']; exact ok2⟩)
        rw [← sSe_send (σ := σ) (kl := kl) (n := n) (S := S) (C := C) (i := i) (x := x) hfr hfd hdn hse] at hcom
        generalize va_up τ 264 (upd (τ 264) s (nI (dn + 1))) = ρ1 at *
        iterate 3 (refine kX_one rfl ?_)
        refine kX_cal hcom rfl (Or.inr rfl) rfl rfl rfl (fun r1 σ2 q1 => ?_)
        obtain ⟨z1, z2, -⟩ := q1
        have z3 := z2
        rcases z2 with ⟨-, rfl⟩ | ⟨-, rfl⟩ | ⟨c', -, -, rfl, -⟩
        · exact k58 _ σ2 z1 z3
        · exact k58 _ σ2 z1 z3
        · exact k58 _ σ2 z1 z3
      iterate 4 (refine kX_one rfl ?_)
      repeat refine kX_one rfl ?_
      refine kX_ifF (decide_eq_false (nI_pos (by omega))) ?_
      iterate 3 (refine kX_one rfl ?_)
      refine kX_baldN rfl rfl (by decide) (6 * r + dn) (by first | rfl | decide) (by omega) ?_
      repeat refine kX_one rfl ?_
      refine kX_if (fun q2 => ?_) (fun q2 => ?_)
      · have q2 : τ 249 (6 * r + dn) = 0 := qeq q2
        rw [hsd] at q2
        iterate 1 (refine kX_one rfl ?_)
        repeat refine kX_one rfl ?_
        refine kX_ifF (decide_eq_false (nI_pos (by omega))) ?_
        exact kX_lv _ rfl rfl rfl (k76 q2)
      · have q2 : τ 249 (6 * r + dn) ≠ 0 := qeqF q2
        rw [hsd] at q2
        exact kX_lv _ rfl rfl rfl (k42 q2)
    · rw [if_neg hdn]
      have hx : sSe σ kl n S C i s a x = x := sSe_none hfr (by rw [hfd]; exact hdn)
      rw [hx] at k90
      iterate 7 (refine kX_one rfl ?_)
      exact kX_lv _ rfl rfl rfl (k90 (-1) (-6) τ i5 (Or.inl ⟨i2, rfl⟩) (fun _ => ⟨i6, i7⟩))
set_option maxRecDepth 100000 in
set_option maxHeartbeats 4000000 in
theorem mY_goesOn (L : Nat) (xs : Nat → Int32) (d : Nat) (σ τ : kS) (n b R S C i : Nat) (kl : List Nat) (x : sX) (a : Nat → Int32) (X : sX) (hT : mTb σ n b) (hB : mBs σ n R S C kl) (hY : mY σ τ n R S x) (hi : i < x.1.length) (hai : (xq x.1 i).1 = a) (han : x.2.2.2 = 0) (hXe : X = sGo σ kl n S C i a S 0 x) : kXM kT L xs (d + 10) 218 [.ref 232, .int (nI i)] τ (fun r σ' => mY σ σ' n R S X ∧ rY C X r) := by
  have hS4 := hB.2.1.1
  have hN6 := hY.2.2.1.1
  have ha : aOk σ n R S a := by
    rw [← hai]
    exact (hY.2.2.2.2.2.2 i hi).1
  have hse2 : τ 232 27 = nI S := (hY.1.2.1 _ (by decide) (by decide)).trans hB.2.1.2.1
  unfold kXM
  iterate 2 (refine kX_one rfl ?_)
  refine kX_cal (mr_takeState L xs (d + 8) τ S i hse2 hS4 (by omega)) rfl (Or.inr rfl) rfl rfl rfl (fun r1 σ3 q1 => ?_)
  obtain ⟨rfl, D, V, rfl, hD, hV⟩ := q1
  obtain ⟨y1, y2⟩ := tk_st (a := a) hT hB hY hi hai hD hV
  generalize va_up (va_up τ 264 D) 265 V = υ at *
  obtain ⟨bu, hTu⟩ := y1.2.1
  have hBu := mBs_sf hT y1.1 hB
  iterate 1 (refine kX_one rfl ?_)
  refine kX_cal (mr_stateRow L xs (d + 2) υ n bu R S kl hTu hBu.2.2.1 hBu.1 hS4 (cfg_Sv hTu hBu.1 hBu.2.1 (cfg_st hT hB.1 y1.1 ha y2))) rfl (Or.inr rfl) rfl rfl rfl (fun r1 κ q1 => ?_)
  obtain ⟨rfl, -, b', l', hb', hbd⟩ := q1
  obtain ⟨t1, t2, t3, -⟩ := tk_row hT hB y1 ha y2 hb' hbd
  iterate 2 (refine kX_one rfl ?_)
  exact kX_lv _ rfl rfl rfl (mY_go_loop L xs d σ n b R S C i kl a X hT hB ha (by omega) (0, κ, x) ⟨Nat.zero_le _, han, ⟨hi, hai⟩, hXe.symm, t1, t2, t3⟩)
end
section
/-! alike: THE SEARCH asks only for what was told -/
def sxD : List Nat := [241, 249, 248, 255, 238, 244, 246, 247, 257, 258, 259, 260, 261, 262, 263, 233, 234, 235, 240, 245]
def sxV : List Nat := [264, 265, 241, 249, 248, 255, 238, 244, 246, 247, 257, 258, 259, 260, 261, 262, 263, 233, 234, 235, 240, 245]
section SC
variable {σ τ : kS}
theorem stI_c (e : eqC σ τ sxD) (a : Nat → Int32) : eqC (stI σ a) (stI τ a) sxV := fun c hc => by
  rcases List.mem_cons.mp hc with rfl | hc
  · rfl
  · rcases List.mem_cons.mp hc with rfl | hc
    · rfl
    · have h1 : ∀ c ∈ sxD, c ≠ 264 ∧ c ≠ 265 := by decide
      obtain ⟨h2, h3⟩ := h1 c hc
      rw [stI_lo _ _ h2 h3, stI_lo _ _ h2 h3]
      exact e c hc
theorem mBt_c {tr : trT} {c S : Nat} (e : eqC σ τ sxV) : mBt τ tr c S = mBt σ tr c S := by
  have hmH : mHo τ = mHo σ := by
    funext s
    unfold mHo
    rw [e 244 (by decide), e 255 (by decide), e 246 (by decide), e 238 (by decide), e 265 (by decide)]
  have hmW : mWt τ c = mWt σ c := by
    funext s
    unfold mWt
    rw [hmH, e 255 (by decide), e 258 (by decide), e 264 (by decide), e 247 (by decide)]
  have hmF : mFit τ c = mFit σ c := by
    funext s o
    unfold mFit mJn
    rw [e 255 (by decide), e 259 (by decide), e 260 (by decide), e 264 (by decide), e 265 (by decide), e 261 (by decide), e 263 (by decide), e 262 (by decide)]
  unfold mBt trM mA
  rw [hmH, hmW, hmF, e 255 (by decide), e 258 (by decide), e 259 (by decide), e 265 (by decide), e 257 (by decide), e 233 (by decide), e 234 (by decide), e 235 (by decide), e 238 (by decide)]
theorem trSt_c {kl : List Nat} {S : Nat} (e : eqC σ τ sxV) : trSt τ kl S = trSt σ kl S := trSt_eq (e _ (by decide)) (e _ (by decide)) (e _ (by decide)) (e _ (by decide)) (e _ (by decide)) (e _ (by decide)) (e _ (by decide)) (e _ (by decide)) (e _ (by decide)) (e _ (by decide))
theorem tin_c (e : eqC σ τ sxV) : tin τ = tin σ := by
  funext s t
  unfold tin mVl
  rw [e 233 (by decide), e 234 (by decide), e 235 (by decide), e 265 (by decide), e 241 (by decide)]
theorem adN_c (e : eqC σ τ sxV) : adN τ = adN σ := by
  funext s
  unfold adN
  rw [e 264 (by decide), e 247 (by decide), e 255 (by decide)]
theorem sRe_c {kl : List Nat} {S C : Nat} {x : sX} {a : Nat → Int32} {f y : Int32} (e : eqC σ τ sxD) : sRe τ kl S C x a f y = sRe σ kl S C x a f y := by
  have h1 := stI_c e a
  have h2 : (fun c => mBt (stI τ a) (trSt (stI τ a) kl S) c S) = fun c => mBt (stI σ a) (trSt (stI σ a) kl S) c S := by
    funext c
    rw [trSt_c h1, mBt_c h1]
  unfold sRe
  rw [h2, adN_c h1]
theorem bls_c {r e' : Nat} (e : eqC σ τ sxD) : bls τ r e' = bls σ r e' := by
  have h1 : nbv τ = nbv σ := by
    funext r e' k
    unfold nbv bdv
    rw [e 244 (by decide), e 246 (by decide), e 249 (by decide), e 245 (by decide), e 233 (by decide), e 234 (by decide), e 235 (by decide), e 248 (by decide)]
  unfold bls
  rw [h1, e 241 (by decide), e 233 (by decide), e 234 (by decide), e 235 (by decide), e 248 (by decide)]
theorem opL_c {so : Nat} (e : eqC σ τ sxD) : ∀ n, opL τ so n = opL σ so n
  | 0 => rfl
  | n + 1 => by
    rw [opL_1, opL_1, opL_c e n]
    have : gS τ so n = gS σ so n := by
      unfold gS
      rw [e 233 (by decide), e 234 (by decide), e 235 (by decide)]
    rw [this]
theorem owO_c {n r e' : Nat} (e : eqC σ τ sxD) : owO τ n r e' = owO σ n r e' := by
  unfold owO
  rw [bls_c e, e 240 (by decide)]
  exact List.map_congr_left (fun u _ => opL_c e n)
theorem owP_c {r e' : Nat} (e : eqC σ τ sxD) : owP τ r e' = owP σ r e' := by
  unfold owP
  rw [bls_c e, e 241 (by decide)]
theorem sWy_c {kl : List Nat} {S C i s t : Nat} {a : Nat → Int32} {ps : List Nat} {os : List (List Nat)} (e : eqC σ τ sxD) (m : Nat) : ∀ w (x : sX), sWy τ kl S C i s a t ps os m w x = sWy σ kl S C i s a t ps os m w x := by
  have h1 : trM τ = trM σ := by
    funext tr g
    unfold trM mA
    rw [e 233 (by decide), e 238 (by decide)]
  have h2 := trSt_c (kl := kl) (S := S) (stI_c e a)
  induction m with
  | zero => intro w x; rfl
  | succ m ih =>
    intro w x
    rw [sWy, sWy, ih, h1, h2, tin_c (stI_c e _), sRe_c e]
theorem sSe_c {kl : List Nat} {n S C i s : Nat} {a : Nat → Int32} {x : sX} (e : eqC σ τ sxD) : sSe τ kl n S C i s a x = sSe σ kl n S C i s a x := by
  have e1 := e 255 (by decide)
  have e2 := e 247 (by decide)
  have e3 := e 249 (by decide)
  by_cases q : fN (a (7 * s)) < fN (σ 247 (fN (σ 255 s)))
  · by_cases q2 : σ 249 (6 * fN (σ 255 s) + fN (a (7 * s))) = 0
    · rw [sSe_recv (σ := σ) rfl rfl q q2 rfl, sSe_recv (σ := τ) (r := fN (σ 255 s)) (by rw [e1]) rfl (by rw [e2]; exact q) (by rw [e3]; exact q2) (t := fN (σ 248 (6 * fN (σ 255 s) + fN (a (7 * s))))) (by rw [e 248 (by decide)]), sWy_c e, owO_c e, owP_c e]
    · rw [sSe_send (σ := σ) rfl rfl q q2, sSe_send (σ := τ) (r := fN (σ 255 s)) (by rw [e1]) rfl (by rw [e2]; exact q) (by rw [e3]; exact q2), sRe_c e]
  · rw [sSe_none (σ := σ) rfl q, sSe_none (σ := τ) (r := fN (σ 255 s)) (by rw [e1]) (by rw [e2]; exact q)]
theorem sGo_c {kl : List Nat} {n S C i : Nat} {a : Nat → Int32} (e : eqC σ τ sxD) : ∀ m s (x : sX), sGo τ kl n S C i a m s x = sGo σ kl n S C i a m s x
  | 0, _, _ => rfl
  | m + 1, s, x => by
    rw [sGo, sGo, sSe_c e, sGo_c e m (s + 1)]
theorem sAll_c {kl : List Nat} {n S C : Nat} (e : eqC σ τ sxD) : ∀ m i (x : sX), sAll τ kl n S C m i x = sAll σ kl n S C m i x
  | 0, _, _ => rfl
  | m + 1, i, x => by
    rw [sAll, sAll, sGo_c e, sAll_c e m (i + 1)]
theorem sSr_c {kl : List Nat} {n S C : Nat} {a : Nat → Int32} (e : eqC σ τ sxD) : sSr τ kl n S C a = sSr σ kl n S C a := by
  unfold sSr
  rw [sRe_c e, sAll_c e]
end SC
end
section
/-! alike: the reference's search -/
/-- the attack, as the reference notes it -/
theorem ak_full {σ : kS} {n b R S N : Nat} {l : List (Nat × Nat)} {AT : Nat → Int32} (hR : mRo σ n R) (h : mTb σ n b) (hS : mSs σ n R S N) (hN : 0 < N) (hP : pthB σ S N (N - 1) l) (h24 : l.length ≤ 24) (hA : ∀ p q, l.reverse[p]? = some q → AT p = nI q.2) : (∀ s ∈ l.reverse.map Prod.fst, s < S ∧ (l.reverse.map Prod.fst).count s ≤ fN (σ 247 (fN (σ 255 s)))) ∧ ∀ i (hi : i < (l.reverse.map Prod.fst).length), ∃ st, st < 600 ∧ AT i = nI st ∧ ∀ k, k < 6 → σ 285 (24 * st + 6 * ((l.reverse.map Prod.fst)[i]'hi) + k) = cit (bdv σ (fN (σ 255 ((l.reverse.map Prod.fst)[i]'hi))) (((l.reverse.map Prod.fst).take i).count ((l.reverse.map Prod.fst)[i]'hi) + 1) k) (stV σ (N - 1) (6 * ((l.reverse.map Prod.fst)[i]'hi) + k)) (-6) := by
  have hR4 := hR.1
  have hN6 := hS.1
  obtain ⟨p1, p2, p3⟩ := hP
  have hcnt : ∀ s, (l.map Prod.fst).count s < 2147483648 := fun s => by
    have := List.count_le_length (a := s) (l := l.map Prod.fst)
    rw [List.length_map] at this
    omega
  have hev : ∀ r, r < R → fN (σ 247 r) ≤ 6 := fun r hr => by
    obtain ⟨-, e, e1, e2⟩ := hR.2.2.1 r hr
    rw [e2, fN_nI (by omega)]
    exact e1
  have hel : (l.reverse.map Prod.fst).length = l.length := by simp
  refine ⟨fun s hs => ?_, fun i hi => ?_⟩
  · have hs' : s ∈ l.map Prod.fst := by
      rw [List.map_reverse] at hs
      exact List.mem_reverse.mp hs
    obtain ⟨q, hq, e⟩ := List.mem_map.mp hs'
    obtain ⟨l1, l2, e2⟩ := List.append_of_mem hq
    have hsS : s < S := by
      rw [← e]
      exact (p3 l1 q l2 e2).1
    obtain ⟨r, dn, a1, a2, a3, a4, a5⟩ := (hS.2.2 (N - 1) (by omega)).1 s hsS
    have he := hev r a1
    have hdn : (l.map Prod.fst).count s = dn := nI_inj ((p2 s hsS).symm.trans a3) (hcnt s)
    have hcr : (l.reverse.map Prod.fst).count s = dn := by
      rw [List.map_reverse, List.count_reverse, hdn]
    have hfr : fN (σ 255 s) = r := by rw [a2]; exact fN_nI (by omega)
    refine ⟨hsS, ?_⟩
    rw [hcr, hfr]
    exact a4
  · have hi' : i < l.reverse.length := by simpa using hi
    obtain ⟨q, hq⟩ : ∃ q, l.reverse[i] = q := ⟨_, rfl⟩
    have hA2 := hA i q (by rw [List.getElem?_eq_getElem hi', hq])
    have hsplit : l.reverse = l.reverse.take i ++ q :: l.reverse.drop (i + 1) := by
      rw [← hq, ← List.drop_eq_getElem_cons hi', List.take_append_drop]
    have hl : l = (l.reverse.drop (i + 1)).reverse ++ q :: (l.reverse.take i).reverse := by
      have := congrArg List.reverse hsplit
      rw [List.reverse_reverse, List.reverse_append, List.reverse_cons, List.append_assoc] at this
      exact this
    obtain ⟨q1, q2, q3, q4⟩ := p3 _ q _ hl
    have hasi : (l.reverse.map Prod.fst)[i] = q.1 := by rw [List.getElem_map, hq]
    have htk : ((l.reverse.map Prod.fst).take i).count q.1 = (((l.reverse.take i).reverse).map Prod.fst).count q.1 := by
      rw [List.map_reverse (l := l.reverse.take i), List.count_reverse, List.map_take]
    obtain ⟨r, dn, a1, a2, a3, a4, a5⟩ := (hS.2.2 q.2 q2).1 q.1 q1
    have he := hev r a1
    have hle : ((l.reverse.map Prod.fst).take i).count q.1 ≤ 600 := by
      have := List.count_le_length (a := q.1) (l := (l.reverse.map Prod.fst).take i)
      rw [List.length_take] at this
      omega
    have hdn : ((l.reverse.map Prod.fst).take i).count q.1 + 1 = dn := by
      rw [← htk] at q3
      exact nI_inj (q3.symm.trans a3)
    have hfr : fN (σ 255 q.1) = r := by rw [a2]; exact fN_nI (by omega)
    refine ⟨q.2, by omega, hA2, fun k hk => ?_⟩
    rw [hasi, hfr, hdn, show σ 285 (24 * q.2 + 6 * q.1 + k) = stV σ q.2 (6 * q.1 + k) by unfold stV; rw [show 24 * q.2 + (6 * q.1 + k) = 24 * q.2 + 6 * q.1 + k by omega]]
    by_cases hb : bdv σ r dn k
    · rw [cit_T hb, q4 k hk]
      exact (mVz_ne h ((a5 k hk).1 hb).1).1
    · rw [cit_F hb]
      exact (a5 k hk).2 hb
/-- the attack of X in ω, by its movers as -/
def akX (ω : kS) (S : Nat) (X : sX) (as : List Nat) : Prop := 0 < X.1.length ∧ as.length ≤ 24 ∧ ω 232 72 = nI as.length ∧ lst (ω 288) as ∧ (∀ s ∈ as, s < S ∧ as.count s ≤ fN (ω 247 (fN (ω 255 s)))) ∧ (∀ i (h : i < as.length), ∃ st, st < 600 ∧ ω 289 i = nI st ∧ ∀ k, k < 6 → ω 285 (24 * st + 6 * (as[i]'h) + k) = cit (bdv ω (fN (ω 255 (as[i]'h))) ((as.take i).count (as[i]'h) + 1) k) (aV (xq X.1 (X.1.length - 1)).1 (6 * (as[i]'h) + k)) (-6)) ∧ ∀ P : Nat → Int32, (∀ i, 0 < i → i < X.1.length → P i = (xq X.1 i).2.1) → (∀ j, j < as.length → 0 < tpI P (X.1.length - 1) j) ∧ tpI P (X.1.length - 1) as.length = 0 ∧ (∀ j, j ≤ as.length → tpI P (X.1.length - 1) j < X.1.length) ∧ ∀ k (h : k < as.length), (xq X.1 (tpI P (X.1.length - 1) (as.length - 1 - k))).2.2 = nI (as[k]'h)
/-- what the reference's search leaves -/
def seY (τ ω : kS) (n R S C : Nat) (kl : List Nat) (X : sX) : Prop := (∃ b', mI ω n b' R S C kl) ∧ (∀ c, c ∉ rowC → c ∉ srX → c ≠ 290 → c ≠ 291 → c ≠ 288 → c ≠ 289 → ω c = τ c) ∧ (∀ j, j < 4 → ω 264 j = τ 264 j) ∧ (∀ j, j < 24 → ω 265 j = τ 265 j) ∧ (∀ j, j ∉ rowJ → j ∉ srJ → j ≠ 72 → ω 232 j = τ 232 j) ∧ (∀ u, u < 200 → ω 233 u = τ 233 u ∧ ω 234 u = τ 234 u ∧ ω 235 u = τ 235 u) ∧ (ω 232 69 = nI X.1.length ∧ X.1.length ≤ 600 ∧ ω 232 70 = nI X.2.1 ∧ ω 232 71 = nI X.2.2.1) ∧ (X.2.2.2 = 0 ∨ X.2.2.2 = -7 → ω 232 72 = -6) ∧ (X.2.2.2 ≠ 0 → X.2.2.2 ≠ -7 → ∃ as, akX ω S X as)
theorem se_I {σ τ : kS} {n b b' R S C : Nat} {kl : List Nat} {KD KV RD RV AS AT : Nat → Int32} {x : Int32} (h : mI σ n b R S C kl) (hF : mSf (seQ σ KD KV) τ n) (hT : mTb τ n b') (hA : mAk (naS τ AS AT x) n R S) (hd : ∀ j, j < 4 → RD j = σ 264 j) (hv : ∀ j, j < 24 → RV j = σ 265 j) : mI (va_up (va_up (va_up (naS τ AS AT x) 264 RD) 265 RV) 232 (upd (naS τ AS AT x 232) 47 0)) n b' R S C kl := by
  obtain ⟨h1, h2, h3, h4, h5, h6, h7⟩ := h
  have hT0 : mTb (seQ σ KD KV) n b := h1
  have hB0 : mBs (seQ σ KD KV) n R S C kl := ⟨h2, h3, h4, h5⟩
  have hB := mBs_sf hT0 hF hB0
  refine ⟨hT, hB.1, hB.2.1, hB.2.2.1, hB.2.2.2, ?_, hA⟩
  have er : τ 232 52 = σ 232 52 := hF.2.1 52 (by decide) (by decide)
  rcases h6 with h6 | ⟨h6, ds, g1, g2, g3⟩
  · exact Or.inl (er.trans h6)
  · have hS0 : mRn (seQ σ KD KV) n R S ds := g1
    have hB0 : mBi (seQ σ KD KV) ds := g2
    have hR0 : mRo (seQ σ KD KV) n R := h2
    have hB1 := mFr_Bi (τ := pat (seQ σ KD KV) τ) hT0 hR0 (pat_fr hF) hS0 hB0
    have hrn := se_Rn (τ := τ) (RD := RD) (RV := RV) hT0 hR0 hF h3.1 hS0 hT hd hv
    exact Or.inr ⟨er.trans h6, ds, hrn, hB1, Or.inl rfl⟩
set_option maxRecDepth 100000 in
set_option maxHeartbeats 4000000 in
theorem mf_se_end (L : Nat) (xs : Nat → Int32) (d : Nat) (τ : kS) (v y : Int32) (C : Nat) (hC : C ≤ 6) (hv : (v = -6 ∧ y = 0) ∨ (v = -7 ∧ y = -7) ∨ ∃ c, c < C ∧ v = nI c ∧ y = nI (1 + c)) (Q : Option Value → kS → Prop)
    (he : ∀ RD RV, (∀ j, j < 4 → RD j = τ 290 j) → (∀ j, j < 24 → RV j = τ 291 j) → Q (some (.int y)) (va_up (va_up (va_up τ 264 RD) 265 RV) 232 (upd (τ 232) 47 0))) :
    kX kT L xs (d + 1) 220 102 [(0, .ref 232), (1, .int v)] [] τ Q := by
  iterate 2 (refine kX_one rfl ?_)
  have h1 := mr_se_r1 L xs d τ v Q (fun RD hD => ?_) (0, τ 264) ⟨Nat.zero_le _, fun j hj => absurd hj (Nat.not_lt_zero j)⟩
  · refine kX_to _ _ rfl rfl rfl ?_ h1
    funext c; first
      | ((repeat (refine va_case ?_ ?_; (· (intro h; first | (subst h; rfl) | (unfold va_up; repeat' split; (all_goals first | rfl | omega | (subst_vars; rfl) | (funext j; unfold upd; repeat' split; all_goals first | rfl | omega | (subst_vars; rfl)))))); intro h)); (repeat (refine va_case2 ?_ ?_; (· (intro h; first | exact absurd h (by assumption) | (subst h; rfl) | (subst h; funext j; unfold upd; repeat' split; (all_goals first | rfl | omega | (subst_vars; rfl))))); intro h)); rfl)
      | (unfold va_up; repeat' split
         all_goals first | rfl | omega | (subst_vars; rfl) | (funext j; unfold upd; repeat' split; all_goals first | rfl | omega | (subst_vars; rfl)))
  · iterate 2 (refine kX_one rfl ?_)
    have h2 := mr_se_r2 L xs d (va_up τ 264 RD) v Q (fun RV hV => ?_) (0, τ 265) ⟨Nat.zero_le _, fun j hj => absurd hj (Nat.not_lt_zero j)⟩
    · refine kX_to _ _ rfl rfl rfl ?_ h2
      funext c; first
        | ((repeat (refine va_case ?_ ?_; (· (intro h; first | (subst h; rfl) | (unfold va_up; repeat' split; (all_goals first | rfl | omega | (subst_vars; rfl) | (funext j; unfold upd; repeat' split; all_goals first | rfl | omega | (subst_vars; rfl)))))); intro h)); (repeat (refine va_case2 ?_ ?_; (· (intro h; first | exact absurd h (by assumption) | (subst h; rfl) | (subst h; funext j; unfold upd; repeat' split; (all_goals first | rfl | omega | (subst_vars; rfl))))); intro h)); rfl)
        | (unfold va_up; repeat' split
           all_goals first | rfl | omega | (subst_vars; rfl) | (funext j; unfold upd; repeat' split; all_goals first | rfl | omega | (subst_vars; rfl)))
    · iterate 5 (refine kX_one rfl ?_)
      refine kX_st (va_up (va_up (va_up τ 264 RD) 265 RV) 232 (upd (τ 232) 47 0)) rfl ?_
      rcases hv with ⟨rfl, rfl⟩ | ⟨rfl, rfl⟩ | ⟨c, hc, rfl, rfl⟩
      · repeat refine kX_one rfl ?_
        refine kX_ret (i := .ireturn) (len := 1) rfl (Or.inr rfl) rfl (he RD RV hD hV)
      · repeat refine kX_one rfl ?_
        refine kX_ret (i := .ireturn) (len := 1) rfl (Or.inr rfl) rfl (he RD RV hD hV)
      · have h0 : ¬ nI c < 0 := nI_pos (by omega)
        repeat refine kX_one rfl ?_
        refine kX_if (fun q => ?_) (fun q => ?_)
        · iterate 2 (refine kX_one rfl ?_)
          repeat refine kX_one rfl ?_
          refine kX_if (fun q2 => ?_) (fun q2 => ?_)
          · iterate 3 (refine kX_one rfl ?_)
            refine kX_top (y := nI (1 + c)) (nI_add 1 c) ?_
            refine kX_ret (i := .ireturn) (len := 1) rfl (Or.inr rfl) rfl (he RD RV hD hV)
          · exfalso
            have q2 : nI c = -6 := qneF q2
            exact h0 (by rw [q2]; decide)
        · exfalso
          have q : nI c = -7 := qneF q
          exact h0 (by rw [q]; decide)
set_option maxRecDepth 100000 in
set_option maxHeartbeats 4000000 in
theorem mY_search (L : Nat) (xs : Nat → Int32) (d : Nat) (σ : kS) (n b R S C : Nat) (kl : List Nat) (h : mI σ n b R S C kl) (a0 : Nat → Int32) (ha0 : aOk σ n R S a0) (h00 : ∀ s, s < S → a0 (7 * s) = 0) (hv0 : ∀ s k, s < S → k < 6 → aV a0 (6 * s + k) = if k < fN (σ 244 (fN (σ 255 s))) then σ 256 (6 * s + k) else -6) (X : sX) (hXe : X = sSr σ kl n S C a0) : kXM kT L xs (d + 11) 220 [.ref 232] σ (fun r ω => r = some (.int X.2.2.2) ∧ seY σ ω n R S C kl X) := by
  have h0 := h
  obtain ⟨h1, h2, h3, h4, h5, h6, h7⟩ := h
  have hS4 := h3.1
  have hC6 : C ≤ 6 := h5.1
  unfold kXM
  have k51 : ∀ KD KV, (∀ j, j < 4 → KD j = σ 264 j) → (∀ j, j < 24 → KV j = σ 265 j) → kX kT L xs (d + 11) 220 51 [(0, .ref 232)] [] (va_up (va_up σ 290 KD) 291 KV) (fun r ω => r = some (.int X.2.2.2) ∧ seY σ ω n R S C kl X) := by
    intro KD KV hKD hKV
    have hT0 : mTb (seQ σ KD KV) n b := h1
    have hB0 : mBs (seQ σ KD KV) n R S C kl := ⟨h2, h3, h4, h5⟩
    have hat0 : seQ σ KD KV 232 72 = -6 := rfl
    have heq : eqC σ (seQ σ KD KV) sxD := eqC_of (P := fun c => c ≠ 290 ∧ c ≠ 291 ∧ c ≠ 232) (fun c q => by
      unfold seQ
      rw [up_ne q.2.2, up_ne q.2.1, up_ne q.1]) _ (by decide)
    have hXe2 : X = sSr (seQ σ KD KV) kl n S C a0 := by rw [hXe, sSr_c heq]
    have ha02 : aOk (seQ σ KD KV) n R S a0 := ha0
    have hq1 : ∀ c, c ≠ 290 → c ≠ 291 → c ≠ 232 → seQ σ KD KV c = σ c := fun c c1 c2 c3 => by
      unfold seQ
      rw [up_ne c3, up_ne c2, up_ne c1]
    have hq2 : ∀ j, j ∉ rowJ → j ∉ srJ → j ≠ 72 → seQ σ KD KV 232 j = σ 232 j := fun j j1 j2 j3 => by
      show fgO (σ 232) j = σ 232 j
      simp only [rowJ, srJ, List.mem_cons, List.not_mem_nil, or_false, not_or] at j1 j2
      unfold fgO
      repeat (first | rw [pk_un (by omega)] | rfl)
    have hqk : ∀ u, u < 200 → seQ σ KD KV 233 u = σ 233 u ∧ seQ σ KD KV 234 u = σ 234 u ∧ seQ σ KD KV 235 u = σ 235 u := fun u _ => ⟨rfl, rfl, rfl⟩
    /- the end -/
    have fin : ∀ τ (AS AT : Nat → Int32) (m : Int32) (RD RV : Nat → Int32), mY (seQ σ KD KV) τ n R S X → mAk (naS τ AS AT m) n R S → (∀ j, j < 4 → RD j = σ 264 j) → (∀ j, j < 24 → RV j = σ 265 j) → (X.2.2.2 = 0 ∨ X.2.2.2 = -7 → m = -6) → (X.2.2.2 ≠ 0 → X.2.2.2 ≠ -7 → ∃ as, akX (naS τ AS AT m) S X as) → seY σ (va_up (va_up (va_up (naS τ AS AT m) 264 RD) 265 RV) 232 (upd (naS τ AS AT m 232) 47 0)) n R S C kl X := by
      intro τ AS AT m RD RV hY hA hD hV hm has
      obtain ⟨hF, ⟨bt, hTt⟩, hSs, hSx, ⟨w1, w2, w3⟩, hok⟩ := hY
      refine ⟨⟨bt, se_I h0 hF hTt hA hD hV⟩, fun c c1 c2 c3 c4 c5 c6 => ?_, hD, hV, fun j j1 j2 j3 => ?_, fun u hu => ?_, ⟨hSs.2.1, hSs.1, w1, w3⟩, hm, fun z1 z2 => ?_⟩
      · have e1 : c ≠ 232 := fun e => c1 (e ▸ (by decide))
        have e2 : c ≠ 264 := fun e => c2 (e ▸ (by decide))
        have e3 : c ≠ 265 := fun e => c2 (e ▸ (by decide))
        rw [up_ne e1, up_ne e3, up_ne e2]
        unfold naS
        rw [up_ne e1, up_ne c6, up_ne c5, hF.1 c c1 c2]
        exact hq1 c c3 c4 e1
      · show upd (upd (τ 232) 72 m) 47 0 j = σ 232 j
        rw [pk_un (show j ≠ 47 from fun e => j1 (by rw [e]; decide)), pk_un j3, hF.2.1 j j1 j2]
        exact hq2 j j1 j2 j3
      · exact hF.2.2 u hu
      · obtain ⟨as, g1, g2, g3, g4, g5, g6, g7⟩ := has z1 z2
        exact ⟨as, g1, g2, g3, g4, g5, g6, g7⟩
    have k94 : ∀ v τ, mY (seQ σ KD KV) τ n R S X → rY C X (some (.int v)) → kX kT L xs (d + 11) 220 94 [(0, .ref 232), (1, .int v)] [] τ (fun r ω => r = some (.int X.2.2.2) ∧ seY σ ω n R S C kl X) := by
      intro v τ hY hr
      obtain ⟨hF, ⟨bt, hTt⟩, hSs, hSx, hw, hok⟩ := id hY
      have hkd : τ 290 = KD := hF.1 _ (by decide) (by decide)
      have hkv : τ 291 = KV := hF.1 _ (by decide) (by decide)
      have hat : τ 232 72 = -6 := (hF.2.1 _ (by decide) (by decide)).trans hat0
      have hneg : ∀ y, y = X.2.2.2 → (v = -6 ∧ y = 0) ∨ (v = -7 ∧ y = -7) → v < 0 → kX kT L xs (d + 11) 220 94 [(0, .ref 232), (1, .int v)] [] τ (fun r ω => r = some (.int X.2.2.2) ∧ seY σ ω n R S C kl X) := by
        intro y hy hvy hlt
        iterate 1 (refine kX_one rfl ?_)
        repeat refine kX_one rfl ?_
        refine kX_ifT (decide_eq_true hlt) ?_
        refine mf_se_end L xs (d + 10) τ v y C hC6 (hvy.elim Or.inl (fun z => Or.inr (Or.inl z))) _ (fun RD RV hD hV => ⟨by rw [hy], ?_⟩)
        have hself : naS τ (τ 288) (τ 289) (-6) = τ := by
          rw [← hat]
          funext c; unfold naS; first
            | ((repeat (refine va_case ?_ ?_; (· (intro h; first | (subst h; rfl) | (unfold va_up; repeat' split; (all_goals first | rfl | omega | (subst_vars; rfl) | (funext j; unfold upd; repeat' split; all_goals first | rfl | omega | (subst_vars; rfl)))))); intro h)); (repeat (refine va_case2 ?_ ?_; (· (intro h; first | exact absurd h (by assumption) | (subst h; rfl) | (subst h; funext j; unfold upd; repeat' split; (all_goals first | rfl | omega | (subst_vars; rfl))))); intro h)); rfl)
            | (unfold va_up; repeat' split
               all_goals first | rfl | omega | (subst_vars; rfl) | (funext j; unfold upd; repeat' split; all_goals first | rfl | omega | (subst_vars; rfl)))
        have := fin τ (τ 288) (τ 289) (-6) RD RV hY (Or.inl rfl) (fun j hj => by rw [hD j hj, hkd, hKD j hj]) (fun j hj => by rw [hV j hj, hkv, hKV j hj]) (fun _ => rfl) (fun z1 z2 => by
          rcases hvy with ⟨-, q⟩ | ⟨-, q⟩
          · exact absurd (hy.symm.trans q) z1
          · exact absurd (hy.symm.trans q) z2)
        rw [hself] at this
        exact this
      rcases hr with ⟨q1, q2⟩ | ⟨q1, q2⟩ | ⟨c, hc1, hc2, q2, hN⟩
      · have q2 : v = -6 := Value.int.inj (Option.some.inj q2)
        exact hneg 0 q1.symm (Or.inl ⟨q2, rfl⟩) (by rw [q2]; decide)
      · have q2 : v = -7 := Value.int.inj (Option.some.inj q2)
        exact hneg (-7) q1.symm (Or.inr ⟨q2, rfl⟩) (by rw [q2]; decide)
      · have q2 : v = nI c := Value.int.inj (Option.some.inj q2)
        subst q2
        have hBt := mBs_sf hT0 hF hB0
        iterate 1 (refine kX_one rfl ?_)
        repeat refine kX_one rfl ?_
        refine kX_ifF (decide_eq_false (nI_pos (by omega))) ?_
        iterate 1 (refine kX_one rfl ?_)
        refine kX_cal (mf_noteAttack L xs (d + 9) τ n bt R S X.1.length hTt hBt.1 hS4 hSs hN) rfl (Or.inr rfl) rfl rfl rfl (fun r1 τ2 q1 => ?_)
        obtain ⟨rfl, AS, AT, l0, rfl, hA, hpR, hpB, h24, hAS⟩ := q1
        refine kX_lv _ rfl rfl rfl (mf_se_end L xs (d + 10) (naS τ AS AT (nI l0.length)) (nI c) (nI (1 + c)) C hC6 (Or.inr (Or.inr ⟨c, hc1, rfl, rfl⟩)) _ (fun RD RV hD hV => ⟨by rw [hc2], ?_⟩))
        refine fin τ AS AT (nI l0.length) RD RV hY hA (fun j hj => by rw [hD j hj, show naS τ AS AT (nI l0.length) 290 = τ 290 from rfl, hkd, hKD j hj]) (fun j hj => by rw [hV j hj, show naS τ AS AT (nI l0.length) 291 = τ 291 from rfl, hkv, hKV j hj]) (fun z => ?_) (fun _ _ => ?_)
        · exfalso
          rw [hc2] at z
          rcases z with z | z
          · exact nI_ne0 (by omega) (by omega) z
          · exact nI_pos (show 1 + c < 2147483648 by omega) (by rw [z]; decide)
        · obtain ⟨f1, f2⟩ := ak_full (AT := AT) hBt.1 hTt hSs hN hpB h24 (fun p q hq => (hAS p q hq).2)
          have hel : (l0.reverse.map Prod.fst).length = l0.length := by simp
          refine ⟨l0.reverse.map Prod.fst, hN, by omega, ?_, fun i hi => ?_, f1, fun i hi => ?_, fun P hP => ?_⟩
          · show nI l0.length = _
            rw [hel]
          · have hi' : i < l0.reverse.length := by simpa using hi
            have := (hAS i l0.reverse[i] (List.getElem?_eq_getElem hi')).1
            rw [List.getElem_map]
            exact this
          · obtain ⟨st, g1, g2, g3⟩ := f2 i hi
            refine ⟨st, g1, g2, fun k hk => ?_⟩
            have hsS := (f1 _ (List.getElem_mem hi)).1
            have e := (hSx (X.1.length - 1) (by omega)).2.1 ((l0.reverse.map Prod.fst)[i]'hi) k hsS hk
            rw [← e]
            exact g3 k hk
          · obtain ⟨b1, b2, b3, b4⟩ := pth_tp (σ := τ) (P := P) hSs.1 (fun j j1 j2 => (hP j j1 j2).trans ((hSx j j2).2.2.1).symm) l0 (X.1.length - 1) (by omega) hpR
            refine ⟨fun j hj => b1 j (by omega), by rw [hel]; exact b2, fun j hj => b3 j (by omega), fun k hk => ?_⟩
            have hk' : k < l0.length := by simpa using hk
            obtain ⟨-, b5⟩ := b4 (l0.length - 1 - k) (by omega)
            rw [show (l0.reverse.map Prod.fst).length - 1 - k = l0.length - 1 - k by omega, ← (hSx _ (b3 (l0.length - 1 - k) (by omega))).2.2.2, b5, List.getElem_map, List.getElem_reverse]
    iterate 1 (refine kX_one rfl ?_)
    refine kX_cal (mr_forget L xs (d + 9) _) rfl (Or.inr rfl) rfl rfl rfl (fun r1 σ1 q1 => ?_)
    obtain ⟨rfl, rfl⟩ := q1
    refine kX_st (seQ σ KD KV) rfl ?_
    iterate 1 (refine kX_one rfl ?_)
    refine kX_cal (mr_begins L xs (d + 9) (seQ σ KD KV) n b R S hT0 h2 h3) rfl (Or.inr rfl) rfl rfl rfl (fun r1 σ1 q1 => ?_)
    obtain ⟨rfl, D, V, rfl, hD, hV⟩ := q1
    have hY0 : mY (seQ σ KD KV) (seQ σ KD KV) n R S ([], 0, 0, 0) := ⟨mSf_refl _ n, ⟨b, hT0⟩, ⟨Nat.zero_le _, rfl, fun i hi => absurd hi (Nat.not_lt_zero i)⟩, fun i hi => absurd hi (Nat.not_lt_zero i), ⟨rfl, by decide, rfl⟩, xOk_nil _ n R S⟩
    have hY1 : mY (seQ σ KD KV) (va_up (va_up (seQ σ KD KV) 264 D) 265 V) n R S ([], 0, 0, 0) := mY_up hT0 hB0 (mY_up hT0 hB0 hY0 (Or.inl rfl)) (Or.inr (Or.inl rfl))
    have hst1 : aSt (va_up (va_up (seQ σ KD KV) 264 D) 265 V) S a0 := ⟨fun s hs => (hD s hs).trans (h00 s hs).symm, fun s k hs hk => (hV s k hs hk).trans (hv0 s k hs hk).symm⟩
    have hcom := mY_comes L xs (d + 2) (seQ σ KD KV) (va_up (va_up (seQ σ KD KV) 264 D) 265 V) n b R S C kl ([], 0, 0, 0) a0 (-1) (-1) hT0 hB0 hY1 ha02 hst1 rfl (Or.inl ⟨rfl, h00⟩)
    generalize va_up (va_up (seQ σ KD KV) 264 D) 265 V = ρ1 at *
    generalize seQ σ KD KV = ρ0 at *
    /- the loop -/
    have loop : ∀ q : Nat × Int32 × kS × sX, (q.1 ≤ 600 ∧ mY ρ0 q.2.2.1 n R S q.2.2.2 ∧ rY C q.2.2.2 (some (.int q.2.1)) ∧ sAll ρ0 kl n S C (600 - q.1) q.1 q.2.2.2 = X) → kX kT L xs (d + 11) 220 68 [(2, .int (nI q.1)), (1, .int q.2.1), (0, .ref 232)] [] q.2.2.1 (fun r ω => r = some (.int X.2.2.2) ∧ seY σ ω n R S C kl X) := by
      refine kX_while (fun q : Nat × Int32 × kS × sX => [(2, .int (nI q.1)), (1, .int q.2.1), (0, .ref 232)]) (fun q => q.2.2.1) _ (fun q => 600 - q.1) ?_
      rintro ⟨i, v, τ, x⟩ ⟨i1, i2, i3, i4⟩ ih
      dsimp only at i1 i2 i3 i4 ih ⊢
      have hN6 := i2.2.2.1.1
      have hne := rY_ne hC6 i3
      have hdone : ¬ (x.2.2.2 = 0 ∧ i < x.1.length) → x = X := fun z => by
        have hall : ∀ m, sAll ρ0 kl n S C m i x = x := fun m => by
          cases m with
          | zero => rfl
          | succ m => rw [sAll, cit_F z]
        rw [hall] at i4
        exact i4
      iterate 3 (refine kX_one rfl ?_)
      refine kX_top (i2.2.2.1.2.1) ?_
      repeat refine kX_one rfl ?_
      refine kX_if (fun q => ?_) (fun q => ?_)
      · have q := qge q i x.1.length
        have e := hdone (fun z => by omega)
        subst e
        exact kX_lv _ rfl rfl rfl (k94 v τ i2 i3)
      · have q := qgeF q i x.1.length
        iterate 2 (refine kX_one rfl ?_)
        repeat refine kX_one rfl ?_
        refine kX_if (fun q2 => ?_) (fun q2 => ?_)
        · have q2 : v ≠ -6 := qne q2
          have e := hdone (fun z => q2 (Value.int.inj (Option.some.inj (hne.mp z.1))))
          subst e
          exact kX_lv _ rfl rfl rfl (k94 v τ i2 i3)
        · have q2 : v = -6 := qneF q2
          have hz : x.2.2.2 = 0 := hne.mpr (by rw [q2])
          obtain ⟨m', hm'⟩ : ∃ m', 600 - i = m' + 1 := ⟨600 - i - 1, by omega⟩
          rw [hm', sAll, cit_T ⟨hz, q⟩] at i4
          iterate 2 (refine kX_one rfl ?_)
          refine kX_cal (mY_goesOn L xs d ρ0 τ n b R S C i kl x _ _ hT0 hB0 i2 q rfl hz rfl) rfl (Or.inr rfl) rfl rfl rfl (fun r1 τ2 q1 => ?_)
          obtain ⟨z1, z2⟩ := q1
          have hgo : ∀ w : Int32, r1 = some (.int w) → kX kT L xs (d + 11) 220 87 [(2, .int (nI i)), (1, .int v), (0, .ref 232)] [.int w] τ2 (fun r ω => r = some (.int X.2.2.2) ∧ seY σ ω n R S C kl X) := by
            intro w hw
            subst hw
            iterate 3 (refine kX_one rfl ?_)
            have := ih (i + 1, w, τ2, _) ⟨by simp only; omega, z1, z2, by simp only; rw [show 600 - (i + 1) = m' by omega]; exact i4⟩ (by simp only; omega)
            dsimp only at this
            rw [← nI_1] at this
            exact kX_lv _ rfl rfl rfl this
          rcases z2 with ⟨-, rfl⟩ | ⟨-, rfl⟩ | ⟨c', -, -, rfl, -⟩
          · exact hgo _ rfl
          · exact hgo _ rfl
          · exact hgo _ rfl
    iterate 3 (refine kX_one rfl ?_)
    refine kX_cal hcom rfl (Or.inr rfl) rfl rfl rfl (fun r1 τ q1 => ?_)
    obtain ⟨z1, z2, -⟩ := q1
    have hgo : ∀ w : Int32, r1 = some (.int w) → kX kT L xs (d + 11) 220 65 [(0, .ref 232)] [.int w] τ (fun r ω => r = some (.int X.2.2.2) ∧ seY σ ω n R S C kl X) := by
      intro w hw
      subst hw
      iterate 3 (refine kX_one rfl ?_)
      exact kX_lv _ rfl rfl rfl (loop (0, w, τ, _) ⟨Nat.zero_le _, z1, z2, hXe2.symm⟩)
    rcases z2 with ⟨-, rfl⟩ | ⟨-, rfl⟩ | ⟨c', -, -, rfl, -⟩
    · exact hgo _ rfl
    · exact hgo _ rfl
    · exact hgo _ rfl
  iterate 2 (refine kX_one rfl ?_)
  have h1' := mr_se_k1 L xs (d + 10) σ (fun r ω => r = some (.int X.2.2.2) ∧ seY σ ω n R S C kl X) (fun KD hKD => ?_) (0, σ 290) ⟨Nat.zero_le _, fun j hj => absurd hj (Nat.not_lt_zero j)⟩
  · refine kX_to _ _ rfl rfl rfl ?_ h1'
    funext c; first
      | ((repeat (refine va_case ?_ ?_; (· (intro h; first | (subst h; rfl) | (unfold va_up; repeat' split; (all_goals first | rfl | omega | (subst_vars; rfl) | (funext j; unfold upd; repeat' split; all_goals first | rfl | omega | (subst_vars; rfl)))))); intro h)); (repeat (refine va_case2 ?_ ?_; (· (intro h; first | exact absurd h (by assumption) | (subst h; rfl) | (subst h; funext j; unfold upd; repeat' split; (all_goals first | rfl | omega | (subst_vars; rfl))))); intro h)); rfl)
      | (unfold va_up; repeat' split
         all_goals first | rfl | omega | (subst_vars; rfl) | (funext j; unfold upd; repeat' split; all_goals first | rfl | omega | (subst_vars; rfl)))
  · iterate 2 (refine kX_one rfl ?_)
    have h2' := mr_se_k2 L xs (d + 10) (va_up σ 290 KD) (fun r ω => r = some (.int X.2.2.2) ∧ seY σ ω n R S C kl X) (fun KV hKV => k51 KD KV hKD hKV) (0, σ 291) ⟨Nat.zero_le _, fun j hj => absurd hj (Nat.not_lt_zero j)⟩
    refine kX_to _ _ rfl rfl rfl ?_ h2'
    funext c; first
      | ((repeat (refine va_case ?_ ?_; (· (intro h; first | (subst h; rfl) | (unfold va_up; repeat' split; (all_goals first | rfl | omega | (subst_vars; rfl) | (funext j; unfold upd; repeat' split; all_goals first | rfl | omega | (subst_vars; rfl)))))); intro h)); (repeat (refine va_case2 ?_ ?_; (· (intro h; first | exact absurd h (by assumption) | (subst h; rfl) | (subst h; funext j; unfold upd; repeat' split; (all_goals first | rfl | omega | (subst_vars; rfl))))); intro h)); rfl)
      | (unfold va_up; repeat' split
         all_goals first | rfl | omega | (subst_vars; rfl) | (funext j; unfold upd; repeat' split; all_goals first | rfl | omega | (subst_vars; rfl)))
end
section
/-! alike: search -/
theorem trRun_cg {σ τ : kS} {n b R S : Nat} {kl ds : List Nat} (h : mTb σ n b) (hR : mRo σ n R) (hK : mKn σ n kl) (hS : mRn σ n R S ds) (hk : ∀ u, u < 200 → τ 233 u = σ 233 u ∧ τ 234 u = σ 234 u ∧ τ 235 u = σ 235 u) (e : eqC σ τ sxC) (hv : ∀ s k, s < S → k < 6 → τ 265 (6 * s + k) = σ 265 (6 * s + k)) : trRun τ kl ds = trRun σ kl ds := by
  have hn := h.1
  have hR4 := hR.1
  have key : ∀ tr k, k ≤ ds.length → trSn τ ds tr k = trSn σ ds tr k := by
    intro tr k
    induction k with
    | zero => intro _; rfl
    | succ k ih =>
      intro hk'
      have hkl : k < ds.length := hk'
      have hgd : ds.getD k 0 = ds[k] := by rw [List.getD_eq_getElem?_getD, List.getElem?_eq_getElem hkl]; rfl
      have hsS := hS.2.2.1 _ (List.getElem_mem hkl)
      obtain ⟨r, r1, r2, r3, r4, r5, r6, -⟩ := hS.2.2.2 _ hsS
      have hcnt : (ds.take k).count ds[k] < ds.count ds[k] := by
        have := count_take_le ds ds[k] (k + 1)
        rw [List.take_succ_eq_append_getElem hkl, List.count_append] at this
        simp at this
        omega
      have hmev : mEv τ ds[k] ((ds.take k).count ds[k]) = mEv σ ds[k] ((ds.take k).count ds[k]) := by
        unfold mEv
        rw [e 255 (by decide)]
      have hmev2 : mEv σ ds[k] ((ds.take k).count ds[k]) = 6 * r + (ds.take k).count ds[k] := by
        unfold mEv
        rw [r2, fN_nI (by omega)]
      obtain ⟨t, t1, t2, -⟩ := hR.2.2.2.2.2 r ((ds.take k).count ds[k]) r1 (by omega)
      have hst := r6 _ hcnt
      rw [trSn, trSn, hgd, ih (by omega), hmev, e 249 (by decide), e 248 (by decide), hmev2]
      rw [t2, fN_nI (by omega)] at hst ⊢
      rw [tin_cg h (fun u hu => hk u (by omega)) (e 241 (by decide)) t t1 (fun u hu => ?_)]
      obtain ⟨p, z, p1, p2, p3, p4, -⟩ := hst u hu
      exact ⟨p, z, p1, p2, p3, p4, by rw [hv _ p hsS p1]; exact p4⟩
  unfold trRun
  rw [trKn_cg h hK hk, key _ _ (Nat.le_refl _), mA_cg hk, e 238 (by decide)]
/-- the class's invariant behind its search -/
theorem cJ_cX {σ τ : kS} {n b R S C m mm : Nat} {kl : List Nat} {X : sX} (h : aJ σ n b R S C kl m) (hX : cX σ τ n R S C X mm) : cJ τ n R S C := by
  have hJ := h.2.1
  have hn := h.1.1.1
  obtain ⟨-, tb2, -, tb4⟩ := tb_at h hX.1
  obtain ⟨h1, h2, h3, h4, h5, h6, h7, h8, h9, h10, h11⟩ := hJ
  obtain ⟨⟨i1, iz, i2, i3, i5⟩, g2, g3, g4, g5, g6, g7, g9, g10⟩ := id hX
  have e : ∀ c, 13 ≤ c → c < 195 → τ c = σ c := sF_13 i1
  have hg : ∀ z, z < n → τ 8 z = σ 8 z := fun z _ => by rw [sF_g i1]
  refine ⟨cT_sF i1 h1, cRo_gr (Nat.le_refl _) (fun c c1 c2 => e c c1 (by omega)) h2, cSe_eq hg (by rw [e 13 (by decide) (by decide)]) (e _ (by decide) (by decide)) (e _ (by decide) (by decide)) h3, cCl_eq (by rw [e 13 (by decide) (by decide)]) (fun c c1 c2 => e c (by omega) (by omega)) h4, cKn_eq (by rw [e 13 (by decide) (by decide)]) h5, cKw_eq2 (e _ (by decide) (by decide)) (e _ (by decide) (by decide)) (e _ (by decide) (by decide)) (fun g _ g2 => i1.2 g (by omega)) h6, i2, i3, ?_, ⟨X.1.length, g2.1, g2.2.1, fun i hi s k hs hk => ?_, fun i i0 hi => ?_, ?_⟩, i5⟩
  · unfold cRu
    rw [e 181 (by decide) (by decide), e 183 (by decide) (by decide), e 182 (by decide) (by decide), e 186 (by decide) (by decide)]
    rcases h9 with q | ⟨q1, q2, q3, q4⟩
    · exact Or.inl q
    · refine Or.inr ⟨q1, q2, cV_eq hg q3, ?_⟩
      rcases q4 with q4 | ⟨g, g1, g2, g3⟩
      · exact Or.inl q4
      · refine Or.inr ⟨g, g1, g2, fun hgn => ?_⟩
        obtain ⟨u, u1, u2, u3⟩ := g3 hgn
        exact ⟨u, u1, u2, cKg_eq hg (fun g _ b => ⟨(i1.2 g (by omega)).2.1, (i1.2 g (by omega)).2.2.1⟩) u3⟩
  · have hok := (g9.2 i hi).1
    have ee : τ 197 (28 * i + 7 * s + 1 + k) = (xq X.1 i).1 (7 * s + 1 + k) := by
      rw [← (g3 i hi).1]
      unfold stF
      rw [if_pos (by omega), show 28 * i + (7 * s + 1 + k) = 28 * i + 7 * s + 1 + k by omega]
    rw [ee]
    rcases hok.2.2 s k hs hk with q | ⟨z, z1, z2⟩
    · exact Or.inl q
    · refine Or.inr ⟨z, z1, z2, ?_⟩
      rw [tb4 z z1]
      refine isB_T ?_
      unfold kGd
      rw [kGd_at h hX.1 z1]
      exact aOk_gd h.1.1 hok hs hk z1 z2
  · obtain ⟨j, mv, j1, j2, j3, j4⟩ := (g9.2 i hi).2.2 i0
    exact ⟨⟨j, j1, (g3 i hi).2.1.trans j2⟩, mv, j4.1, (g3 i hi).2.2.trans j3⟩
  · by_cases q : X.2.2.2 = 0 ∨ X.2.2.2 = -7
    · exact Or.inl (g10.1 q)
    · obtain ⟨hN, D, d1, d2, d3, d4, d5⟩ := g10.2 (fun z => q (Or.inl z)) (fun z => q (Or.inr z))
      refine Or.inr ⟨hN, D, d1, d4, fun k hk => ?_⟩
      rw [d5 k hk]
      have hp := d2 (D - 1 - k) (by omega)
      have hlt : ∀ j, j ≤ D → tpI (τ 198) (X.1.length - 1) j < X.1.length := by
        intro j
        have hN6 := g2.1
        induction j with
        | zero => intro _; show X.1.length - 1 < X.1.length; omega
        | succ j ih =>
          intro hj
          have ih := ih (by omega)
          obtain ⟨j', mv, j1, j2, -⟩ := (g9.2 _ ih).2.2 (d2 j (by omega))
          show fN (τ 198 (tpI (τ 198) (X.1.length - 1) j)) < X.1.length
          rw [(g3 _ ih).2.1, j2, fN_nI (by omega)]
          omega
      have hlt := hlt (D - 1 - k) (by omega)
      obtain ⟨j, mv, j1, j2, j3, j4⟩ := (g9.2 _ hlt).2.2 hp
      exact ⟨mv, j4.1, (g3 _ hlt).2.2.trans j3⟩
/-- what was found is alike -/
theorem aF_of {σ τ ω : kS} {n R S C mm : Nat} {kl : List Nat} {X : sX} (hX : cX σ τ n R S C X mm) (hs : seY τ ω n R S C kl X) (hl : ∀ c, c < 232 → ω c = τ c) : aF ω n R S := by
  obtain ⟨-, -, -, -, -, -, ⟨s1, s2, s3, s4⟩, s5, s6⟩ := hs
  obtain ⟨-, g2, g3, ⟨w1, w2, w3, w4, w5, w6⟩, -, -, -, g9, g10⟩ := hX
  have l195 := hl 195 (by decide)
  have l196 := hl 196 (by decide)
  have hN6 := g2.1
  unfold aF
  rw [l195, l196, hl 203 (by decide), hl 197 (by decide)]
  by_cases q : X.2.2.2 = 0 ∨ X.2.2.2 = -7
  · have e1 := g10.1 q
    refine ⟨g2.2.1.trans s1.symm, w3.trans s3.symm, w5.trans s4.symm, ?_, ⟨X.1.length, s2, s1⟩, fun z => absurd e1 z⟩
    rw [e1, s5 q]
    rfl
  · have q1 : X.2.2.2 ≠ 0 := fun z => q (Or.inl z)
    have q2 : X.2.2.2 ≠ -7 := fun z => q (Or.inr z)
    obtain ⟨hN, D, d1, d2, d3, d4, d5⟩ := g10.2 q1 q2
    obtain ⟨as, -, a2, a3, a4, a5, a6, a7⟩ := s6 q1 q2
    obtain ⟨b1, b2, b3, b4⟩ := a7 (τ 198) (fun i _ hi => (g3 i hi).2.1)
    have hD : D = as.length := by
      rcases Nat.lt_trichotomy D as.length with z | z | z
      · have := b1 D z
        omega
      · exact z
      · have := d2 as.length z
        omega
    subst hD
    refine ⟨g2.2.1.trans s1.symm, w3.trans s3.symm, w5.trans s4.symm, ?_, ⟨X.1.length, s2, s1⟩, fun _ => ⟨as, X.1.length, hN, s2, s1, a2, a3, a4, fun k hk => ?_, a5, fun i hi => ?_⟩⟩
    · rw [d4, a3]
      exact nnI_nI (by omega)
    · rw [d5 k hk, (g3 _ (b3 (as.length - 1 - k) (by omega))).2.2]
      exact b4 k hk
    · obtain ⟨st, t1, t2, t3⟩ := a6 i hi
      refine ⟨st, t1, t2, fun k hk => ?_⟩
      have hsS := (a5 _ (List.getElem_mem hi)).1
      rw [t3 k hk, aV_at _ hk, ← (g3 (X.1.length - 1) (by omega)).1]
      have : stF τ 197 (28 * (X.1.length - 1)) S (7 * as[i] + 1 + k) = τ 197 (28 * (X.1.length - 1) + 7 * as[i] + 1 + k) := by
        unfold stF
        rw [if_pos (by omega), show 28 * (X.1.length - 1) + (7 * as[i] + 1 + k) = 28 * (X.1.length - 1) + 7 * as[i] + 1 + k by omega]
      rw [this]
theorem aJ_search {σ τ ω : kS} {n b R S C m mm : Nat} {kl : List Nat} {X : sX} (h : aJ σ n b R S C kl m) (hX : cX σ τ n R S C X mm) (hmm : m ≤ mm) (hs : seY τ ω n R S C kl X) : bJ mm ω := by
  have hrl : ∀ c ∈ rowC, 232 ≤ c := by decide
  have hsl : ∀ c ∈ srX, 232 ≤ c := by decide
  have hl : ∀ c, c < 232 → ω c = τ c := fun c hc => hs.2.1 c (fun z => by have := hrl c z; omega) (fun z => by have := hsl c z; omega) (by omega) (by omega) (by omega) (by omega)
  have hF := aF_of hX hs hl
  obtain ⟨⟨b', hI⟩, s2, s3, s4, s5, s6, s7, -⟩ := hs
  have hG := hX.1
  have hi := sF_hi hG.1
  have hlo : ∀ c, 7 ≤ c → c < 195 → ω c = σ c := fun c c1 c2 => (hl c (by omega)).trans (sF_lo hG.1 c c1 c2)
  have hh : ∀ l : List Nat, l.all (fun c => decide (232 < c ∧ c ∉ rowC ∧ c ∉ srX ∧ c ≠ 290 ∧ c ≠ 291 ∧ c ≠ 288 ∧ c ≠ 289)) = true → eqC σ ω l := eqC_of (fun c q => (s2 c q.2.1 q.2.2.1 q.2.2.2.1 q.2.2.2.2.1 q.2.2.2.2.2.1 q.2.2.2.2.2.2).trans (hi c (by omega)))
  have hk : ∀ u, u < 200 → ω 233 u = σ 233 u ∧ ω 234 u = σ 234 u ∧ ω 235 u = σ 235 u := fun u hu => by
    have := s6 u hu
    rw [hi 233 (by decide), hi 234 (by decide), hi 235 (by decide)] at this
    exact this
  have hJ := cJ_cX h hX
  obtain ⟨i1, i2, i3, i4, i5, i6, i7⟩ := id h.1
  have hn := i1.1
  have hR4 := i2.1
  have hS4 := i3.1
  obtain ⟨-, -, hA, aR', aS', aC', aK', aU', -, m1, m2, m3, hm1, -, -, hM1, -, -⟩ := id h
  have er := hh [244, 245, 246, 247, 248, 249, 250, 240, 241, 238, 239, 255, 256, 274, 257, 258, 259, 260, 261, 262, 263] (by decide)
  have hro : ∀ r, roO σ ω r := fun r => by
    unfold roO
    rw [er 244 (by decide), er 245 (by decide), er 246 (by decide), er 247 (by decide), er 248 (by decide), er 249 (by decide), er 250 (by decide)]
    exact ⟨rfl, rfl, rfl, fun k _ => ⟨rfl, rfl, rfl, rfl⟩⟩
  have hsg := fun t (ht : t < n) => mTb_sg i1 hI.1 (Nat.le_refl n) (fun u hu => hk u (by omega)) ht
  have hruns : ω 232 52 = σ 232 52 := (s5 _ (by decide) (by decide) (by decide)).trans (by rw [hi 232 (by decide)])
  have hdid : ω 232 55 = σ 232 55 := (s5 _ (by decide) (by decide) (by decide)).trans (by rw [hi 232 (by decide)])
  have hval : ∀ s k, s < S → k < 6 → ω 265 (6 * s + k) = σ 265 (6 * s + k) := fun s k hs' hk' => by rw [s4 (6 * s + k) (by omega), hi 265 (by decide)]
  have hdo : ∀ s, s < S → ω 264 s = σ 264 s := fun s hs' => by rw [s3 s (by omega), hi 264 (by decide)]
  have eN : ∀ z, z < 776 → ω 2 z = σ 2 z ∧ ω 3 z = σ 3 z ∧ ω 4 z = σ 4 z ∧ ω 5 z = σ 5 z ∧ ω 6 z = σ 6 z := fun z hz => by
    obtain ⟨a1, a2, a3, a4⟩ := hG.1.2 z hz
    rw [hl 2 (by decide), hl 3 (by decide), hl 4 (by decide), hl 5 (by decide), hl 6 (by decide)]
    exact ⟨a1, a2, a3, hG.2.1 z hz, a4⟩
  refine ⟨n, b', R, S, C, kl, hI, cJ_low hl hJ, ⟨fun t ht => ?_, ?_⟩, fun r hr => fR_aR1 i1 i2 ⟨hro r, fun u hu => ⟨(hk u (by omega)).1, (hk u (by omega)).2.1, (hk u (by omega)).2.2, by rw [er 240 (by decide)], by rw [er 241 (by decide)]⟩, fun c c1 c2 => hlo c (by omega) (by omega)⟩ hr (aR' r hr), fun s hs' => fS_aS1 hn i2 i3 hs' ⟨by rw [er 255 (by decide)], fun k _ => by rw [er 256 (by decide)], hro _, fun u _ => by rw [er 238 (by decide)], by rw [hlo 15 (by decide) (by decide)], by rw [hlo 16 (by decide) (by decide)], fun k _ => by rw [hlo 17 (by decide) (by decide)]⟩ (aS' s hs'), fun c hc => fC_aC1 i5 hc ⟨by rw [er 257 (by decide)], by rw [er 258 (by decide)], by rw [er 259 (by decide)], by rw [er 260 (by decide)], by rw [er 261 (by decide)], fun i _ => ⟨by rw [er 262 (by decide)], by rw [er 263 (by decide)]⟩, fun j hj => hlo _ (by omega) (by have := i5.1; omega)⟩ (aC' c hc), aK_eq (by rw [hlo 13 (by decide) (by decide)]) (hlo _ (by decide) (by decide)) aK', ?_, hF, ?_⟩
  · have h1 := hA.1 t ht
    obtain ⟨a1, a2, a3, a4, -⟩ := eN t (by omega)
    obtain ⟨k1, k2, k3⟩ := hk t (by omega)
    obtain ⟨z1, z2⟩ := hsg t ht
    unfold aT1 at h1 ⊢
    rw [a1, a2, a3, a4, k1, k2, k3, z1, z2, hlo 8 (by decide) (by decide), hlo 9 (by decide) (by decide), hlo 10 (by decide) (by decide), hlo 11 (by decide) (by decide), hlo 12 (by decide) (by decide), er 238 (by decide), er 239 (by decide), er 240 (by decide), er 241 (by decide)]
    exact h1
  · have := cCn_sF hn hG.1 hA.2
    unfold cCn cpt at this ⊢
    rw [hl 2 (by decide), hl 3 (by decide), hl 4 (by decide), hl 7 (by decide), hl 6 (by decide)]
    exact this
  · unfold aU at aU' ⊢
    rw [hlo 181 (by decide) (by decide), hlo 17 (by decide) (by decide), hlo 183 (by decide) (by decide), hlo 182 (by decide) (by decide), hruns, hdid, er 274 (by decide)]
    refine ⟨aU'.1, fun q => ?_⟩
    obtain ⟨g1, g2, g3, g5, g4⟩ := aU'.2 q
    refine ⟨g1, g2, fun s hs' => ⟨by rw [hdo s hs']; exact (g3 s hs').1, fun k hk' => by rw [hval s k hs' hk']; exact (g3 s hs').2 k hk'⟩, g5, fun hg => ?_⟩
    obtain ⟨ds, d1, d2, d4, d5, d3⟩ := g4 hg
    refine ⟨ds, d1, d2, d4, d5, ?_⟩
    rcases i6 with i6 | ⟨-, ds', p1, -⟩
    · exact absurd i6 q
    · have e : ds' = ds := lst_inj (mRn_len i2 i3.1 p1) d4 (fun s hs => by have := p1.2.2.1 s hs; omega) (fun s hs => by have := d5 s hs; omega) (p1.1.symm.trans d1) p1.2.1 d2
      subst e
      rw [trRun_cg i1 i2 i4 p1 hk (hh _ (by decide)) hval]
      exact kOk_ot d3 (fun u hu => ⟨fun z hz => eN z (by unfold kV at hz; omega), hlo _ (by decide) (by decide), fun c c1 c2 => hlo c (by omega) (by omega), mA_cg hk, er _ (by decide)⟩)
  · obtain ⟨m2', x1, x2⟩ := hX.2.2.2.2.2.1
    obtain ⟨u, m3', l, y1, y2⟩ := hX.2.2.2.2.2.2.1
    exact ⟨m1, m2', m3', by omega, x1, y1, kMs_eq (fun c c1 c2 => hlo c (by omega) (by omega)) hM1, kMs_eq (fun c c1 c2 => hl c (by omega)) x2, kMs_eq (fun c c1 c2 => hl c (by omega)) y2.2.2.2.2.2.1⟩
set_option maxRecDepth 100000 in
set_option maxHeartbeats 4000000 in
theorem bo_search (L : Nat) (xs : Nat → Int32) (d d' m : Nat) (σ : kS) (h : bJ m σ) (hm : m < 2147470000) : kXM kT L xs (d + 58) 132 [.ref 0] σ (fun r τ => ∃ z, r = some (.int z) ∧ kXM kT L xs (d' + 11) 220 [.ref 232] τ (fun r' ω => r' = some (.int z) ∧ bJ (m + 2401) ω)) := by
  obtain ⟨n, b, R, S, C, kl, h⟩ := h
  obtain ⟨ok0, ok1⟩ := a0_ok h
  refine kXM_mono (mX_search L xs d σ n b R S C m kl h hm _ rfl) ?_
  rintro r τ ⟨rfl, hX⟩
  refine ⟨_, rfl, ?_⟩
  have hi := sF_hi hX.1.1
  refine kXM_mono (mY_search L xs d' τ n b R S C kl (mI_hi hi h.1) (stF σ 17 0 S) (aOk_hi hi ok0) ok1 (fun s k hs hk => ?_) _ (sSr_c (eqC_of (P := fun c => 232 ≤ c) (fun c hc => hi c hc) _ (by decide))).symm) ?_
  · rw [hi 244 (by decide), hi 255 (by decide), hi 256 (by decide), aV_at _ hk]
    have : stF σ 17 0 S (7 * s + 1 + k) = σ 17 (7 * s + 1 + k) := by
      unfold stF
      rw [if_pos (by omega), Nat.zero_add]
    rw [this]
    exact (h.2.2.2.2.1 s hs).2.2.1 k hk
  · rintro r ω ⟨rfl, hs⟩
    exact ⟨rfl, aJ_search h hX (by omega) hs⟩
end
