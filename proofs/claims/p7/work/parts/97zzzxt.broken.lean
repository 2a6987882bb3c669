/-! alike: broken -/
theorem wsL_R {σ : kS} {c : Nat} : ∀ m s, wsL σ c s ++ wsR (mWt σ c) m s = wsL σ c (s + m)
  | 0, s => by
    unfold wsR
    rw [List.append_nil, Nat.add_zero]
  | m + 1, s => by
    have e : wsL σ c (s + 1) = cit (mWt σ c s) (wsL σ c s ++ [s]) (wsL σ c s) := rfl
    have e2 : wsR (mWt σ c) (m + 1) s = cit (mWt σ c s) (s :: wsR (mWt σ c) m (s + 1)) (wsR (mWt σ c) m (s + 1)) := rfl
    rw [show s + (m + 1) = s + 1 + m by omega, ← wsL_R m (s + 1), e, e2]
    by_cases h : mWt σ c s
    · rw [cit_T h, cit_T h, List.append_assoc]
      rfl
    · rw [cit_F h, cit_F h]
theorem wsR_congr {W W' : Nat → Prop} : ∀ m s, (∀ u, s ≤ u → u < s + m → (W u ↔ W' u)) → wsR W m s = wsR W' m s
  | 0, s, _ => rfl
  | m + 1, s, h => by
    unfold wsR
    rw [wsR_congr m (s + 1) (fun u h1 h2 => h u (by omega) (by omega)), cit_iff (h s (Nat.le_refl _) (by omega))]
theorem wsR_lt {W : Nat → Prop} : ∀ m s, ∀ u ∈ wsR W m s, s ≤ u ∧ u < s + m
  | 0, s, u, hu => absurd hu List.not_mem_nil
  | m + 1, s, u, hu => by
    unfold wsR at hu
    by_cases h : W s
    · rw [cit_T h] at hu
      rcases List.mem_cons.mp hu with e | e
      · omega
      · have := wsR_lt m (s + 1) u e
        omega
    · rw [cit_F h] at hu
      have := wsR_lt m (s + 1) u hu
      omega
theorem cPl_congr {F F' : Nat → Nat → Prop} {S : Nat} : ∀ (ws : List Nat) (w : Nat), (∀ s ∈ ws, ∀ p, p < S → p ≠ s → (F s p ↔ F' s p)) → (cPl F S ws w ↔ cPl F' S ws w)
  | [], _, _ => Iff.rfl
  | s :: ws, w, h => by
    unfold cPl
    refine exists_congr (fun p => and_congr_right (fun h1 => and_congr_right (fun h2 => and_congr_right (fun _ => and_congr (h s (by simp) p h1 h2) ?_))))
    exact cPl_congr ws (orb w p) (fun s hs => h s (List.mem_cons_of_mem _ hs))
/-- partners, counted through -/
theorem cPl_code {σ : kS} {c S : Nat} (hS : S ≤ 4) (ws : List Nat) : cPl (mFit σ c) S ws 0 ↔ ∃ code, code < 4 ^ ws.length ∧ mOkc σ c S ws code := by
  rw [cPl_ps hS ws 0 (by decide)]
  refine ⟨fun ⟨ps, h1, h2, h3⟩ => ?_, fun ⟨code, c1, c2⟩ => ?_⟩
  · obtain ⟨code, c1, c2⟩ := ps_code ps (fun p hp => by
      obtain ⟨k, hk, rfl⟩ := List.getElem_of_mem hp
      have := (h3 k hk (by omega)).1
      omega)
    refine ⟨code, h1 ▸ c1, fun k hk => ?_⟩
    have hk' : k < ps.length := by omega
    obtain ⟨a1, -, -, a4⟩ := h3 k hk' hk
    unfold mP1
    rw [c2 k hk']
    refine ⟨a1, fun i hi => ?_, ?_⟩
    · rw [c2 i (by omega)]
      exact (List.pairwise_iff_getElem.mp h2) i k (by omega) hk' hi
    · rw [List.getD_eq_getElem?_getD, List.getElem?_eq_getElem hk]
      exact a4
  · refine ⟨(List.range ws.length).map (dig code), by simp, ?_, fun k hk hk' => ?_⟩
    · rw [List.pairwise_iff_getElem]
      intro i j hi hj hij
      simp only [List.length_map, List.length_range] at hi hj
      simp only [List.getElem_map, List.getElem_range]
      exact (c2 j hj).2.1 i hij
    · simp only [List.getElem_map, List.getElem_range]
      obtain ⟨a1, -, a3⟩ := c2 k hk'
      rw [List.getD_eq_getElem?_getD, List.getElem?_eq_getElem hk'] at a3
      exact ⟨a1, fun e => a3.1.1 e.symm, by rw [Nat.zero_div], a3⟩
theorem cPn_code {σ : kS} {c S : Nat} (hS : S ≤ 4) : cPn (mWt σ c) (mFit σ c) S S 0 0 ↔ ∃ code, code < 4 ^ (wsL σ c S).length ∧ mOkc σ c S (wsL σ c S) code := by
  have e : wsR (mWt σ c) S 0 = wsL σ c S := by
    have := wsL_R (σ := σ) (c := c) S 0
    rw [Nat.zero_add] at this
    exact this
  rw [cPn_l, e]
  exact cPl_code hS _
theorem cPn_congr {W W' : Nat → Prop} {F F' : Nat → Nat → Prop} {S : Nat} (hW : ∀ s, s < S → (W s ↔ W' s)) (hF : ∀ s p, s < S → p < S → p ≠ s → (F s p ↔ F' s p)) : cPn W F S S 0 0 ↔ cPn W' F' S S 0 0 := by
  rw [cPn_l, cPn_l, wsR_congr S 0 (fun u _ h2 => hW u (by omega))]
  exact cPl_congr _ _ (fun s hs p h1 h2 => hF s p (by have := wsR_lt S 0 s hs; omega) h1 h2)
/-- the cells A from base on hold the reference's state -/
def staV (σ : kS) (A base S : Nat) : Prop := ∀ s, s < S → σ A (base + 7 * s) = σ 264 s ∧ ∀ k, k < 6 → nnI (σ A (base + 7 * s + 1 + k)) = σ 265 (6 * s + k)
/-- the claim c is broken over the row tr -/
def mBt (σ : kS) (tr : trT) (c S : Nat) : Prop := (σ 257 c ≠ 0 ∧ ∃ s, s < S ∧ σ 255 s = σ 258 c ∧ ¬ σ 265 (6 * s + fN (σ 259 c)) < 0 ∧ mHo σ s ∧ trM σ tr (tvl (σ 233) (σ 234) (σ 235) (fN (σ 265 (6 * s + fN (σ 259 c)))))) ∨ (σ 257 c = 0 ∧ ¬ cPn (mWt σ c) (mFit σ c) S S 0 0)
theorem mSv_val {σ : kS} {n R S s k : Nat} (h : mSv σ n R S) (hs : s < S) (hk : k < 6) : σ 265 (6 * s + k) = -6 ∨ ∃ z, z < n ∧ σ 265 (6 * s + k) = nI z ∧ tgd (σ 233) (σ 234) (σ 235) z = true := by
  obtain ⟨r, -, -, -, -, h5, -⟩ := h.2 s hs
  rcases h5 k hk with q | ⟨z, z1, z2, z3, -⟩
  · exact Or.inl q.1
  · exact Or.inr ⟨z, z1, z2, z3⟩
theorem mBk_tr {σ τ : kS} {n b R S C c : Nat} {l : rwT} (h : mTb σ n b) (hF : mFr σ τ n) (hR : mRo σ n R) (hC : mCl σ R C) (hc : c < C) (hS4 : S ≤ 4) (hS : mSv σ n R S) : mBk τ l c S ↔ mBt σ (rwM τ l) c S := by
  have e := eqC_of (σ := σ) (ω := τ) hF.1 [255, 258, 259, 260, 264, 247, 265, 238, 246, 244, 257, 261, 262, 263] (by decide)
  have hn := h.1
  have hmH : mHo τ = mHo σ := by
    funext s
    unfold mHo
    rw [e 244 (by decide), e 255 (by decide), e 246 (by decide), e 238 (by decide), e 265 (by decide)]
  have hmW : mWt τ c = mWt σ c := by
    funext s
    unfold mWt
    rw [hmH, e 255 (by decide), e 258 (by decide), e 264 (by decide), e 247 (by decide)]
  have hmF : mFit τ c = mFit σ c := by
    funext s o
    unfold mFit mJn
    rw [e 255 (by decide), e 259 (by decide), e 260 (by decide), e 264 (by decide), e 265 (by decide), e 261 (by decide), e 263 (by decide), e 262 (by decide)]
  unfold mBk mBt
  rw [← cPn_code hS4, hmW, hmF, e 257 (by decide)]
  refine or_congr (and_congr_right (fun hsec => exists_congr (fun s => and_congr_right (fun hs => ?_)))) Iff.rfl
  unfold mLs
  rw [hmH, e 255 (by decide), e 258 (by decide), e 265 (by decide), e 259 (by decide)]
  refine and_congr_right (fun _ => and_congr_right (fun hv => and_congr_right (fun _ => ?_)))
  obtain ⟨bb, aa, nn, j, x1, x2, x3, x4, -⟩ := hC.2.2 c hc
  obtain ⟨⟨vv, vv6, vv2⟩, -⟩ := hR.2.2.1 bb x1
  have ha6 : aa < 6 := by
    have := x4 hsec
    rw [vv2, fN_nI (by omega)] at this
    omega
  have hfa : fN (σ 259 c) = aa := by rw [x3]; exact fN_nI (by omega)
  rw [hfa] at hv ⊢
  rcases mSv_val hS hs ha6 with q | ⟨z, z1, z2, z3⟩
  · rw [q] at hv
    exact absurd (by decide) hv
  · rw [z2, fN_nI (by omega), mMk_tr h hF z1]
    exact ⟨fun y => y.2, fun y => ⟨z3, y⟩⟩
/-- both sides break alike -/
theorem cBk_tr {σ : kS} {n b R S C c A base u m K st : Nat} {l : rwT} (h : mTb σ n b) (hR : mRo σ n R) (hSe : mSe σ n R S) (hC : mCl σ R C) (hc : c < C) (hS : mSv σ n R S) (aR' : aR σ R) (aS' : aS σ S) (aC' : aC σ C) (hA1 : ∀ t, t < n → aT1 σ t) (hv : staV σ A base S) (hV : ∀ s k, s < S → k < 6 → σ A (base + 7 * s + 1 + k) = -1 ∨ ∃ z, z < n ∧ σ A (base + 7 * s + 1 + k) = nI z ∧ kGd σ z) (hH : ∀ s, s < S → (mHo σ s ↔ hoF σ s)) (hE : iE σ K st n u m l) : cBk σ A base c n S l ↔ mBt σ (kTr σ l) c S := by
  have hn := h.1
  have hS4 := hSe.1
  have hR4 := hR.1
  have hcl := aC' c hc
  obtain ⟨bb, aa, nn, j, x1, x2, x3, x4, x5, x6, x7, x8, x9, x10⟩ := hC.2.2 c hc
  have hval : ∀ s k, s < S → k < 6 → (σ A (base + 7 * s + 1 + k) = -1 ∧ σ 265 (6 * s + k) = -6) ∨ ∃ z, z < n ∧ σ A (base + 7 * s + 1 + k) = nI z ∧ σ 265 (6 * s + k) = nI z := fun s k hs hk => by
    have e := (hv s hs).2 k hk
    rcases hV s k hs hk with q | ⟨z, z1, z2, -⟩
    · rw [q] at e
      exact Or.inl ⟨q, e.symm⟩
    · rw [z2, nnI_nI (by omega)] at e
      exact Or.inr ⟨z, z1, z2, e.symm⟩
  have hn6 : ∀ z : Nat, z < n → nI z ≠ -6 := fun z hz e => absurd (show nI z < 0 by rw [e]; decide) (nI_pos (by omega))
  have hsr : ∀ s, s < S → (σ 15 s = σ (163 + 3 * c) 1 ↔ σ 255 s = σ 258 c) := fun s hs => by
    rw [(aS' s hs).1, hcl.2.1]
  have hho : ∀ s, s < S → (σ 16 s ≠ 0 ↔ mHo σ s) := fun s hs => by
    rw [hH s hs]
    exact (aS' s hs).2.2.2
  unfold cBk mBt
  refine or_congr ?_ ?_
  · rw [hcl.1]
    refine and_congr_right (fun hsec => exists_congr (fun s => and_congr_right (fun hs => ?_)))
    obtain ⟨⟨vv, vv6, vv2⟩, -⟩ := hR.2.2.1 bb x1
    have ha6 : aa < 6 := by
      have := x4 hsec
      rw [vv2, fN_nI (by omega)] at this
      omega
    have hfa : fN (σ 259 c) = aa := by rw [x3]; exact fN_nI (by omega)
    have hfc : fN (σ (163 + 3 * c) 3) = aa := by rw [hcl.2.2.1 hsec]; exact hfa
    unfold cLs
    rw [hsr s hs, hho s hs, hfa, hfc]
    rcases hval s aa hs ha6 with ⟨q1, q2⟩ | ⟨z, z1, z2, z3⟩
    · refine ⟨fun ⟨_, z, z1, z2, _⟩ => ?_, fun ⟨_, y, _⟩ => ?_⟩
      · rw [q1] at z2
        exact absurd z2.symm (nI_m1 (by omega))
      · rw [q2] at y
        exact absurd (by decide) y
    · have hkm : kMk σ l z ↔ trM σ (kTr σ l) (tvl (σ 233) (σ 234) (σ 235) z) := by
        unfold kMk trM
        rw [aT_tv h hA1 z1, kTr_I]
      rw [z3, fN_nI (by omega)]
      refine ⟨fun ⟨y, w, w1, w2, w3⟩ => ?_, fun ⟨y1, _, y2, y3⟩ => ⟨⟨y1, y2⟩, z, z1, z2, hkm.mpr y3⟩⟩
      obtain rfl : z = w := nI_inj (z2.symm.trans w2)
      exact ⟨y.1, nI_pos (by omega), y.2, hkm.mp w3⟩
  · have hsz : σ (163 + 3 * c) 0 = 0 ↔ σ 257 c = 0 := by
      have := not_congr hcl.1
      simpa using this
    rw [hsz]
    refine and_congr_right (fun hsec => not_congr (cPn_congr (fun s hs => ?_) (fun s p hs hp hps => ?_)))
    · unfold cWn mWt
      rw [hsr s hs, hho s hs]
      refine ⟨fun ⟨⟨y1, y2⟩, y3⟩ => ⟨y1, ?_, y2⟩, fun ⟨y1, y2, y3⟩ => ⟨⟨y1, y3⟩, ?_⟩⟩
      · obtain ⟨r, r1, r2, r3, r4, -⟩ := hS.2 s hs
        have hrb : r = bb := nI_inj (r2.symm.trans (y1.trans x2))
        subst hrb
        obtain ⟨-, ev, ev6, ev2⟩ := hR.2.2.1 r r1
        unfold cHd at y3
        rw [(aS' s hs).1, r2, fN_nI (by omega), (aR' r r1).2.1, (hv s hs).1, r3, ev2] at y3
        rw [ev2, fN_nI (by omega)] at r4
        rw [x2, fN_nI (by omega), ev2, r3]
        have : ¬ fN (σ 264 s) < ev := fun z => y3 (by rw [Int32.lt_iff_toInt_lt, nI_toInt (by omega), nI_toInt (by omega)]; omega)
        congr 1
        omega
      · obtain ⟨r, r1, r2, r3, r4, -⟩ := hS.2 s hs
        have hrb : r = bb := nI_inj (r2.symm.trans (y1.trans x2))
        subst hrb
        unfold cHd
        rw [(aS' s hs).1, r2, fN_nI (by omega), (aR' r r1).2.1, (hv s hs).1, y2, x2, fN_nI (by omega)]
        exact fun z => Int32.lt_irrefl z
    · have hag := hcl.2.2.2.1 hsec
      have haR := x5 hsec
      unfold cFt mFit
      rw [(aS' p hp).1, hag.1, hag.2, (hv p hp).1, hcl.2.2.2.2.1, x9, fN_nI (by omega)]
      refine and_congr ⟨fun y => ⟨fun e => hps e.symm, y.1, Int32.not_lt.mp y.2⟩, fun y => ⟨y.2.1, Int32.not_lt.mpr y.2.2⟩⟩ (forall_congr' (fun k => forall_congr' (fun hk => ?_)))
      obtain ⟨bx, ay, q1, q2, q3, q4, q5⟩ := x10 k hk
      have hcj := hcl.2.2.2.2.2 k (by rw [x9, fN_nI (by omega)]; exact hk)
      obtain ⟨⟨v1, v16, v12⟩, -⟩ := hR.2.2.1 bb x1
      obtain ⟨⟨v2, v26, v22⟩, -⟩ := hR.2.2.1 aa haR
      rw [v12, fN_nI (by omega)] at q1
      rw [v22, fN_nI (by omega)] at q2
      unfold mJn
      rw [hcj.1, hcj.2, q4, q5, fN_nI (by omega), fN_nI (by omega)]
      rcases hval s bx hs (by omega) with ⟨a1, a2⟩ | ⟨z, z1, z2, z3⟩
      · rw [a1, a2]
        exact ⟨fun y => absurd rfl y.1, fun y => absurd (by decide) y.1⟩
      · rw [z2, z3]
        refine and_congr ⟨fun _ => nI_pos (by omega), fun _ => nI_m1 (by omega)⟩ ?_
        rcases hval p ay hp (by omega) with ⟨b1, b2⟩ | ⟨w, w1, w2, w3⟩
        · rw [b1, b2]
          exact ⟨fun y => absurd y (nI_m1 (by omega)), fun y => absurd y (hn6 z z1)⟩
        · rw [w2, w3]
