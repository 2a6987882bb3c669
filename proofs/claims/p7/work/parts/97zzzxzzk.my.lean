/-! alike: the reference in THE SEARCH -/
/-- the STATES, as the reference has them -/
def mSx (τ : kS) (S : Nat) (l : xT) : Prop := ∀ i, i < l.length → (∀ s, s < S → stD τ i s = aD (xq l i).1 s) ∧ (∀ s k, s < S → k < 6 → stV τ i (6 * s + k) = aV (xq l i).1 (6 * s + k)) ∧ τ 286 i = (xq l i).2.1 ∧ τ 287 i = (xq l i).2.2
def mY (σ τ : kS) (n R S : Nat) (x : sX) : Prop := mSf σ τ n ∧ (∃ b, mTb τ n b) ∧ mSs τ n R S x.1.length ∧ mSx τ S x.1 ∧ (τ 232 70 = nI x.2.1 ∧ x.2.1 ≤ 20001 ∧ τ 232 71 = nI x.2.2.1) ∧ xOk σ n R S x.1
/-- the answer, as the reference tells it -/
def rY (C : Nat) (x : sX) (r : Option Value) : Prop := (x.2.2.2 = 0 ∧ r = some (.int (-6))) ∨ (x.2.2.2 = -7 ∧ r = some (.int (-7))) ∨ ∃ c, c < C ∧ x.2.2.2 = nI (1 + c) ∧ r = some (.int (nI c)) ∧ 0 < x.1.length
/-- the STATE a stands in doing and value -/
def aSt (τ : kS) (S : Nat) (a : Nat → Int32) : Prop := (∀ s, s < S → τ 264 s = aD a s) ∧ ∀ s k, s < S → k < 6 → τ 265 (6 * s + k) = aV a (6 * s + k)
/-- the row is tr -/
def rwY (τ : kS) (n : Nat) (tr : trT) : Prop := ∃ b l, b ≤ 776 ∧ mTb τ n b ∧ mRq τ (mvG τ n b) l ∧ mJd τ n b l ∧ rwM τ l = tr
theorem nnI_cs {n z : Nat} {x : Int32} (hn : n ≤ 200) (h : x = -1 ∨ ∃ z, z < n ∧ x = nI z) : (x = -1 ∧ nnI x = -6) ∨ ∃ z, z < n ∧ x = nI z ∧ nnI x = nI z := by
  rcases h with q | ⟨z, z1, z2⟩
  · refine Or.inl ⟨q, ?_⟩
    rw [q]
    rfl
  · refine Or.inr ⟨z, z1, z2, ?_⟩
    rw [z2]
    exact nnI_nI (by omega)
theorem aOk_eq {σ : kS} {n R S : Nat} {a a' : Nat → Int32} (hn : n ≤ 200) (h : aOk σ n R S a) (h' : aOk σ n R S a') : a = a' ↔ ∀ s, s < S → aD a s = aD a' s ∧ ∀ k, k < 6 → aV a (6 * s + k) = aV a' (6 * s + k) := by
  refine ⟨fun e s _ => by rw [e]; exact ⟨rfl, fun _ _ => rfl⟩, fun e => ?_⟩
  funext i
  by_cases hi : i < 7 * S
  · have hs : i / 7 < S := by omega
    by_cases q : i % 7 = 0
    · have := (e (i / 7) hs).1
      unfold aD at this
      rw [show 7 * (i / 7) = i by omega] at this
      exact this
    · have := (e (i / 7) hs).2 (i % 7 - 1) (by omega)
      rw [aV_at _ (by omega), aV_at _ (by omega), show 7 * (i / 7) + 1 + (i % 7 - 1) = i by omega] at this
      have c1 := h.2.2 (i / 7) (i % 7 - 1) hs (by omega)
      have c2 := h'.2.2 (i / 7) (i % 7 - 1) hs (by omega)
      rw [show 7 * (i / 7) + 1 + (i % 7 - 1) = i by omega] at c1 c2
      rcases nnI_cs (z := 0) hn c1 with ⟨q1, q2⟩ | ⟨z, z1, z2, z3⟩ <;> rcases nnI_cs (z := 0) hn c2 with ⟨p1, p2⟩ | ⟨w, w1, w2, w3⟩
      · rw [q1, p1]
      · rw [q2, w3] at this
        exact absurd (show nI w < 0 by rw [← this]; decide) (nI_pos (by omega))
      · rw [z3, p2] at this
        exact absurd (show nI z < 0 by rw [this]; decide) (nI_pos (by omega))
      · rw [z3, w3] at this
        rw [z2, w2, this]
  · rw [h.1 i (by omega), h'.1 i (by omega)]
theorem mSf_eqC {σ τ : kS} {n : Nat} {a : Nat → Int32} (h : mSf σ τ n) : eqC (stI σ a) τ sxC := eqC_of (P := fun c => c ∉ rowC ∧ c ∉ srX ∧ c ≠ 264 ∧ c ≠ 265) (fun c q => by rw [stI_lo σ a q.2.2.1 q.2.2.2]; exact h.1 c q.1 q.2.1) _ (by decide)
/-- the row of the STATE that stands -/
theorem tr_st {σ τ : kS} {n b R S C : Nat} {kl : List Nat} {a : Nat → Int32} (hT : mTb σ n b) (hB : mBs σ n R S C kl) (hF : mSf σ τ n) (ha : aOk σ n R S a) (hs : aSt τ S a) : trSt τ kl S = trSt (stI σ a) kl S := trSt_cg (σ := stI σ a) (b := b) hT hB.1 hB.2.2.1 (aOk_Sv hT hB.1 hB.2.1 ha) hF.2.2 (mSf_eqC hF) (fun s h => Or.inl (hs.1 s h)) (fun s k h1 h2 _ => hs.2 s k h1 h2)
theorem mBt_st {σ τ : kS} {n b R S C c : Nat} {kl : List Nat} {tr : trT} {a : Nat → Int32} (hT : mTb σ n b) (hB : mBs σ n R S C kl) (hF : mSf σ τ n) (ha : aOk σ n R S a) (hs : aSt τ S a) (hc : c < C) : mBt τ tr c S ↔ mBt (stI σ a) tr c S := mBt_cg (σ := stI σ a) (b := b) (R := R) (C := C) hT hB.1 hB.2.2.2 hc (aOk_Sv hT hB.1 hB.2.1 ha) hF.2.2 (mSf_eqC hF) (fun s h => hs.1 s h) (fun s k h1 h2 => hs.2 s k h1 h2)
theorem cfg_st {σ τ : kS} {n b R S : Nat} {a : Nat → Int32} (hT : mTb σ n b) (hR : mRo σ n R) (hF : mSf σ τ n) (ha : aOk σ n R S a) (hs : aSt τ S a) : cfg τ n R S (τ 264) (τ 265) := cfg_sf hT hR hF (cfg_ext hs.1 hs.2 ha.2.1)
set_option maxRecDepth 100000 in
set_option maxHeartbeats 4000000 in
theorem mY_comes (L : Nat) (xs : Nat → Int32) (d : Nat) (σ τ : kS) (n b R S C : Nat) (kl : List Nat) (x : sX) (a : Nat → Int32) (f y : Int32) (hT : mTb σ n b) (hB : mBs σ n R S C kl) (hY : mY σ τ n R S x) (ha : aOk σ n R S a) (hs : aSt τ S a) (han : x.2.2.2 = 0) (hp : (x.1.length = 0 ∧ ∀ s, s < S → a (7 * s) = 0) ∨ ∃ j mv, j < x.1.length ∧ f = nI j ∧ y = nI mv ∧ stp S (aD (xq x.1 j).1) (aV (xq x.1 j).1) (aD a) (aV a) mv) :
    kXM kT L xs (d + 8) 213 [.ref 232, .int f, .int y] τ (fun r ω => mY σ ω n R S (sRe σ kl S C x a f y) ∧ rY C (sRe σ kl S C x a f y) r ∧ ω 264 = τ 264 ∧ ω 265 = τ 265 ∧ ω 292 = τ 292 ∧ ω 293 = τ 293) := by
  obtain ⟨hF, ⟨b1, hT1⟩, hSs, hSx, ⟨w1, w2, w3⟩, hok⟩ := id hY
  have hB1 := mBs_sf hT hF hB
  have hn := hT.1
  have hS4 := hB.2.1.1
  have hC6 : C ≤ 6 := hB.2.2.2.1
  have hcf := cfg_st hT hB.1 hF ha hs
  have hlink : (x.1.length = 0 ∧ ∀ s, s < S → τ 264 s = 0) ∨ ∃ j m, j < x.1.length ∧ f = nI j ∧ y = nI m ∧ stp S (stD τ j) (stV τ j) (τ 264) (τ 265) m := by
    rcases hp with ⟨q1, q2⟩ | ⟨j, mv, q1, q2, q3, q4⟩
    · exact Or.inl ⟨q1, fun s h => (hs.1 s h).trans (q2 s h)⟩
    · exact Or.inr ⟨j, mv, q1, q2, q3, stp_ext (hSx j q1).1 (hSx j q1).2.1 hs.1 hs.2 q4⟩
  have hin : (∃ i, i < x.1.length ∧ smS τ S i) ↔ ∃ q ∈ x.1, q.1 = a := by
    rw [xq_mem]
    refine exists_congr (fun i => and_congr_right (fun hi => ?_))
    rw [aOk_eq hn (hok.2 i hi).1 ha]
    refine forall_congr' (fun s => forall_congr' (fun h => ?_))
    unfold sm1
    have e1 := (hSx i hi).1 s h
    unfold stD at e1
    rw [e1, hs.1 s h]
    refine and_congr_right (fun _ => forall_congr' (fun k => forall_congr' (fun hk => ?_)))
    have e2 := (hSx i hi).2.1 s k h hk
    unfold stV at e2
    rw [show 24 * i + (6 * s + k) = 24 * i + 6 * s + k by omega] at e2
    rw [e2, hs.2 s k h hk]
  have hft : fsB (fun c => mBt τ (trSt τ kl S) c S) C 0 = fsB (fun c => mBt (stI σ a) (trSt (stI σ a) kl S) c S) C 0 := fsB_congr C 0 (fun c _ hc => by rw [tr_st hT hB hF ha hs]; exact mBt_st hT hB hF ha hs (by omega))
  have had : (∀ s, s < S → adN τ s) ↔ (∀ s, s < S → adN (stI σ a) s) := by
    refine forall_congr' (fun s => forall_congr' (fun h => ?_))
    unfold adN
    rw [hs.1 s h, hF.1 247 (by decide) (by decide), hF.1 255 (by decide) (by decide)]
    exact Iff.rfl
  refine kXM_mono (mf_comesToBe L xs d τ n b1 R S C x.1.length kl f y hT1 hB1 hSs hcf hlink) ?_
  rintro r ω ⟨hP, hq⟩
  rw [hin] at hq
  obtain ⟨N', n1, n2, -, p1, p2, p3, p4, p5, p6, p7, p8⟩ := hP
  rcases hq with ⟨q, rfl, rfl⟩ | ⟨q, qN, rfl, rfl⟩ | ⟨q, qN, hG⟩
  · have e : sRe σ kl S C x a f y = x := by
      unfold sRe
      rw [cit_T q]
    rw [e]
    exact ⟨hY, Or.inl ⟨han, rfl⟩, rfl, rfl, rfl, rfl⟩
  · have e : sRe σ kl S C x a f y = (x.1, x.2.1, x.2.2.1, -7) := by
      unfold sRe
      rw [cit_F q, cit_T (by omega)]
    rw [e]
    exact ⟨hY, Or.inr (Or.inl ⟨rfl, rfl⟩), rfl, rfl, rfl, rfl⟩
  · have e : sRe σ kl S C x a f y = (x.1 ++ [(a, f, y)], x.2.1, x.2.2.1 + cit (∀ s, s < S → adN (stI σ a) s) 1 0, fsB (fun c => mBt (stI σ a) (trSt (stI σ a) kl S) c S) C 0) := by
      unfold sRe
      rw [cit_F q, cit_F (by omega)]
    have hlen : (x.1 ++ [(a, f, y)]).length = x.1.length + 1 := by rw [List.length_append]; rfl
    obtain ⟨g1, g2, g3, g4, g5, g6, g7, g8⟩ := hG
    have hN' : N' = x.1.length + 1 := nI_inj (p3.2.1.symm.trans g2) (by have := p3.1; omega) (by omega)
    subst hN'
    rw [hft] at g1
    rw [isB_iff had] at g3
    rw [e]
    refine ⟨⟨mSf_trans hF p1, p2, ?_, fun i hi => ?_, ⟨?_, w2, ?_⟩, xOk_push hok qN ha hp⟩, ?_, p4, p5, p6, p7⟩
    · show mSs ω n R S (x.1 ++ [(a, f, y)]).length
      rw [hlen]
      exact p3
    · have hi : i < x.1.length + 1 := by rw [← hlen]; exact hi
      by_cases ee : i = x.1.length
      · subst ee
        show _ ∧ _ ∧ ω 286 x.1.length = (xq (x.1 ++ [(a, f, y)]) x.1.length).2.1 ∧ ω 287 x.1.length = (xq (x.1 ++ [(a, f, y)]) x.1.length).2.2
        rw [xq_eq]
        exact ⟨fun s h => (g7 s h).trans (hs.1 s h), fun s k h hk => (g8 s k h hk).trans (hs.2 s k h hk), by rw [g5, pk_us], by rw [g6, pk_us]⟩
      · have hi' : i < x.1.length := by omega
        show _ ∧ _ ∧ ω 286 i = (xq (x.1 ++ [(a, f, y)]) i).2.1 ∧ ω 287 i = (xq (x.1 ++ [(a, f, y)]) i).2.2
        rw [xq_lt hi']
        obtain ⟨c1, c2, c3, c4⟩ := hSx i hi'
        exact ⟨fun s h => ((p8 i hi').1 s h).trans (c1 s h), fun s k h hk => ((p8 i hi').2 s k h hk).trans (c2 s k h hk), by rw [g5, pk_un ee]; exact c3, by rw [g6, pk_un ee]; exact c4⟩
    · rw [g4 _ (by decide) (by decide) (by decide)]
      exact w1
    · rw [g3, w3]
      by_cases z : ∀ s, s < S → adN (stI σ a) s
      · rw [isB_T z, cit_T z]
        exact nI_1 _
      · rw [isB_F z, cit_F z, Nat.add_zero]
        exact Int32.add_zero _
    · rcases g1 with ⟨z1, z2⟩ | ⟨c, c1, c2, c3⟩
      · exact Or.inl ⟨z2, z1⟩
      · refine Or.inr (Or.inr ⟨c, c1, c3, c2, ?_⟩)
        show 0 < (x.1 ++ [(a, f, y)]).length
        omega
