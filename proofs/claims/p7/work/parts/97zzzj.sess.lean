/-! alike: session, the class's loop -/
/-- what VARIABLE k stands for at first -/
def ssV (σ : kS) (n r : Nat) (a b c : Int32) (k : Nat) : Int32 := if σ 246 (6 * r + k) = nI 0 then (if hma σ r 0 k = 0 then a else if hma σ r 0 k = 1 then b else c) else if σ 246 (6 * r + k) = nI 1 then nI (n + hma σ r 1 k) else -6
/-- kinds of the new ATOMS -/
def seN (σ : kS) (K : Nat → Int32) (n r v : Nat) : Prop := ∀ k, k < v → σ 246 (6 * r + k) = nI 1 → K (n + hma σ r 1 k) = σ 240 (fN (σ 245 (6 * r + k)))
theorem hma_at (σ : kS) (r : Nat) : ∀ v t, t < hma σ r 1 v → ∃ k, k < v ∧ σ 246 (6 * r + k) = nI 1 ∧ hma σ r 1 k = t
  | 0, t, h => absurd h (Nat.not_lt_zero t)
  | v + 1, t, h => by
    rw [hma] at h
    by_cases q : t < hma σ r 1 v
    · obtain ⟨k, k1, k2, k3⟩ := hma_at σ r v t q
      exact ⟨k, by omega, k2, k3⟩
    · by_cases e : σ 246 (6 * r + v) = nI 1
      · rw [if_pos e] at h
        exact ⟨v, by omega, e, by omega⟩
      · rw [if_neg e] at h
        omega
/-- what the class's loop has done -/
def nsF (σ τ : kS) (n n' S r vc v : Nat) (a b c ho : Int32) : Prop := n' = n + hma σ r 1 (min v vc) ∧
  (∀ t, t < n → τ 2 t = σ 2 t ∧ τ 3 t = σ 3 t ∧ τ 4 t = σ 4 t ∧ τ 5 t = σ 5 t ∧ τ 8 t = σ 8 t ∧ τ 9 t = σ 9 t ∧ τ 10 t = σ 10 t ∧ τ 11 t = σ 11 t ∧ τ 12 t = σ 12 t) ∧
  (∀ t, n ≤ t → t < n' → τ 3 t = -1 ∧ τ 4 t = -1 ∧ τ 5 t = 1 ∧ τ 8 t = 1) ∧ seN σ (τ 2) n r (min v vc) ∧ cCn τ n' ∧ τ 17 (7 * S) = 0 ∧ (∀ k, k < v → nnI (τ 17 (7 * S + 1 + k)) = if k < vc then ssV σ n r a b c k else -6) ∧ (ho ≠ 0 ↔ ∀ k, k < v → k < vc → σ 246 (6 * r + k) = 0 → σ 238 (fN (ssV σ n r a b c k)) ≠ 0)
theorem cnt_hma {σ : kS} {r v vc : Nat} (h : ∀ k, k < vc → σ (24 + 35 * r) k = σ 246 (6 * r + k)) (hv : v ≤ vc) : cnt (fun k => σ (24 + 35 * r) k = 0) v = hma σ r 0 v := by
  induction v with
  | zero => rfl
  | succ v ih =>
    rw [cnt, hma, ih (by omega)]
    by_cases q : σ (24 + 35 * r) v = 0
    · rw [if_pos q, if_pos (by rw [← h v (by omega)]; exact q)]
    · rw [if_neg q, if_neg (by rw [← h v (by omega)]; exact q)]
theorem nsF_step {σ τ τ2 : kS} {n n' n2 S r vc v : Nat} {a b c ho ho2 w : Int32} (h : nsF σ τ n n' S r vc v a b c ho) (hr : ∀ t, t < n' → τ2 2 t = τ 2 t ∧ τ2 3 t = τ 3 t ∧ τ2 4 t = τ 4 t ∧ τ2 5 t = τ 5 t ∧ τ2 8 t = τ 8 t ∧ τ2 9 t = τ 9 t ∧ τ2 10 t = τ 10 t ∧ τ2 11 t = τ 11 t ∧ τ2 12 t = τ 12 t) (hn2 : n2 = n + hma σ r 1 (min (v + 1) vc)) (hnew : ∀ t, n' ≤ t → t < n2 → τ2 3 t = -1 ∧ τ2 4 t = -1 ∧ τ2 5 t = 1 ∧ τ2 8 t = 1) (hK : v < vc → σ 246 (6 * r + v) = nI 1 → τ2 2 (n + hma σ r 1 v) = σ 240 (fN (σ 245 (6 * r + v)))) (hC : cCn τ2 n2) (eo : τ2 17 = τ 17) (hw : nnI w = if v < vc then ssV σ n r a b c v else -6) (hho : ho2 ≠ 0 ↔ ho ≠ 0 ∧ (v < vc → σ 246 (6 * r + v) = 0 → σ 238 (fN (ssV σ n r a b c v)) ≠ 0)) : nsF σ (va_up τ2 17 (upd (τ2 17) (7 * S + 1 + v) w)) n n2 S r vc (v + 1) a b c ho2 := by
  obtain ⟨h1, h2, h3, h4, h5, h6, h7, h8⟩ := h
  have hnn : n ≤ n' := by omega
  refine ⟨hn2, fun t ht => ?_, fun t t1 t2 => ?_, fun k hk ha => ?_, ?_, ?_, fun k hk => ?_, ?_⟩
  · obtain ⟨a1, a2, a3, a4, a5, a6, a7, a8, a9⟩ := hr t (by omega)
    obtain ⟨b1, b2, b3, b4, b5, b6, b7, b8, b9⟩ := h2 t ht
    exact ⟨a1.trans b1, a2.trans b2, a3.trans b3, a4.trans b4, a5.trans b5, a6.trans b6, a7.trans b7, a8.trans b8, a9.trans b9⟩
  · by_cases q : t < n'
    · obtain ⟨a1, a2, a3, a4, a5, -⟩ := hr t q
      obtain ⟨b1, b2, b3, b4⟩ := h3 t t1 q
      exact ⟨a2.trans b1, a3.trans b2, a4.trans b3, a5.trans b4⟩
    · exact hnew t (by omega) t2
  · show τ2 2 (n + hma σ r 1 k) = _
    by_cases e : k = v
    · subst e
      exact hK (by omega) ha
    · have hk2 : k < min v vc := by omega
      have hlt : hma σ r 1 k < hma σ r 1 (min v vc) := by
        have := hma_mono σ r 1 (show k + 1 ≤ min v vc by omega)
        rw [hma, if_pos ha] at this
        omega
      rw [(hr _ (by omega)).1]
      exact h4 k hk2 ha
  · unfold cCn cpt at hC ⊢
    exact hC
  · show upd (τ2 17) (7 * S + 1 + v) w (7 * S) = 0
    rw [pk_un (by omega), eo]
    exact h6
  · show nnI (upd (τ2 17) (7 * S + 1 + v) w (7 * S + 1 + k)) = _
    by_cases e : k = v
    · subst e
      rw [pk_us]
      exact hw
    · rw [pk_un (by omega), eo]
      exact h7 k (by omega)
  · rw [hho, h8]
    constructor
    · rintro ⟨q1, q2⟩ k hk
      by_cases e : k = v
      · subst e
        exact q2
      · exact q1 k (by omega)
    · intro q
      exact ⟨fun k hk => q k (by omega), q v (by omega)⟩
theorem rows_refl (τ : kS) (n' : Nat) : ∀ t, t < n' → τ 2 t = τ 2 t ∧ τ 3 t = τ 3 t ∧ τ 4 t = τ 4 t ∧ τ 5 t = τ 5 t ∧ τ 8 t = τ 8 t ∧ τ 9 t = τ 9 t ∧ τ 10 t = τ 10 t ∧ τ 11 t = τ 11 t ∧ τ 12 t = τ 12 t := fun _ _ => ⟨rfl, rfl, rfl, rfl, rfl, rfl, rfl, rfl, rfl⟩
set_option maxRecDepth 100000 in
set_option maxHeartbeats 4000000 in
theorem mf_nsLoop (L : Nat) (xs : Nat → Int32) (d : Nat) (σ : kS) (n R S C r vc : Nat) (a b c : Int32) (h : cJ σ n R S C) (hS : S < 4) (hr : r < R) (hv6 : vc ≤ 6) (hvc : σ (23 + 35 * r) 3 = nI vc) (hso : ∀ k, k < vc → ∃ so, so ≤ 3 ∧ σ (25 + 35 * r) k = nI so ∧ (σ (24 + 35 * r) k = 1 → so ≤ 2)) (hP : cnt (fun k => σ (24 + 35 * r) k = 0) vc ≤ 3) (ha : 1 ≤ cnt (fun k => σ (24 + 35 * r) k = 0) vc → gV σ n a) (hb : 2 ≤ cnt (fun k => σ (24 + 35 * r) k = 0) vc → gV σ n b) (hc : 3 ≤ cnt (fun k => σ (24 + 35 * r) k = 0) vc → gV σ n c) (hM : mRo σ n R) (hAr : aR σ R) (hAt : aT σ n) (hn200 : n + hma σ r 1 vc ≤ 200) (hga : ∀ i, i < hma σ r 0 vc → ∃ z, z < n ∧ (if i = 0 then a else if i = 1 then b else c) = nI z ∧ σ 233 z = nI 0) (Q : Option Value → kS → Prop)
    (he : ∀ τ n' (ho : Int32), (ho = 0 ∨ ho = 1) → nsI σ τ n n' S 6 → nsF σ τ n n' S r vc 6 a b c ho → kX kT L xs (d + 5) 14 197 [(8, .int ho), (0, .ref 13), (1, .int (nI r)), (5, .ref (23 + 35 * r))] [] τ Q) :
    ∀ q : Nat × kS × Nat × Int32, (q.1 ≤ 6 ∧ (q.2.2.2 = 0 ∨ q.2.2.2 = 1) ∧ nsI σ q.2.1 n q.2.2.1 S q.1 ∧ nsF σ q.2.1 n q.2.2.1 S r vc q.1 a b c q.2.2.2) → kX kT L xs (d + 5) 14 53 [(9, .int (nI q.1)), (8, .int q.2.2.2), (7, .int (nI (cnt (fun k => σ (24 + 35 * r) k = 0) (min q.1 vc)))), (6, .int (nI (S * 7))), (0, .ref 13), (1, .int (nI r)), (2, .int a), (3, .int b), (4, .int c), (5, .ref (23 + 35 * r))] [] q.2.1 Q := by
  have hR4 := h.2.1.1
  obtain ⟨ar1, ar2, ar3, ar4, ar5⟩ := hAr r hr
  have hvr : fN (σ 244 r) = vc := by rw [← ar1, hvc, fN_nI (by omega)]
  have h24 : ∀ k, k < vc → σ (24 + 35 * r) k = σ 246 (6 * r + k) := fun k hk => (ar4 k (by omega)).1
  have hr4 : r < 4 := by omega
  refine kX_while (fun q : Nat × kS × Nat × Int32 => [(9, .int (nI q.1)), (8, .int q.2.2.2), (7, .int (nI (cnt (fun k => σ (24 + 35 * r) k = 0) (min q.1 vc)))), (6, .int (nI (S * 7))), (0, .ref 13), (1, .int (nI r)), (2, .int a), (3, .int b), (4, .int c), (5, .ref (23 + 35 * r))]) (fun q => q.2.1) _ (fun q => 6 - q.1) ?_
  rintro ⟨v, τ, n', ho⟩ ⟨i1, i2, i3, i4⟩ ih
  dsimp only at i1 i2 i3 i4 ih ⊢
  have hT := i3.2.1
  have hn' := hT.1
  have e0 : τ (23 + 35 * r) = σ (23 + 35 * r) := nsI_c i3 (fun q => by have := tC_lt q; omega) (by omega)
  have e24 : τ (24 + 35 * r) = σ (24 + 35 * r) := nsI_c i3 (fun q => by have := tC_lt q; omega) (by omega)
  have e25 : τ (25 + 35 * r) = σ (25 + 35 * r) := nsI_c i3 (fun q => by have := tC_lt q; omega) (by omega)
  have hvc' : τ (23 + 35 * r) 3 = nI vc := by rw [e0]; exact hvc
  repeat refine kX_one rfl ?_
  refine kX_if (fun q => ?_) (fun q => ?_)
  · have q := qge q v 6
    obtain rfl : v = 6 := by omega
    exact kX_lv _ rfl rfl rfl (he τ n' ho i2 i3 i4)
  · have q := qgeF q v 6
    have k177 : ∀ τ2 n2 (ho2 w : Int32) p, (ho2 = 0 ∨ ho2 = 1) → nsI σ τ2 n n2 S v → (nsF σ (va_up τ2 17 (upd (τ2 17) (7 * S + 1 + v) w)) n n2 S r vc (v + 1) a b c ho2) → gV τ2 n2 w → p = cnt (fun k => σ (24 + 35 * r) k = 0) (min (v + 1) vc) → kX kT L xs (d + 5) 14 177 [(10, .int w), (9, .int (nI v)), (8, .int ho2), (7, .int (nI p)), (6, .int (nI (S * 7))), (0, .ref 13), (1, .int (nI r)), (2, .int a), (3, .int b), (4, .int c), (5, .ref (23 + 35 * r))] [] τ2 Q := by
      intro τ2 n2 ho2 w p ho3 j1 j0 j2 j3
      subst j3
      iterate 8 (refine kX_one rfl ?_)
      refine kX_iastN rfl rfl (by decide) (7 * S + 1 + v) (ixo S v) (by omega) ?_
      iterate 2 (refine kX_one rfl ?_)
      have := ih (v + 1, va_up τ2 17 (upd (τ2 17) (7 * S + 1 + v) w), n2, ho2) ⟨q, ho3, ⟨j1.1, ?_, ?_, fun j hj => ?_, fun k hk => ?_⟩, j0⟩ (by simp only; omega)
      · dsimp only at this
        rw [← nI_1] at this
        exact kX_lv _ rfl rfl rfl this
      · exact cT_eq rfl rfl (fun u _ => ⟨rfl, rfl, rfl, rfl, rfl, rfl⟩) j1.2.1
      · simp only
        have : va_up (va_up τ2 17 (upd (τ2 17) (7 * S + 1 + v) w)) 17 (σ 17) = va_up τ2 17 (σ 17) := kup_up _ _ _ _
        rw [this]
        exact j1.2.2.1
      · simp only
        rw [up_eq, pk_un (by omega)]
        exact j1.2.2.2.1 j hj
      · simp only at hk ⊢
        rw [up_eq]
        show gV τ2 n2 _
        by_cases e : k = v
        · subst e
          rw [pk_us]
          exact j2
        · rw [pk_un (by omega)]
          exact j1.2.2.2.2 k (by omega)
    iterate 4 (refine kX_one rfl ?_)
    refine kX_cal (mc_roHas L xs (d + 3) τ r vc (nI v) hr4 hv6 hvc') rfl (Or.inr rfl) rfl (jcall_v rfl rfl rfl (kT_ro hr4) rfl rfl) rfl (fun r1 σ1 q1 => ?_)
    obtain ⟨rfl, rfl⟩ := q1
    by_cases hvv : v < vc
    · rw [isB_T ⟨v, hvv, rfl⟩]
      have hmin : min v vc = v := by omega
      have hmin2 : min (v + 1) vc = v + 1 := by omega
      rw [hmin]
      rw [hmin2] at k177
      obtain ⟨so, so1, so2, so3⟩ := hso v hvv
      obtain ⟨tv, sv, asv, w1, w2, w3, w4, w5, w6, w7, w8, w9, w10, w11⟩ := hM.2.2.2.1 r v hr (by omega)
      have hsort : σ 240 (fN (σ 245 (6 * r + v))) = nI so := (ar4 v (by omega)).2.1.symm.trans so2
      have hstep : ∀ a, hma σ r a (v + 1) = hma σ r a v + if σ 246 (6 * r + v) = nI a then 1 else 0 := fun a => rfl
      have en' : n' = n + hma σ r 1 v := by rw [i4.1, hmin]
      have hcs : cnt (fun k => σ (24 + 35 * r) k = 0) (v + 1) ≤ cnt (fun k => σ (24 + 35 * r) k = 0) vc := cnt_mono2 hvv
      iterate 2 (refine kX_one rfl ?_)
      refine kX_getN rfl rfl (kT_ro hr4) rfl ?_
      iterate 1 (refine kX_one rfl ?_)
      refine kX_ialdN rfl (kT_ra hr4) (by decide) (v) (by first | rfl | decide) (q) ?_
      repeat refine kX_one rfl ?_
      refine kX_if (fun q2 => ?_) (fun q2 => ?_)
      · have q2 : σ (24 + 35 * r) v ≠ 0 := by
          have := qne q2
          rw [e24] at this
          exact this
        have hc0 : cnt (fun k => σ (24 + 35 * r) k = 0) v = cnt (fun k => σ (24 + 35 * r) k = 0) (v + 1) := by
          rw [cnt, if_neg q2]
          rfl
        rw [hc0]
        iterate 2 (refine kX_one rfl ?_)
        refine kX_cal (mc_roHas L xs (d + 3) τ r vc (nI v) hr4 hv6 hvc') rfl (Or.inr rfl) rfl (jcall_v rfl rfl rfl (kT_ro hr4) rfl rfl) rfl (fun r1 σ1 q1 => ?_)
        obtain ⟨rfl, rfl⟩ := q1
        rw [isB_T ⟨v, hvv, rfl⟩]
        iterate 2 (refine kX_one rfl ?_)
        refine kX_getN rfl rfl (kT_ro hr4) rfl ?_
        iterate 1 (refine kX_one rfl ?_)
        refine kX_ialdN rfl (kT_ra hr4) (by decide) (v) (by first | rfl | decide) (q) ?_
        iterate 1 (refine kX_one rfl ?_)
        repeat refine kX_one rfl ?_
        refine kX_if (fun q3 => ?_) (fun q3 => ?_)
        · have q3 : σ (24 + 35 * r) v ≠ 1 := by
            have := qne q3
            rw [e24] at this
            exact this
          rw [h24 v hvv] at q2 q3
          have hz0 : ¬ σ 246 (6 * r + v) = nI 0 := q2
          have hz1 : ¬ σ 246 (6 * r + v) = nI 1 := q3
          have e1 : hma σ r 1 (v + 1) = hma σ r 1 v := by rw [hstep, if_neg hz1, Nat.add_zero]
          refine kX_lv _ rfl rfl rfl (k177 τ n' ho (-1) _ i2 i3 (nsF_step i4 (rows_refl τ n') (by rw [hmin2, e1, en']) (fun t t1 t2 => by omega) (fun _ z => absurd z hz1) i4.2.2.2.2.1 rfl ?_ ⟨fun z => ⟨z, fun _ e => absurd e hz0⟩, fun z => z.1⟩) (Or.inl rfl) rfl)
          rw [if_pos hvv, ssV, if_neg hz0, if_neg hz1]
          rfl
        · have q3 : σ (24 + 35 * r) v = 1 := by
            have := qneF q3
            rw [e24] at this
            exact this
          iterate 3 (refine kX_one rfl ?_)
          refine kX_getN rfl rfl (kT_ro hr4) rfl ?_
          iterate 1 (refine kX_one rfl ?_)
          refine kX_ialdV rfl (kT_rs hr4) (by decide) (v) (by first | rfl | decide) (q) ((congrFun e25 v).trans so2) ?_
          iterate 1 (refine kX_one rfl ?_)
          have hz1 : σ 246 (6 * r + v) = nI 1 := (h24 v hvv).symm.trans q3
          have hz0 : ¬ σ 246 (6 * r + v) = nI 0 := fun z => absurd (z.symm.trans hz1) (by decide)
          have e1 : hma σ r 1 (v + 1) = hma σ r 1 v + 1 := by rw [hstep, if_pos hz1]
          have hlt : n' < 200 := by
            have := hma_mono σ r 1 (show v + 1 ≤ vc from hvv)
            omega
          refine kX_cal (mf_newAtom L xs d τ n' so 0 hT (so3 q3) (Or.inl rfl) hlt) rfl (Or.inr rfl) rfl rfl rfl (fun r1 τ2 q1 => ?_)
          obtain ⟨rfl, hτ2⟩ := q1
          obtain ⟨g1, g2⟩ := cT_at (k := so) (b := 0) hT hlt (so3 q3)
          rw [← hτ2] at g1 g2
          have g3 : τ2 8 n' = 1 := by rw [hτ2]; exact pk_us
          have hF2 : nsF σ (va_up τ2 17 (upd (τ2 17) (7 * S + 1 + v) (nI n'))) n (n' + 1) S r vc (v + 1) a b c ho := by
            refine nsF_step i4 (fun t ht => ?_) (by rw [hmin2, e1, en']; omega) (fun t t1 t2 => ?_) (fun _ _ => ?_) ?_ (g2.1 _ (by decide)) ?_ ⟨fun z => ⟨z, fun _ e => absurd e hz0⟩, fun z => z.1⟩
            · rw [hτ2]
              exact ⟨pk_un (by omega), pk_un (by omega), pk_un (by omega), pk_un (by omega), pk_un (by omega), (pk_un (by omega)).trans (pk_un (by omega)), rfl, rfl, rfl⟩
            · obtain rfl : t = n' := by omega
              rw [hτ2]
              exact ⟨pk_us, pk_us, pk_us, pk_us⟩
            · rw [hτ2, ← en', hsort]
              exact pk_us
            · rw [hτ2]
              exact cCn_0 (k := so) i4.2.2.2.2.1 (fun t ht => ⟨pk_un (by omega), pk_un (by omega), pk_un (by omega)⟩) pk_us so1 rfl rfl
            · rw [if_pos hvv, ssV, if_neg hz0, if_pos hz1, ← en']
              exact if_neg (nI_m1 (by omega))
          · iterate 1 (refine kX_one rfl ?_)
            refine kX_lv _ rfl rfl rfl (k177 τ2 (n' + 1) ho (nI n') _ i2 ⟨by have := i3.1; omega, g1, ?_, fun j hj => ?_, fun k hk => ?_⟩ hF2 (Or.inr ⟨n', by omega, rfl, g3⟩) rfl)
            · have hG := i3.2.2.1
              have h17 := g2.1 17 (by decide)
              refine ⟨fun c hc => ?_, fun u hu => ?_, fun g hg => ?_⟩
              · by_cases e : c = 17
                · subst e
                  rw [up_eq]
                · rw [up_ne e, g2.1 c hc]
                  have := hG.1 c hc
                  rw [up_ne e] at this
                  exact this
              · exact (g2.2.1 u (by have := i3.1; omega)).trans (hG.2.1 u hu)
              · have := hG.2.2 g hg
                have g4 := g2.2.2 g hg
                exact ⟨g4.1.trans this.1, g4.2.1.trans this.2.1, g4.2.2.1.trans this.2.2.1, g4.2.2.2.trans this.2.2.2⟩
            · rw [g2.1 17 (by decide)]
              exact i3.2.2.2.1 j hj
            · rw [g2.1 17 (by decide)]
              exact gV_up (by omega) g2.2.1 (i3.2.2.2.2 k hk)
      · have q2 : σ (24 + 35 * r) v = 0 := by
          have := qneF q2
          rw [e24] at this
          exact this
        have hc1 : cnt (fun k => σ (24 + 35 * r) k = 0) (v + 1) = cnt (fun k => σ (24 + 35 * r) k = 0) v + 1 := by
          rw [cnt, if_pos q2]
        have hz0 : σ 246 (6 * r + v) = nI 0 := (h24 v hvv).symm.trans q2
        have hz1 : ¬ σ 246 (6 * r + v) = nI 1 := fun z => absurd (hz0.symm.trans z) (by decide)
        have e1 : hma σ r 1 (v + 1) = hma σ r 1 v := by rw [hstep, if_neg hz1, Nat.add_zero]
        have ep : hma σ r 0 v = cnt (fun k => σ (24 + 35 * r) k = 0) v := (cnt_hma h24 (by omega)).symm
        have epv : hma σ r 0 v < hma σ r 0 vc := by
          have := hma_mono σ r 0 (show v + 1 ≤ vc from hvv)
          rw [hstep, if_pos hz0] at this
          omega
        obtain ⟨z0, z1, z2, z3⟩ := hga _ epv
        have hss : ssV σ n r a b c v = nI z0 := by
          rw [ssV, if_pos hz0]
          exact z2
        rw [ep] at z2
        rw [hc1] at k177 hcs
        generalize hp : cnt (fun k => σ (24 + 35 * r) k = 0) v = p at *
        have hgv : ∀ w, gV σ n w → gV τ n' w := fun w hw => gV_up i3.1 (fun z hz => i3.2.2.1.2.1 z hz) hw
        have k105 : ∀ w, w = nI z0 → gV σ n w → kX kT L xs (d + 5) 14 105 [(10, .int (-1)), (9, .int (nI v)), (8, .int ho), (7, .int (nI p)), (6, .int (nI (S * 7))), (0, .ref 13), (1, .int (nI r)), (2, .int a), (3, .int b), (4, .int c), (5, .ref (23 + 35 * r))] [.int w] τ Q := by
          intro w hwz hw
          have k129 : ∀ ho2 : Int32, (ho2 = 0 ∨ ho2 = 1) → (ho2 ≠ 0 ↔ ho ≠ 0 ∧ σ 238 z0 ≠ 0) → kX kT L xs (d + 5) 14 129 [(10, .int w), (9, .int (nI v)), (8, .int ho), (7, .int (nI p)), (6, .int (nI (S * 7))), (0, .ref 13), (1, .int (nI r)), (2, .int a), (3, .int b), (4, .int c), (5, .ref (23 + 35 * r))] [.int ho2] τ Q := by
            intro ho2 hh hhq
            iterate 3 (refine kX_one rfl ?_)
            have hF2 : nsF σ (va_up τ 17 (upd (τ 17) (7 * S + 1 + v) w)) n n' S r vc (v + 1) a b c ho2 := by
              refine nsF_step i4 (rows_refl τ n') (by rw [hmin2, e1, en']) (fun t t1 t2 => by omega) (fun _ z => absurd z hz1) i4.2.2.2.2.1 rfl ?_ ?_
              · rw [if_pos hvv, hss, hwz]
                exact if_neg (nI_m1 (by omega))
              · rw [hhq, hss, fN_nI (by omega)]
                exact ⟨fun z => ⟨z.1, fun _ _ => z.2⟩, fun z => ⟨z.1, z.2 hvv hz0⟩⟩
            have := k177 τ n' ho2 w (p + 1) hh i3 hF2 (hgv w hw) rfl
            rw [← nI_1] at this
            exact kX_lv _ rfl rfl rfl this
          iterate 2 (refine kX_one rfl ?_)
          repeat refine kX_one rfl ?_
          refine kX_if (fun q3 => ?_) (fun q3 => ?_)
          · have q3 := qeq q3
            iterate 1 (refine kX_one rfl ?_)
            exact kX_lv _ rfl rfl rfl (k129 0 (Or.inl rfl) ⟨fun z => absurd rfl z, fun z => absurd q3 z.1⟩)
          · have q3 := qeqF q3
            have hz200 : z0 < n' := by omega
            obtain ⟨r1, -, -, -, -, r6, -⟩ := i4.2.1 z0 z1
            have a1 := hAt.1 z0 z1
            have hhz : (∃ t, t < n' ∧ w = nI t ∧ τ 2 t = 0 ∧ τ 9 t ≠ 0) ↔ σ 238 z0 ≠ 0 := by
              constructor
              · rintro ⟨t, t1, t2, t3, t4⟩
                obtain rfl : z0 = t := nI_inj (hwz.symm.trans t2)
                rw [r6, a1.2.2.2.2.2.1 z3] at t4
                exact t4
              · intro z
                exact ⟨z0, hz200, hwz, by rw [r1, a1.1]; exact z3, by rw [r6, a1.2.2.2.2.2.1 z3]; exact z⟩
            iterate 3 (refine kX_one rfl ?_)
            refine kX_cal (mc_isHonest L xs (d + 1) τ n' w hn' hT.2.1) rfl (Or.inr rfl) rfl rfl rfl (fun r1 σ1 q1 => ?_)
            obtain ⟨rfl, rfl⟩ := q1
            repeat refine kX_one rfl ?_
            refine kX_if (fun q4 => ?_) (fun q4 => ?_)
            · have q4 : ¬ σ 238 z0 ≠ 0 := fun z => isB_ne.mpr (hhz.mpr z) (qeq q4)
              iterate 1 (refine kX_one rfl ?_)
              exact kX_lv _ rfl rfl rfl (k129 0 (Or.inl rfl) ⟨fun z => absurd rfl z, fun z => absurd z.2 q4⟩)
            · have q4 : σ 238 z0 ≠ 0 := hhz.mp (isB_ne.mp (qeqF q4))
              iterate 2 (refine kX_one rfl ?_)
              exact kX_lv _ rfl rfl rfl (k129 1 (Or.inr rfl) ⟨fun _ => ⟨q3, q4⟩, fun _ => by decide⟩)
        repeat refine kX_one rfl ?_
        refine kX_if (fun q3 => ?_) (fun q3 => ?_)
        · have q3 : p ≠ 0 := fun e => qne q3 (by rw [e]; rfl)
          repeat refine kX_one rfl ?_
          refine kX_if (fun q4 => ?_) (fun q4 => ?_)
          · have q4 : p ≠ 1 := fun e => qne q4 (by rw [e]; rfl)
            iterate 1 (refine kX_one rfl ?_)
            exact kX_lv _ rfl rfl rfl (k105 c (by rw [if_neg q3, if_neg q4] at z2; exact z2) (hc (by omega)))
          · have q4 : p = 1 := nI_inj (qneF q4)
            iterate 2 (refine kX_one rfl ?_)
            exact kX_lv _ rfl rfl rfl (k105 b (by rw [if_neg q3, if_pos q4] at z2; exact z2) (hb (by omega)))
        · have q3 : p = 0 := nI_inj (qneF q3)
          iterate 2 (refine kX_one rfl ?_)
          exact kX_lv _ rfl rfl rfl (k105 a (by rw [if_pos q3] at z2; exact z2) (ha (by omega)))
    · rw [isB_F (fun z => by obtain ⟨j, j1, j2⟩ := z; have := nI_inj j2; omega)]
      have hmin : min v vc = vc := by omega
      have hmin2 : min (v + 1) vc = vc := by omega
      rw [hmin]
      rw [hmin2] at k177
      iterate 3 (refine kX_one rfl ?_)
      refine kX_cal (mc_roHas L xs (d + 3) τ r vc (nI v) hr4 hv6 hvc') rfl (Or.inr rfl) rfl (jcall_v rfl rfl rfl (kT_ro hr4) rfl rfl) rfl (fun r1 σ1 q1 => ?_)
      obtain ⟨rfl, rfl⟩ := q1
      rw [isB_F (fun z => by obtain ⟨j, j1, j2⟩ := z; have := nI_inj j2; omega)]
      iterate 1 (refine kX_one rfl ?_)
      refine kX_lv _ rfl rfl rfl (k177 τ n' ho (-1) _ i2 i3 (nsF_step i4 (rows_refl τ n') (by rw [hmin2, i4.1, hmin]) (fun t t1 t2 => by omega) (fun z => absurd z hvv) i4.2.2.2.2.1 rfl ?_ ⟨fun z => ⟨z, fun e => absurd e hvv⟩, fun z => z.1⟩) (Or.inl rfl) rfl)
      rw [if_neg hvv]
      rfl
