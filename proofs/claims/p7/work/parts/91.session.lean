/-! the reference: session, its loop -/
theorem hma_mono (σ : kS) (r a : Nat) : ∀ {k v : Nat}, k ≤ v → hma σ r a k ≤ hma σ r a v := fun {k v} h => by
  induction v with
  | zero => obtain rfl : k = 0 := by omega
            exact Nat.le_refl _
  | succ v ih =>
    by_cases e : k = v + 1
    · subst e
      exact Nat.le_refl _
    · exact Nat.le_trans (ih (by omega)) (Nat.le_add_right _ _)
def seK (σ τ : kS) (n : Nat) : Prop := τ 244 = σ 244 ∧ τ 246 = σ 246 ∧ τ 245 = σ 245 ∧ τ 240 = σ 240 ∧ ∀ t, t < n → τ 233 t = σ 233 t
set_option maxRecDepth 100000 in
set_option maxHeartbeats 4000000 in
theorem mr_sessionL (L : Nat) (xs : Nat → Int32) (d : Nat) (σ : kS) (n R S C r v : Nat) (kl : List Nat) (a1 a2 a3 h0 : Int32) (hR4 : R ≤ 4) (hr : r < R) (hS : S < 4) (hv6 : v ≤ 6) (hv : σ 244 r = nI v) (hn : n + hma σ r 1 v ≤ 200) (h03 : hma σ r 0 v ≤ 3)
    (hA : ∀ i, i < hma σ r 0 v → ∃ z, z < n ∧ (if i = 0 then a1 else if i = 1 then a2 else a3) = nI z ∧ σ 233 z = 0) (hRo : mRo σ n R) (Q : Option Value → kS → Prop)
    (hQ : ∀ τ n' b', mJ τ n' b' R S C kl → mLow σ τ → seK σ τ n → (∀ i, i < v → ssO τ n' r S i) → kX kT L xs (d + 4) 170 277 [(0, .ref 232), (1, .int (nI r)), (2, .int a1), (3, .int a2), (4, .int a3)] [] τ Q) :
    ∀ q : Nat × kS, (q.1 ≤ v ∧ ∃ b', mJ q.2 (n + hma σ r 1 q.1) b' R S C kl ∧ mLow σ q.2 ∧ seK σ q.2 n ∧ ∀ i, i < q.1 → ssO q.2 (n + hma σ r 1 q.1) r S i) → kX kT L xs (d + 4) 170 160 [(7, .int (nI q.1)), (6, .int (nI (hma σ r 0 q.1))), (0, .ref 232), (1, .int (nI r)), (2, .int a1), (3, .int a2), (4, .int a3)] [] q.2 Q := by
  refine kX_while (fun q : Nat × kS => [(7, .int (nI q.1)), (6, .int (nI (hma σ r 0 q.1))), (0, .ref 232), (1, .int (nI r)), (2, .int a1), (3, .int a2), (4, .int a3)]) (fun q => q.2) _ (fun q => v - q.1) ?_
  rintro ⟨k, τ⟩ ⟨i1, b', i2, i3, i4, i5⟩ ih
  dsimp only at i1 i2 i3 i4 i5 ih ⊢
  obtain ⟨s1, s2, s3, s4, s5⟩ := i4
  have hvt : τ 244 r = nI v := by rw [s1]; exact hv
  iterate 4 (refine kX_one rfl ?_)
  refine kX_ialdV rfl rfl (by decide) (r) (by first | rfl | decide) (by omega) (hvt) ?_
  repeat refine kX_one rfl ?_
  refine kX_if (fun q => ?_) (fun q => ?_)
  · have q := qge q k v
    obtain rfl : k = v := by omega
    exact kX_lv _ rfl rfl rfl (hQ τ _ b' i2 i3 ⟨s1, s2, s3, s4, s5⟩ i5)
  · have q := qgeF q k v
    obtain ⟨t, so, as, t1, t2, t3, t4, t5, t6, t7, t8, t9, t10, t11⟩ := hRo.2.2.2.1 r k hr (by rw [hv, fN_nI (by omega)]; exact q)
    have hn200 : n ≤ 200 := by omega
    have key : ∀ (ρ : kS) (x : Int32) (b'' c' n' : Nat) (w : Value), c' = hma σ r 0 (k + 1) → n' = n + hma σ r 1 (k + 1) → mJ ρ n' b'' R S C kl → mLow σ ρ → seK σ ρ n → (∀ i, i < k → ssO ρ n' r S i) → ssO (va_up ρ 256 (upd (ρ 256) (6 * S + k) x)) n' r S k → kX kT L xs (d + 4) 170 254 [(9, .int x), (8, w), (7, .int (nI k)), (6, .int (nI c')), (0, .ref 232), (1, .int (nI r)), (2, .int a1), (3, .int a2), (4, .int a3)] [] ρ Q := by
      intro ρ x b'' c' n' w hc' hn' j1 j2 j3 j4 j5
      have hSe := j1.2.2.1.2.1
      repeat refine kX_one rfl ?_
      refine kX_iastN rfl rfl (by decide) (6 * S + k) (by rw [hSe]; exact ix6 S k) (by omega) ?_
      iterate 2 (refine kX_one rfl ?_)
      have := ih (k + 1, va_up ρ 256 (upd (ρ 256) (6 * S + k) x)) ⟨q, b'', by rw [← hn']; exact mJ_at j1, mLow_trans j2 (mLow_up ρ _ (by decide)), j3, fun i hi => by
        simp only at hi ⊢
        rw [← hn']
        by_cases e : i = k
        · subst e
          exact j5
        · exact ssO_at e (j4 i (by omega))⟩ (by simp only; omega)
      dsimp only at this
      rw [← nI_1, ← hc'] at this
      exact kX_lv _ rfl rfl rfl this
    have hat : τ 246 (6 * r + k) = nI as := by rw [s2]; exact t9
    have has : as = 0 ∨ as = 1 ∨ as = 2 := by omega
    repeat refine kX_one rfl ?_
    refine kX_ialdV rfl rfl (by decide) (6 * r + k) (ix6 r k) (by omega) hat ?_
    have hstep : ∀ a, hma σ r a (k + 1) = hma σ r a k + if σ 246 (6 * r + k) = nI a then 1 else 0 := fun a => rfl
    rcases has with rfl | rfl | rfl
    · have e0 : hma σ r 0 (k + 1) = hma σ r 0 k + 1 := by rw [hstep, if_pos t9]
      have e1 : hma σ r 1 (k + 1) = hma σ r 1 k := by rw [hstep, if_neg (by rw [t9]; decide), Nat.add_zero]
      have hc3 : hma σ r 0 k < hma σ r 0 v := by
        have := hma_mono σ r 0 (show k + 1 ≤ v from q)
        omega
      obtain ⟨z, z1, z2, z3⟩ := hA _ hc3
      have hso := t10 rfl
      have fin : ∀ x w, x = nI z → kX kT L xs (d + 4) 170 254 [(9, .int x), (8, w), (7, .int (nI k)), (6, .int (nI (hma σ r 0 k + 1))), (0, .ref 232), (1, .int (nI r)), (2, .int a1), (3, .int a2), (4, .int a3)] [] τ Q := by
        intro x w hx
        refine key τ x b' _ (n + hma σ r 1 k) w e0.symm (by rw [e1]) i2 i3 ⟨s1, s2, s3, s4, s5⟩ i5 ⟨0, hat, Or.inr ⟨by omega, z, by omega, by rw [← hx]; exact pk_us, ?_⟩⟩
        show τ 233 z = τ 240 (fN (τ 245 (6 * r + k)))
        rw [s5 z z1, z3, s3, s4, t2, fN_nI (by omega), t7, hso]
        rfl
      have hc : hma σ r 0 k = 0 ∨ hma σ r 0 k = 1 ∨ hma σ r 0 k = 2 := by omega
      rcases hc with hc | hc | hc
      · rw [hc] at z2 fin ⊢
        iterate 12 (refine kX_one rfl ?_)
        exact kX_lv _ rfl rfl rfl (fin a1 (.int (nI 0)) z2)
      · rw [hc] at z2 fin ⊢
        iterate 15 (refine kX_one rfl ?_)
        exact kX_lv _ rfl rfl rfl (fin a2 (.int (nI 0)) z2)
      · rw [hc] at z2 fin ⊢
        iterate 14 (refine kX_one rfl ?_)
        exact kX_lv _ rfl rfl rfl (fin a3 (.int (nI 0)) z2)
    · have e0 : hma σ r 0 (k + 1) = hma σ r 0 k := by rw [hstep, if_neg (by rw [t9]; decide), Nat.add_zero]
      have e1 : hma σ r 1 (k + 1) = hma σ r 1 k + 1 := by rw [hstep, if_pos t9]
      have hle := hma_mono σ r 1 (show k + 1 ≤ v from q)
      have hvt2 : τ 245 (6 * r + k) = nI t := by rw [s3]; exact t2
      have hst2 : τ 240 t = nI so := by rw [s4]; exact t7
      have hso := t11 rfl
      repeat refine kX_one rfl ?_
      refine kX_ialdV rfl rfl (by decide) (6 * r + k) (ix6 r k) (by omega) hvt2 ?_
      refine kX_ialdV rfl rfl (by decide) (t) (by first | rfl | decide) (by omega) (hst2) ?_
      repeat refine kX_one rfl ?_
      refine kX_cal (mr_last L xs d τ (n + hma σ r 1 k) b' so (-1) (-1) 0 0 i2.1 (by omega) (Or.inl ⟨t6, rfl, rfl⟩) (by omega) (by omega) (by omega) (by unfold msz; rw [if_pos t6]; decide)) rfl (Or.inr rfl) rfl rfl rfl (fun r1 τ1 q1 => ?_)
      obtain ⟨rfl, hN⟩ := q1
      have hG := mGr_new hN
      have e := fun c (hc : c ∉ rowC) => hG.1 c hc
      have hkk : τ1 233 (n + hma σ r 1 k) = nI so := by
        obtain ⟨_, _, _, _, _, rfl, _⟩ := hN
        exact pk_us
      iterate 1 (refine kX_one rfl ?_)
      refine kX_lv _ rfl rfl rfl (key τ1 (nI (n + hma σ r 1 k)) 200 _ (n + hma σ r 1 k + 1) (.int (nI 1)) e0.symm (by rw [e1]; omega) (mJ_new i2 hN (by omega)) (mLow_trans i3 (mLow_gr hG)) ⟨(e _ (by decide)).trans s1, (e _ (by decide)).trans s2, (e _ (by decide)).trans s3, (e _ (by decide)).trans s4, fun u hu => ((hG.2.2 u (by omega)).1).trans (s5 u hu)⟩ (fun i hi => ssO_new (by omega) hN (i5 i hi)) ⟨1, ?_, Or.inr ⟨by omega, n + hma σ r 1 k, by omega, pk_us, ?_⟩⟩)
      · show τ1 246 (6 * r + k) = nI 1
        rw [e 246 (by decide)]
        exact hat
      · show τ1 233 (n + hma σ r 1 k) = τ1 240 (fN (τ1 245 (6 * r + k)))
        rw [hkk, e 245 (by decide), e 240 (by decide), hvt2, fN_nI (by omega), hst2]
    · have e0 : hma σ r 0 (k + 1) = hma σ r 0 k := by rw [hstep, if_neg (by rw [t9]; decide), Nat.add_zero]
      have e1 : hma σ r 1 (k + 1) = hma σ r 1 k := by rw [hstep, if_neg (by rw [t9]; decide), Nat.add_zero]
      iterate 8 (refine kX_one rfl ?_)
      exact kX_lv _ rfl rfl rfl (key τ (-6) b' _ (n + hma σ r 1 k) _ e0.symm (by rw [e1]) i2 i3 ⟨s1, s2, s3, s4, s5⟩ i5 ⟨2, hat, Or.inl ⟨rfl, pk_us⟩⟩)
