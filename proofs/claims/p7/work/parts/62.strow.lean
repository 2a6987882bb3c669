/-! the reference: the row of a STATE -/
noncomputable def trSe (σ : kS) (s : Nat) (tr : trT) : Nat → trT
  | 0 => tr
  | e + 1 => cit (σ 249 (mEv σ s e) ≠ 0) (trA (trSe σ s tr e) (tin σ s (fN (σ 248 (mEv σ s e)))) (nI 1) (-6)) (trSe σ s tr e)
noncomputable def trSs (σ : kS) (tr : trT) : Nat → trT
  | 0 => tr
  | s + 1 => trSe σ s (trSs σ tr s) (fN (σ 264 s))
/-- the row of the STATE that stands in doing and value, as trees -/
noncomputable def trSt (σ : kS) (kl : List Nat) (S : Nat) : trT := trE (mA σ) (σ 238) 1001 (trSs σ (trKn σ kl) S)
/-- where all SESSIONS stand -/
def mSv (σ : kS) (n R S : Nat) : Prop := σ 232 27 = nI S ∧ ∀ s, s < S → mSn σ n R s (fN (σ 264 s))
theorem mFr_Sv {σ τ : kS} {n b R S : Nat} (h : mTb σ n b) (hR : mRo σ n R) (hF : mFr σ τ n) (hS : mSv σ n R S) : mSv τ n R S := by
  refine ⟨(hF.2.1 _ (by decide)).trans hS.1, fun s hs => ?_⟩
  rw [hF.1 264 (by decide)]
  exact mFr_Sn h hR hF (hS.2 s hs)
set_option maxRecDepth 100000 in
set_option maxHeartbeats 4000000 in
theorem mr_stateRow (L : Nat) (xs : Nat → Int32) (d : Nat) (σ : kS) (n b R S : Nat) (kl : List Nat) (h : mTb σ n b) (hk : mKn σ n kl) (hR : mRo σ n R) (hS4 : S ≤ 4) (hS : mSv σ n R S) : kXM kT L xs (d + 7) 211 [.ref 232] σ (fun r σ' => r = none ∧ σ' 232 47 = σ 232 47 ∧ ∃ b' l, b' ≤ 776 ∧ mBd σ σ' n b' l (trSt σ kl S)) := by
  have hn := h.1
  unfold kXM
  iterate 1 (refine kX_one rfl ?_)
  refine kX_cal (mr_beginRow L xs (d + 4) σ n b kl h hk) rfl (Or.inr rfl) rfl rfl rfl (fun r1 σ1 q1 => ?_)
  obtain ⟨rfl, ⟨hd, jd, f1, f0⟩, f2, f3⟩ := q1
  have hF1 : mFr σ σ1 n := mFr_trans (mFr_Rl σ n hd jd) (mFr_rwF f1)
  have hT1 : mTb σ1 n 200 := rwF_Tb f1 f0
  have hg1 : mvG σ1 n 200 = mvG σ n 200 := by
    rw [rwF_mvG f1]
    rfl
  have hB1 : mBd σ σ1 n 200 (knR kl) (trKn σ kl) := by
    refine ⟨hF1, hT1, by rw [hg1]; exact f2, f3, ?_⟩
    have e := (rwM_Kn f0 kl hk.2.2.2).1
    obtain ⟨⟨Mk, I, RR, H, M, o, rfl⟩, -⟩ := f1
    exact e
  have hrt1 : σ1 232 47 = σ 232 47 := f1.2 _ (by decide) (by decide) (by decide)
  iterate 2 (refine kX_one rfl ?_)
  have loopA := kX_while (T := kT) (L := L) (xs := xs) (d := d + 7) (mi := 211) (pc := 6) (Q := fun r σ' => r = none ∧ σ' 232 47 = σ 232 47 ∧ ∃ b' l, b' ≤ 776 ∧ mBd σ σ' n b' l (trSt σ kl S))
    (fun q : Nat × Nat × rwT × kS => [(1, .int (nI q.1)), (0, .ref 232)]) (fun q => q.2.2.2) (fun q => q.1 ≤ S ∧ q.2.1 ≤ 200 + 144 * q.1 ∧ mBd σ q.2.2.2 n q.2.1 q.2.2.1 (trSs σ (trKn σ kl) q.1) ∧ q.2.2.2 232 47 = σ 232 47) (fun q => S - q.1) ?_ (0, 200, knR kl, σ1) ⟨Nat.zero_le _, by simp only; omega, hB1, hrt1⟩
  · exact loopA
  · rintro ⟨s, b0, l0, τ0⟩ ⟨i1, i2, i3, i4⟩ ih
    dsimp only at i1 i2 i3 i4 ih ⊢
    have hSv0 := mFr_Sv h hR i3.1 hS
    iterate 3 (refine kX_one rfl ?_)
    refine kX_top (hSv0.1) ?_
    repeat refine kX_one rfl ?_
    refine kX_if (fun q => ?_) (fun q => ?_)
    · have q := qge q s S
      obtain rfl : s = S := by omega
      repeat refine kX_one rfl ?_
      refine kX_cal (mr_endRow L xs d τ0 n b0 l0 i3.2.1 i3.2.2.1 i3.2.2.2.1) rfl (Or.inr rfl) rfl rfl rfl (fun r1 σ2 q1 => ?_)
      obtain ⟨rfl, e1, e2, e3⟩ := q1
      refine kX_ret (i := .return_) (len := 1) rfl (Or.inr rfl) rfl ⟨rfl, (e1.2 _ (by decide) (by decide) (by decide)).trans i4, b0, enR τ0 1001 l0, by omega, mFr_trans i3.1 (mFr_rwF e1), rwF_Tb e1 i3.2.1, by rw [rwF_mvG e1]; exact e2, e3, ?_⟩
      have hr : rwM σ2 (enR τ0 1001 l0) = rwM τ0 (enR τ0 1001 l0) := by
        obtain ⟨⟨Mk, I, RR, H, M, o, rfl⟩, -⟩ := e1
        rfl
      rw [hr, (rwM_E i3.2.1 1001 l0 i3.2.2.1.2.2.1).1, i3.2.2.2.2]
      unfold trSt
      have hA : mA τ0 = mA σ := funext fun t => propext ⟨fun q => ⟨q.1, (i3.1.2.2 t q.1).1.symm.trans q.2⟩, fun q => ⟨q.1, (i3.1.2.2 t q.1).1.trans q.2⟩⟩
      rw [hA, i3.1.1 238 (by decide)]
    · have q := qgeF q s S
      have hs4 : s < 4 := by omega
      obtain ⟨r, r1, r2, r3, r4, r5, r6⟩ := hS.2 s q
      obtain ⟨-, ev, he6, hev⟩ := hR.2.2.1 r r1
      have hR4 := hR.1
      obtain ⟨dn, hdn⟩ : ∃ dn, fN (σ 264 s) = dn := ⟨_, rfl⟩
      rw [hdn] at r3 r4 r6
      have hdn6 : dn ≤ 6 := by
        rw [hev, fN_nI (by omega)] at r4
        omega
      iterate 2 (refine kX_one rfl ?_)
      have loopB := kX_while (T := kT) (L := L) (xs := xs) (d := d + 7) (mi := 211) (pc := 16) (Q := fun r σ' => r = none ∧ σ' 232 47 = σ 232 47 ∧ ∃ b' l, b' ≤ 776 ∧ mBd σ σ' n b' l (trSt σ kl S))
        (fun q : Nat × Nat × rwT × kS => [(2, .int (nI q.1)), (1, .int (nI s)), (0, .ref 232)]) (fun q => q.2.2.2) (fun q => q.1 ≤ dn ∧ q.2.1 ≤ b0 + 24 * q.1 ∧ mBd σ q.2.2.2 n q.2.1 q.2.2.1 (trSe σ s (trSs σ (trKn σ kl) s) q.1) ∧ q.2.2.2 232 47 = σ 232 47) (fun q => dn - q.1) ?_ (0, b0, l0, τ0) ⟨Nat.zero_le _, Nat.le_refl _, i3, i4⟩
      · exact loopB
      · rintro ⟨e, b', l, τ⟩ ⟨j1, j2, j3, j4⟩ ih2
        dsimp only at j1 j2 j3 j4 ih2 ⊢
        have back : ∀ (τ2 : kS) (b2 : Nat) (l2 : rwT), e < dn → b2 ≤ b' + 24 → mBd σ τ2 n b2 l2 (trSe σ s (trSs σ (trKn σ kl) s) (e + 1)) → τ2 232 47 = σ 232 47 → kX kT L xs (d + 7) 211 65 [(2, .int (nI e)), (1, .int (nI s)), (0, .ref 232)] [] τ2 (fun r σ' => r = none ∧ σ' 232 47 = σ 232 47 ∧ ∃ b' l, b' ≤ 776 ∧ mBd σ σ' n b' l (trSt σ kl S)) := by
          intro τ2 b2 l2 g0 g1 g2 g3
          iterate 2 (refine kX_one rfl ?_)
          have := ih2 (e + 1, b2, l2, τ2) ⟨by simp only; omega, by simp only; omega, g2, g3⟩ (by simp only; omega)
          rw [← nI_1] at this
          exact this
        repeat refine kX_one rfl ?_
        refine kX_ialdV (v := nI dn) rfl rfl (by decide) s rfl (by omega) (by rw [j3.1.1 264 (by decide)]; exact r3) ?_
        repeat refine kX_one rfl ?_
        refine kX_if (fun q2 => ?_) (fun q2 => ?_)
        · have q2 := qge q2 e dn
          obtain rfl : e = dn := by omega
          iterate 2 (refine kX_one rfl ?_)
          have := ih (s + 1, b', l, τ) ⟨by simp only; omega, by simp only; omega, by
            show mBd σ τ n b' l (trSs σ (trKn σ kl) (s + 1))
            rw [trSs, hdn]
            exact j3, j4⟩ (by simp only; omega)
          rw [← nI_1] at this
          exact kX_lv _ rfl rfl rfl this
        · have q2 := qgeF q2 e dn
          obtain ⟨t, t1, t2, -, -⟩ := hR.2.2.2.2.2 r e r1 (by omega)
          have hst := r6.1 _ q2
          rw [t2, fN_nI (by omega)] at hst
          have hmev : mEv σ s e = 6 * r + e := by
            unfold mEv
            rw [r2, fN_nI (by omega)]
          repeat refine kX_one rfl ?_
          refine kX_ialdV (v := nI r) rfl rfl (by decide) s rfl (by omega) (by rw [j3.1.1 255 (by decide)]; exact r2) ?_
          iterate 3 (refine kX_one rfl ?_)
          refine kX_top (ix6 r _) ?_
          repeat refine kX_one rfl ?_
          refine kX_baldV (v := σ 249 (6 * r + e)) rfl rfl (by decide) _ rfl (by omega) (by rw [j3.1.1 249 (by decide)]) ?_
          repeat refine kX_one rfl ?_
          refine kX_if (fun q3 => ?_) (fun q3 => ?_)
          · have q3 : σ 249 (6 * r + e) = 0 := qeq q3
            refine kX_lv [(2, .int (nI e)), (1, .int (nI s)), (0, .ref 232)] rfl rfl rfl ?_
            refine back τ b' l q2 (by omega) ?_ j4
            have ee : trSe σ s (trSs σ (trKn σ kl) s) (e + 1) = trSe σ s (trSs σ (trKn σ kl) s) e := by
              rw [trSe, hmev]
              exact cit_F (fun z => z q3)
            rw [ee]
            exact j3
          · have q3 : σ 249 (6 * r + e) ≠ 0 := qeqF q3
            have ee : trSe σ s (trSs σ (trKn σ kl) s) (e + 1) = trA (trSe σ s (trSs σ (trKn σ kl) s) e) (tin σ s t) (nI 1) (-6) := by
              rw [trSe, hmev, cit_T q3, t2, fN_nI (by omega)]
            repeat refine kX_one rfl ?_
            refine kX_ialdV (v := nI t) rfl rfl (by decide) _ rfl (by omega) (by rw [j3.1.1 248 (by decide)]; exact t2) ?_
            refine kX_cal (mr_standsFor L xs (d + 1) τ n b' s t j3.2.1 (by omega) hs4 t1 (mFr_St h j3.1 t1 hst)) rfl (Or.inr rfl) rfl rfl rfl (fun r1 ρ q1 => ?_)
            obtain ⟨u, b2, rfl, g1, g2, g3, g4, g5⟩ := q1
            obtain ⟨m1, m2⟩ := mRq_ex j3.2.1 g1 j3.2.2.1
            repeat refine kX_one rfl ?_
            refine kX_cal (mr_comes L xs (d + 5) ρ (mvG ρ n b2) l u (nI 1) (-6) m1 (by have := g1.1.2.2.1; unfold mv at g3; omega) ⟨g3, g5⟩) rfl (Or.inr rfl) rfl rfl rfl (fun r1 σ2 q1 => ?_)
            obtain ⟨rfl, c1, I, RR, H, M, rfl⟩ := q1
            have hB3 := mBd_comes j3 g1 g3 g5 c1
            rw [g4, mFr_tin h j3.1 t t1 hst, ← ee] at hB3
            refine kX_lv [(2, .int (nI e)), (1, .int (nI s)), (0, .ref 232)] rfl rfl rfl ?_
            refine back _ b2 _ q2 g2 hB3 ?_
            have hρ : ρ 232 47 = τ 232 47 := by
              obtain ⟨-, -, -, K, F, SS, Z, G, nx, hd, N, II, rfl⟩ := g1
              rfl
            exact hρ.trans j4
