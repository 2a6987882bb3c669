/-! the reference: goesOn -/
def goI (σ τ : kS) (n R S N i : Nat) : Prop := mSf σ τ n ∧ (∃ N', N ≤ N' ∧ mSs τ n R S N') ∧ rcR τ n ∧ rcD τ τ S i ∧ ∀ u k, u < S → k < 6 → τ 265 (6 * u + k) = stV τ i (6 * u + k)
/-- what goesOn leaves -/
def goP (σ τ : kS) (n R S C N : Nat) (r : Option Value) : Prop := ∃ N', N ≤ N' ∧ ceR C N' r ∧ mSf σ τ n ∧ (∃ b, mTb τ n b) ∧ mSs τ n R S N'
theorem go_take {σ τ : kS} {n b0 b2 R S C N N2 i : Nat} {kl : List Nat} {D V : Nat → Int32} (h : mTb σ n b0) (hB : mBs σ n R S C kl) (g1 : mSf σ τ n) (g2 : mTb τ n b2) (hN : N ≤ N2) (g3 : mSs τ n R S N2) (hi : i < N2) (hD : ∀ u, u < S → D u = τ 284 (4 * i + u)) (hV : ∀ u k, u < S → k < 6 → V (6 * u + k) = τ 285 (24 * i + 6 * u + k)) :
    (mTb (va_up (va_up τ 264 D) 265 V) n b2 ∧ mBs (va_up (va_up τ 264 D) 265 V) n R S C kl ∧ mSv (va_up (va_up τ 264 D) 265 V) n R S) ∧ ∀ σ4 b' l tr, b' ≤ 776 → mBd (va_up (va_up τ 264 D) 265 V) σ4 n b' l tr → goI σ σ4 n R S N i := by
  have hV' : ∀ u k, u < S → k < 6 → V (6 * u + k) = stV τ i (6 * u + k) := fun u k hu hk => by
    rw [hV u k hu hk]
    unfold stV
    rw [show 24 * i + (6 * u + k) = 24 * i + 6 * u + k by omega]
  have hF3 : mSf τ (va_up (va_up τ 264 D) 265 V) n := mSf_trans (mSf_up (c := 264) (by decide)) (mSf_up (c := 265) (by decide))
  have hB2 := mBs_sf h g1 hB
  have hB3 := mBs_sf g2 hF3 hB2
  have hT3 : mTb (va_up (va_up τ 264 D) 265 V) n b2 := g2
  have hc3 : cfg (va_up (va_up τ 264 D) 265 V) n R S D V := cfg_sf g2 hB2.1 hF3 (cfg_ext (fun u hu => hD u hu) hV' (g3.2.2 i hi).1)
  have hSs3 : mSs (va_up (va_up τ 264 D) 265 V) n R S N2 := mSs_sf g2 hB2.1 hF3 rfl rfl rfl rfl rfl g3
  refine ⟨⟨hT3, hB3, cfg_Sv hT3 hB3.1 hB3.2.1 hc3⟩, ?_⟩
  rintro σ4 b' l tr hb' ⟨f1, f2, f3, f4, -⟩
  have esd : σ4 284 = τ 284 := f1.1 _ (by decide)
  have esv : σ4 285 = τ 285 := f1.1 _ (by decide)
  have edo : σ4 264 = D := f1.1 _ (by decide)
  have eva : σ4 265 = V := f1.1 _ (by decide)
  refine ⟨mSf_trans g1 (mSf_trans hF3 (mSf_fr f1)), ⟨N2, hN, mSs_fr hT3 hB3.1 f1 hSs3⟩, ⟨b', l, hb', f2, f3, f4⟩, fun u hu => ?_, fun u k hu hk => ?_⟩
  · rw [edo, hD u hu]
    unfold stD
    rw [esd]
  · rw [eva, hV' u k hu hk]
    unfold stV
    rw [esv]
/-- an EVENT that sends -/
theorem sd_cfg {σ : kS} {n b R S s r dn : Nat} {D W : Nat → Int32} (h : mTb σ n b) (hR : mRo σ n R) (hc : cfg σ n R S D W) (hs : s < S) (r1 : r < R) (r2 : σ 255 s = nI r) (r3 : D s = nI dn) (hdn : dn < fN (σ 247 r)) (hse : σ 249 (6 * r + dn) ≠ 0) :
    cfg σ n R S (upd D s (nI (dn + 1))) W ∧ stp S D W (upd D s (nI (dn + 1))) W s := by
  have hR4 := hR.1
  have he6 : fN (σ 247 r) ≤ 6 := by
    obtain ⟨-, e, e1, e2⟩ := hR.2.2.1 r r1
    rw [e2, fN_nI (by omega)]
    exact e1
  refine ⟨fun u hu => ?_, hs, fun u hu => ⟨fun q => ⟨pk_un q, fun _ _ => rfl⟩, fun q => ⟨?_, fun _ _ _ => rfl⟩⟩⟩
  · obtain ⟨r', dn', a1, a2, a3, a4, a5⟩ := hc u hu
    by_cases e : u = s
    · subst e
      obtain rfl : r = r' := nI_inj (r2.symm.trans a2)
      obtain rfl : dn = dn' := nI_inj (r3.symm.trans a3)
      have hb : ∀ k, bdv σ r (dn + 1) k ↔ bdv σ r dn k := fun k => ⟨fun q => ⟨q.1, q.2.elim Or.inl (fun ⟨e, e1, e2, e3⟩ => Or.inr ⟨e, by
        have : e ≠ dn := fun q => hse (q ▸ e2)
        omega, e2, e3⟩)⟩, bdv_mono (by omega)⟩
      refine ⟨r, dn + 1, r1, r2, pk_us, hdn, fun k hk => ?_⟩
      rw [hb k]
      exact a5 k hk
    · exact ⟨r', dn', a1, a2, (pk_un e).trans a3, a4, a5⟩
  · subst q
    rw [pk_us, r3, nI_1]
set_option maxRecDepth 100000 in
set_option maxHeartbeats 4000000 in
theorem mr_go_loop (L : Nat) (xs : Nat → Int32) (d : Nat) (σ : kS) (n b0 R S C N i : Nat) (kl : List Nat) (h : mTb σ n b0) (hB : mBs σ n R S C kl) (hi : i < N) :
    ∀ q : Nat × kS, (q.1 ≤ S ∧ goI σ q.2 n R S N i) → kX kT L xs (d + 10) 218 11 [(2, .int (nI q.1)), (0, .ref 232), (1, .int (nI i))] [] q.2 (fun r σ' => goP σ σ' n R S C N r) := by
  have hS4 := hB.2.1.1
  have hR4 := hB.1.1
  have hC6 : C ≤ 6 := hB.2.2.2.1
  refine kX_while (fun q : Nat × kS => [(2, .int (nI q.1)), (0, .ref 232), (1, .int (nI i))]) (fun q => q.2) _ (fun q => S - q.1) ?_
  rintro ⟨s, τ⟩ ⟨i1, i2⟩ ih
  dsimp only at i1 i2 ih ⊢
  have hgo := i2
  obtain ⟨g1, ⟨N', n1, g2⟩, g3, g4, g5⟩ := i2
  have hN6 := g2.1
  have hB2 := mBs_sf h g1 hB
  obtain ⟨b, l, e1, e2, e3, e4⟩ := g3
  have hn := e2.1
  iterate 3 (refine kX_one rfl ?_)
  refine kX_top (hB2.2.1.2.1) ?_
  repeat refine kX_one rfl ?_
  refine kX_if (fun q => ?_) (fun q => ?_)
  · repeat refine kX_one rfl ?_
    refine kX_ret (i := .ireturn) (len := 1) rfl (Or.inr rfl) rfl (⟨N', n1, Or.inl rfl, g1, ⟨b, e2⟩, g2⟩)
  · have q := qgeF q s S
    have k90 : ∀ (x v : Int32) τ2, goP σ τ2 n R S C N (some (.int v)) → (v = -6 → goI σ τ2 n R S N i) → kX kT L xs (d + 10) 218 90 [(4, .int v), (3, .int x), (2, .int (nI s)), (0, .ref 232), (1, .int (nI i))] [] τ2 (fun r σ' => goP σ σ' n R S C N r) := by
      intro x v τ2 f1 f2
      iterate 2 (refine kX_one rfl ?_)
      repeat refine kX_one rfl ?_
      refine kX_if (fun q2 => ?_) (fun q2 => ?_)
      · have q2 : v = -6 := qeq q2
        iterate 2 (refine kX_one rfl ?_)
        have := ih (s + 1, τ2) ⟨q, f2 q2⟩ (by simp only; omega)
        dsimp only at this
        rw [← nI_1] at this
        exact kX_lv _ rfl rfl rfl this
      · repeat refine kX_one rfl ?_
        refine kX_ret (i := .ireturn) (len := 1) rfl (Or.inr rfl) rfl (f1)
    obtain ⟨r, dn, a1, a2, a3, a4, a5⟩ := (g2.2.2 i (by omega)).1 s q
    have he6 : fN (τ 247 r) ≤ 6 := by
      obtain ⟨-, e, e1, e2⟩ := hB2.1.2.2.1 r a1
      rw [e2, fN_nI (by omega)]
      exact e1
    have hds : τ 264 s = nI dn := (g4 s q).trans a3
    iterate 2 (refine kX_one rfl ?_)
    refine kX_cal (mr_nextEvent L xs (d + 8) τ n R s r dn hB2.1 (by omega) a1 a2 hds (by omega)) rfl (Or.inr rfl) rfl rfl rfl (fun r1 σ1 q1 => ?_)
    obtain ⟨rfl, rfl⟩ := q1
    by_cases hdn : dn < fN (τ 247 r)
    · rw [if_pos hdn]
      obtain ⟨t, t1, t2, -⟩ := hB2.1.2.2.2.2.2 r dn a1 hdn
      have k76 : τ 249 (6 * r + dn) = 0 → kX kT L xs (d + 10) 218 76 [(4, .int (-6)), (3, .int (nI (6 * r + dn))), (2, .int (nI s)), (0, .ref 232), (1, .int (nI i))] [] τ (fun r σ' => goP σ σ' n R S C N r) := by
        intro hse
        iterate 6 (refine kX_one rfl ?_)
        refine kX_ialdV rfl rfl (by decide) (6 * r + dn) (by first | rfl | decide) (by omega) (t2) ?_
        refine kX_cal (mr_receives L xs d τ n R S C N' i s r dn t kl hB2 g2 (by omega) ⟨b, l, e1, e2, e3, e4⟩ g4 g5 q a1 a2 a3 hdn hse t1 t2) rfl (Or.inr rfl) rfl rfl rfl (fun r1 τ2 q1 => ?_)
        obtain ⟨N2, m1, m2, m3, m4, m5, m6, m7⟩ := q1
        have hP : goP σ τ2 n R S C N r1 := ⟨N2, by omega, m2, mSf_trans g1 m3, m4, m5⟩
        have hG : r1 = some (.int (-6)) → goI σ τ2 n R S N i := fun e => by
          obtain ⟨x1, x2, x3⟩ := m7 e
          exact ⟨mSf_trans g1 m3, ⟨N2, by omega, m5⟩, x1, fun u hu => (x2 u hu).trans ((m6 i (by omega)).1 u hu).symm, fun u k hu hk => (x3 u k hu hk).trans ((m6 i (by omega)).2 u k hu hk).symm⟩
        rcases m2 with rfl | rfl | ⟨c', hc', rfl, -⟩
        · iterate 1 (refine kX_one rfl ?_)
          exact kX_lv _ rfl rfl rfl (k90 (nI (6 * r + dn)) _ τ2 hP (fun e => hG (by rw [e])))
        · iterate 1 (refine kX_one rfl ?_)
          exact kX_lv _ rfl rfl rfl (k90 (nI (6 * r + dn)) _ τ2 hP (fun e => hG (by rw [e])))
        · iterate 1 (refine kX_one rfl ?_)
          exact kX_lv _ rfl rfl rfl (k90 (nI (6 * r + dn)) _ τ2 hP (fun e => hG (by rw [e])))
      have k58 : ∀ (v : Int32) τ2, goP σ τ2 n R S C N (some (.int v)) → kX kT L xs (d + 10) 218 58 [(4, .int (-6)), (3, .int (nI (6 * r + dn))), (2, .int (nI s)), (0, .ref 232), (1, .int (nI i))] [.int v] τ2 (fun r σ' => goP σ σ' n R S C N r) := by
        intro v τ2 hP
        have hP0 := hP
        obtain ⟨N2, m1, m2, m3, ⟨b2, m4⟩, m5⟩ := hP
        have hN26 := m5.1
        have hse2 : τ2 232 27 = nI S := (m3.2.1 _ (by decide) (by decide)).trans hB.2.1.2.1
        iterate 3 (refine kX_one rfl ?_)
        refine kX_cal (mr_takeState L xs (d + 8) τ2 S i hse2 hS4 (by omega)) rfl (Or.inr rfl) rfl rfl rfl (fun r1 σ3 q1 => ?_)
        obtain ⟨rfl, D, V, rfl, hD, hV⟩ := q1
        obtain ⟨⟨x1, x2, x3⟩, x4⟩ := go_take h hB m3 m4 m1 m5 (by omega) hD hV
        iterate 1 (refine kX_one rfl ?_)
        refine kX_cal (mr_stateRow L xs (d + 2) _ n b2 R S kl x1 x2.2.2.1 x2.1 hS4 x3) rfl (Or.inr rfl) rfl rfl rfl (fun r1 σ4 q1 => ?_)
        obtain ⟨rfl, -, b', l', hb', hbd⟩ := q1
        have hG := x4 σ4 b' l' _ hb' hbd
        iterate 1 (refine kX_one rfl ?_)
        obtain ⟨y1, ⟨N3, n3, y2⟩, ⟨b4, l4, z1, z2, -⟩, -⟩ := hG
        refine kX_lv _ rfl rfl rfl (k90 (nI (6 * r + dn)) v σ4 ⟨N2, m1, m2, y1, ⟨b4, z2⟩, ?_⟩ (fun _ => x4 σ4 b' l' _ hb' hbd))
        have hF3 : mSf τ2 (va_up (va_up τ2 264 D) 265 V) n := mSf_trans (mSf_up (c := 264) (by decide)) (mSf_up (c := 265) (by decide))
        exact mSs_fr x1 x2.1 hbd.1 (mSs_sf m4 (mSf_Ro h m3 hB.1) hF3 rfl rfl rfl rfl rfl m5)
      have k42 : τ 249 (6 * r + dn) ≠ 0 → kX kT L xs (d + 10) 218 42 [(4, .int (-6)), (3, .int (nI (6 * r + dn))), (2, .int (nI s)), (0, .ref 232), (1, .int (nI i))] [] τ (fun r σ' => goP σ σ' n R S C N r) := by
        intro hse
        obtain ⟨c1, c2⟩ := sd_cfg e2 hB2.1 (g2.2.2 i (by omega)).1 q a1 a2 a3 hdn hse
        have hF1 : mSf τ (va_up τ 264 (upd (τ 264) s (nI (dn + 1)))) n := mSf_up (c := 264) (by decide)
        have hdo : ∀ u, u < S → upd (τ 264) s (nI (dn + 1)) u = upd (stD τ i) s (nI (dn + 1)) u := fun u hu => by
          by_cases e : u = s
          · subst e
            rw [pk_us, pk_us]
          · rw [pk_un e, pk_un e]
            exact g4 u hu
        have hc1 : cfg (va_up τ 264 (upd (τ 264) s (nI (dn + 1)))) n R S (upd (τ 264) s (nI (dn + 1))) (τ 265) := cfg_sf e2 hB2.1 hF1 (cfg_ext hdo g5 c1)
        have hSs3 : mSs (va_up τ 264 (upd (τ 264) s (nI (dn + 1)))) n R S N' := mSs_sf e2 hB2.1 hF1 rfl rfl rfl rfl rfl g2
        have hlink : stp S (stD (va_up τ 264 (upd (τ 264) s (nI (dn + 1)))) i) (stV (va_up τ 264 (upd (τ 264) s (nI (dn + 1)))) i) (upd (τ 264) s (nI (dn + 1))) (τ 265) s := stp_ext (fun _ _ => rfl) (fun _ _ _ _ => rfl) hdo g5 c2
        have hT1 : mTb (va_up τ 264 (upd (τ 264) s (nI (dn + 1)))) n b := e2
        iterate 4 (refine kX_one rfl ?_)
        refine kX_ialdV rfl rfl (by decide) (s) (by first | rfl | decide) (by omega) (hds) ?_
        iterate 2 (refine kX_one rfl ?_)
        refine kX_top (nI_1 dn) ?_
        refine kX_iastN rfl rfl (by decide) (s) (by first | rfl | decide) (by omega) ?_
        have hcom := mr_comesToBe L xs (d + 1) (va_up τ 264 (upd (τ 264) s (nI (dn + 1)))) n b R S C N' kl (nI i) (nI s) hT1 (mBs_sf e2 hF1 hB2) hSs3 hc1 (Or.inr ⟨i, s, by omega, rfl, rfl, hlink⟩)
        generalize va_up τ 264 (upd (τ 264) s (nI (dn + 1))) = ρ1 at *
        iterate 3 (refine kX_one rfl ?_)
        refine kX_cal hcom rfl (Or.inr rfl) rfl rfl rfl (fun r1 σ2 q1 => ?_)
        obtain ⟨N3, m1, m2, hr, hsf, hb3, hss, -⟩ := q1
        have hP : goP σ σ2 n R S C N r1 := ⟨N3, by omega, hr, mSf_trans g1 (mSf_trans hF1 hsf), hb3, hss⟩
        rcases hr with rfl | rfl | ⟨c', hc', rfl, -⟩
        · exact k58 _ σ2 hP
        · exact k58 _ σ2 hP
        · exact k58 _ σ2 hP
      iterate 4 (refine kX_one rfl ?_)
      repeat refine kX_one rfl ?_
      refine kX_ifF (decide_eq_false (nI_pos (by omega))) ?_
      iterate 3 (refine kX_one rfl ?_)
      refine kX_baldN rfl rfl (by decide) (6 * r + dn) (by first | rfl | decide) (by omega) ?_
      repeat refine kX_one rfl ?_
      refine kX_if (fun q2 => ?_) (fun q2 => ?_)
      · have q2 : τ 249 (6 * r + dn) = 0 := qeq q2
        iterate 1 (refine kX_one rfl ?_)
        repeat refine kX_one rfl ?_
        refine kX_ifF (decide_eq_false (nI_pos (by omega))) ?_
        exact kX_lv _ rfl rfl rfl (k76 q2)
      · have q2 : τ 249 (6 * r + dn) ≠ 0 := qeqF q2
        exact kX_lv _ rfl rfl rfl (k42 q2)
    · rw [if_neg hdn]
      iterate 7 (refine kX_one rfl ?_)
      exact kX_lv _ rfl rfl rfl (k90 (-1) (-6) τ ⟨N', n1, Or.inl rfl, g1, ⟨b, e2⟩, g2⟩ (fun _ => hgo))
set_option maxRecDepth 100000 in
set_option maxHeartbeats 4000000 in
theorem mr_goesOn (L : Nat) (xs : Nat → Int32) (d : Nat) (σ : kS) (n b R S C N i : Nat) (kl : List Nat) (h : mTb σ n b) (hB : mBs σ n R S C kl) (hS : mSs σ n R S N) (hi : i < N) : kXM kT L xs (d + 10) 218 [.ref 232, .int (nI i)] σ (fun r σ' => goP σ σ' n R S C N r) := by
  have hS4 := hB.2.1.1
  have hN6 := hS.1
  unfold kXM
  iterate 2 (refine kX_one rfl ?_)
  refine kX_cal (mr_takeState L xs (d + 8) σ S i hB.2.1.2.1 hS4 (by omega)) rfl (Or.inr rfl) rfl rfl rfl (fun r1 σ3 q1 => ?_)
  obtain ⟨rfl, D, V, rfl, hD, hV⟩ := q1
  obtain ⟨⟨x1, x2, x3⟩, x4⟩ := go_take h hB (mSf_refl σ n) h (Nat.le_refl N) hS hi hD hV
  iterate 1 (refine kX_one rfl ?_)
  refine kX_cal (mr_stateRow L xs (d + 2) _ n b R S kl x1 x2.2.2.1 x2.1 hS4 x3) rfl (Or.inr rfl) rfl rfl rfl (fun r1 σ4 q1 => ?_)
  obtain ⟨rfl, -, b', l', hb', hbd⟩ := q1
  iterate 2 (refine kX_one rfl ?_)
  exact kX_lv _ rfl rfl rfl (mr_go_loop L xs d σ n b R S C N i kl h hB hi (0, σ4) ⟨Nat.zero_le _, x4 σ4 b' l' _ hb' hbd⟩)
