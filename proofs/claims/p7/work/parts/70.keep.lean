/-! the reference: what the making of a row leaves as it was -/
theorem mFr_bdv {σ τ : kS} {n b R r dn k : Nat} (h : mTb σ n b) (hR : mRo σ n R) (hF : mFr σ τ n) (hr : r < R) (hdn : dn ≤ fN (σ 247 r)) : bdv τ r dn k ↔ bdv σ r dn k := by
  have hn := h.1
  have c := fun c (hc : c ∉ rowC) => hF.1 c hc
  unfold bdv
  rw [c 244 (by decide), c 246 (by decide), c 249 (by decide), c 245 (by decide), c 248 (by decide)]
  refine and_congr_right (fun _ => or_congr_right ?_)
  constructor
  · rintro ⟨e, e1, e2, e3⟩
    obtain ⟨t, t1, t2, -⟩ := hR.2.2.2.2.2 r e hr (by omega)
    refine ⟨e, e1, e2, ?_⟩
    rw [t2, fN_nI (by omega)] at e3 ⊢
    rw [(mFr_all h hF t1).2.2] at e3
    exact e3
  · rintro ⟨e, e1, e2, e3⟩
    obtain ⟨t, t1, t2, -⟩ := hR.2.2.2.2.2 r e hr (by omega)
    refine ⟨e, e1, e2, ?_⟩
    rw [t2, fN_nI (by omega)] at e3 ⊢
    rw [(mFr_all h hF t1).2.2]
    exact e3
theorem mFr_Vz {σ τ : kS} {n b r k : Nat} {x : Int32} (h : mTb σ n b) (hF : mFr σ τ n) (hz : mVz σ n r k x) : mVz τ n r k x := by
  obtain ⟨z, z1, z2, z3, z4⟩ := hz
  refine ⟨z, z1, z2, (mFr_all h hF z1).2.1.trans z3, ?_⟩
  rw [hF.1 240 (by decide), hF.1 245 (by decide), (hF.2.2 z (by have := h.1; omega)).1]
  exact z4
theorem mFr_Bi {σ τ : kS} {n b R S : Nat} {ds : List Nat} (h : mTb σ n b) (hR : mRo σ n R) (hF : mFr σ τ n) (hS : mRn σ n R S ds) (hB : mBi σ ds) : mBi τ ds := by
  have hn := h.1
  have hR4 := hR.1
  intro k hk
  obtain ⟨m, m1, m2, m3⟩ := hB k hk
  obtain ⟨r, r1, r2, r3, r4, -⟩ := hS.2.2.2 _ (hS.2.2.1 _ (List.getElem_mem hk))
  have hcnt : (ds.take k).count ds[k] < ds.count ds[k] := by
    have := count_take_le ds ds[k] (k + 1)
    rw [List.take_succ_eq_append_getElem hk, List.count_append] at this
    simp at this
    omega
  have hfr : fN (σ 255 ds[k]) = r := by rw [r2]; exact fN_nI (by omega)
  refine ⟨m, m1, by rw [hF.1 275 (by decide)]; exact m2, fun p hp => ?_⟩
  rw [m3 p hp, hF.1 255 (by decide), hfr]
  unfold nbv
  rw [mFr_bdv h hR hF r1 (by omega), mFr_bdv h hR hF r1 (by omega)]
theorem mFr_Ak {σ τ : kS} {n b R S : Nat} (h : mTb σ n b) (hR : mRo σ n R) (hSe : mSe σ n R S) (hF : mFr σ τ n) (hA : mAk σ n R S) : mAk τ n R S := by
  have hn := h.1
  have hR4 := hR.1
  have c := fun c (hc : c ∉ rowC) => hF.1 c hc
  rcases hA with hA | ⟨as, fin, a0, a1, a2, a3, a4⟩
  · exact Or.inl ((hF.2.1 _ (by decide)).trans hA)
  · refine Or.inr ⟨as, fin, a0, (hF.2.1 _ (by decide)).trans a1, by rw [c 288 (by decide)]; exact a2, ?_, ?_⟩
    · rw [c 247 (by decide), c 255 (by decide), c 246 (by decide), c 256 (by decide)]
      intro s hs
      obtain ⟨b1, b2, b3⟩ := a3 s hs
      obtain ⟨r, r1, r2, -⟩ := hSe.2.2 s b1
      have hfr : fN (σ 255 s) = r := by rw [r2]; exact fN_nI (by omega)
      refine ⟨b1, b2, fun k hk hb => ?_⟩
      rw [hfr] at hb b2 b3 ⊢
      rw [mFr_bdv h hR hF r1 b2] at hb
      obtain ⟨c1, c2⟩ := b3 k hk hb
      exact ⟨mFr_Vz h hF c1, c2⟩
    · rw [c 289 (by decide), c 285 (by decide), c 255 (by decide)]
      intro i hi
      obtain ⟨st, s1, s2, s3⟩ := a4 i hi
      obtain ⟨b1, b2, -⟩ := a3 _ (List.getElem_mem hi)
      obtain ⟨r, r1, r2, -⟩ := hSe.2.2 _ b1
      have hfr : fN (σ 255 as[i]) = r := by rw [r2]; exact fN_nI (by omega)
      have hcnt : (as.take i).count as[i] + 1 ≤ as.count as[i] := by
        have := count_take_le as as[i] (i + 1)
        rw [List.take_succ_eq_append_getElem hi, List.count_append] at this
        simp at this
        omega
      refine ⟨st, s1, s2, fun k hk => ?_⟩
      rw [s3 k hk, hfr]
      rw [hfr] at b2
      rw [propext (mFr_bdv h hR hF r1 (by omega))]
theorem mFr_A {σ τ : kS} {n : Nat} (hF : mFr σ τ n) : mA τ = mA σ := funext fun t => propext ⟨fun q => ⟨q.1, (hF.2.2 t q.1).1.symm.trans q.2⟩, fun q => ⟨q.1, (hF.2.2 t q.1).1.trans q.2⟩⟩
theorem fold_congr {α : Type} {f g : α → Nat → α} : ∀ (l : List Nat) (a : α), (∀ t ∈ l, ∀ a, f a t = g a t) → l.foldl f a = l.foldl g a
  | [], _, _ => rfl
  | x :: l, a, h => by
    rw [List.foldl_cons, List.foldl_cons, h x List.mem_cons_self]
    exact fold_congr l _ (fun t ht => h t (List.mem_cons_of_mem _ ht))
theorem mFr_trKn {σ τ : kS} {n b : Nat} {kl : List Nat} (h : mTb σ n b) (hF : mFr σ τ n) (hK : mKn σ n kl) : trKn τ kl = trKn σ kl := by
  unfold trKn
  refine fold_congr kl [] (fun t ht a => ?_)
  rw [(mFr_all h hF (hK.2.2.2 t ht).1).1]
theorem mFr_trSn {σ τ : kS} {n b R S : Nat} {ds : List Nat} (h : mTb σ n b) (hR : mRo σ n R) (hF : mFr σ τ n) (hS : mRn σ n R S ds) (tr : trT) : ∀ k, k ≤ ds.length → trSn τ ds tr k = trSn σ ds tr k
  | 0, _ => rfl
  | k + 1, hk => by
    have hn := h.1
    have hR4 := hR.1
    have ih := mFr_trSn h hR hF hS tr k (by omega)
    have hkl : k < ds.length := hk
    have hgd : ds.getD k 0 = ds[k] := by rw [List.getD_eq_getElem?_getD, List.getElem?_eq_getElem hkl]; rfl
    obtain ⟨r, r1, r2, r3, r4, r5, r6, -⟩ := hS.2.2.2 _ (hS.2.2.1 _ (List.getElem_mem hkl))
    have hcnt : (ds.take k).count ds[k] < ds.count ds[k] := by
      have := count_take_le ds ds[k] (k + 1)
      rw [List.take_succ_eq_append_getElem hkl, List.count_append] at this
      simp at this
      omega
    have hmev : mEv τ ds[k] ((ds.take k).count ds[k]) = mEv σ ds[k] ((ds.take k).count ds[k]) := by
      unfold mEv
      rw [hF.1 255 (by decide)]
    have hmev2 : mEv σ ds[k] ((ds.take k).count ds[k]) = 6 * r + (ds.take k).count ds[k] := by
      unfold mEv
      rw [r2, fN_nI (by omega)]
    obtain ⟨t, t1, t2, -⟩ := hR.2.2.2.2.2 r ((ds.take k).count ds[k]) r1 (by omega)
    have hst := r6 _ hcnt
    rw [trSn, trSn, hgd, ih, hmev, hF.1 249 (by decide), hF.1 248 (by decide), hmev2]
    rw [t2, fN_nI (by omega)] at hst ⊢
    rw [mFr_tin h hF t t1 hst]
theorem mFr_trRun {σ τ : kS} {n b R S : Nat} {kl ds : List Nat} (h : mTb σ n b) (hR : mRo σ n R) (hF : mFr σ τ n) (hK : mKn σ n kl) (hS : mRn σ n R S ds) : trRun τ kl ds = trRun σ kl ds := by
  unfold trRun
  rw [mFr_A hF, hF.1 238 (by decide), mFr_trKn h hF hK, mFr_trSn h hR hF hS _ _ (Nat.le_refl _)]
/-- the making of a row keeps all -/
theorem mI_fr {σ τ : kS} {n b b' R S C : Nat} {kl : List Nat} (h : mI σ n b R S C kl) (hF : mFr σ τ n) (hT : mTb τ n b') (hRi : mRi τ n b' R S kl) : mI τ n b' R S C kl := by
  obtain ⟨h1, h2, h3, h4, h5, h6, h7⟩ := h
  exact ⟨hT, mFr_Ro h1 hF h2, mFr_Se h1 hF h3, mFr_Kn h1 hF h4, mFr_Cl hF h5, hRi, mFr_Ak h1 h2 h3 hF h7⟩
/-- the row is there, behind runRow -/
theorem mr_row (L : Nat) (xs : Nat → Int32) (d : Nat) (σ : kS) (n b R S C : Nat) (kl ds : List Nat) (h : mI σ n b R S C kl) (hr : σ 232 52 = 1) (hS : mRn σ n R S ds) (hB : mBi σ ds) (ht : mRt σ n b kl ds) : kXM kT L xs (d + 7) 190 [.ref 232] σ (fun r σ' => r = none ∧ mFr σ σ' n ∧ σ' 232 47 = 1 ∧ ∃ b' l, b' ≤ 776 ∧ mTb σ' n b' ∧ mRq σ' (mvG σ' n b') l ∧ mJd σ' n b' l ∧ rwM σ' l = trRun σ kl ds) := by
  obtain ⟨h1, h2, h3, h4, h5, h6, h7⟩ := h
  rcases ht with ht | ⟨ht, hb, l, l1, l2, l3⟩
  · refine kX_post (mr_runRow L xs d σ n b R S kl ds h1 h4 h2 h3.1 hS ht) ?_
    rintro r σ' ⟨rfl, g1, b', l, g2, g3⟩
    exact ⟨rfl, g3.1, g1, b', l, g2, g3.2.1, g3.2.2.1, g3.2.2.2.1, g3.2.2.2.2⟩
  · unfold kXM
    iterate 2 (refine kX_one rfl ?_)
    refine kX_top (ht) ?_
    iterate 1 (refine kX_one rfl ?_)
    refine kX_ret (i := .return_) (len := 1) rfl (Or.inr rfl) rfl (⟨rfl, mFr_refl σ n, ht, b, l, hb, h1, l1, l2, l3⟩)
