section
/-! the reference: what the making of a row leaves as it was -/
theorem mFr_bdv {σ τ : kS} {n b R r dn k : Nat} (h : mTb σ n b) (hR : mRo σ n R) (hF : mFr σ τ n) (hr : r < R) (hdn : dn ≤ fN (σ 247 r)) : bdv τ r dn k ↔ bdv σ r dn k := by
  have hn := h.1
  have c := fun c (hc : c ∉ rowC) => hF.1 c hc
  unfold bdv
  rw [c 244 (by decide), c 246 (by decide), c 249 (by decide), c 245 (by decide), c 248 (by decide)]
  refine and_congr_right (fun _ => or_congr_right ?_)
  constructor
  · rintro ⟨e, e1, e2, e3⟩
    obtain ⟨t, t1, t2, -⟩ := hR.2.2.2.2.2 r e hr (by omega)
    refine ⟨e, e1, e2, ?_⟩
    rw [t2, fN_nI (by omega)] at e3 ⊢
    rw [(mFr_all h hF t1).2.2] at e3
    exact e3
  · rintro ⟨e, e1, e2, e3⟩
    obtain ⟨t, t1, t2, -⟩ := hR.2.2.2.2.2 r e hr (by omega)
    refine ⟨e, e1, e2, ?_⟩
    rw [t2, fN_nI (by omega)] at e3 ⊢
    rw [(mFr_all h hF t1).2.2]
    exact e3
theorem mFr_Vz {σ τ : kS} {n b r k : Nat} {x : Int32} (h : mTb σ n b) (hF : mFr σ τ n) (hz : mVz σ n r k x) : mVz τ n r k x := by
  obtain ⟨z, z1, z2, z3, z4⟩ := hz
  refine ⟨z, z1, z2, (mFr_all h hF z1).2.1.trans z3, ?_⟩
  rw [hF.1 240 (by decide), hF.1 245 (by decide), (hF.2.2 z (by have := h.1; omega)).1]
  exact z4
theorem mFr_Bi {σ τ : kS} {n b R S : Nat} {ds : List Nat} (h : mTb σ n b) (hR : mRo σ n R) (hF : mFr σ τ n) (hS : mRn σ n R S ds) (hB : mBi σ ds) : mBi τ ds := by
  have hn := h.1
  have hR4 := hR.1
  intro k hk
  obtain ⟨m, m1, m2, m3⟩ := hB k hk
  obtain ⟨r, r1, r2, r3, r4, -⟩ := hS.2.2.2 _ (hS.2.2.1 _ (List.getElem_mem hk))
  have hcnt : (ds.take k).count ds[k] < ds.count ds[k] := by
    have := count_take_le ds ds[k] (k + 1)
    rw [List.take_succ_eq_append_getElem hk, List.count_append] at this
    simp at this
    omega
  have hfr : fN (σ 255 ds[k]) = r := by rw [r2]; exact fN_nI (by omega)
  refine ⟨m, m1, by rw [hF.1 275 (by decide)]; exact m2, fun p hp => ?_⟩
  rw [m3 p hp, hF.1 255 (by decide), hfr]
  unfold nbv
  rw [mFr_bdv h hR hF r1 (by omega), mFr_bdv h hR hF r1 (by omega)]
theorem mFr_Ak {σ τ : kS} {n b R S : Nat} (h : mTb σ n b) (hR : mRo σ n R) (hSe : mSe σ n R S) (hF : mFr σ τ n) (hA : mAk σ n R S) : mAk τ n R S := by
  have hn := h.1
  have hR4 := hR.1
  have c := fun c (hc : c ∉ rowC) => hF.1 c hc
  rcases hA with hA | ⟨as, fin, a0, a1, a2, a3, a4⟩
  · exact Or.inl ((hF.2.1 _ (by decide)).trans hA)
  · refine Or.inr ⟨as, fin, a0, (hF.2.1 _ (by decide)).trans a1, by rw [c 288 (by decide)]; exact a2, ?_, ?_⟩
    · rw [c 247 (by decide), c 255 (by decide), c 246 (by decide), c 256 (by decide)]
      intro s hs
      obtain ⟨b1, b2, b3⟩ := a3 s hs
      obtain ⟨r, r1, r2, -⟩ := hSe.2.2 s b1
      have hfr : fN (σ 255 s) = r := by rw [r2]; exact fN_nI (by omega)
      refine ⟨b1, b2, fun k hk hb => ?_⟩
      rw [hfr] at hb b2 b3 ⊢
      rw [mFr_bdv h hR hF r1 b2] at hb
      obtain ⟨c1, c2⟩ := b3 k hk hb
      exact ⟨mFr_Vz h hF c1, c2⟩
    · rw [c 289 (by decide), c 285 (by decide), c 255 (by decide)]
      intro i hi
      obtain ⟨st, s1, s2, s3⟩ := a4 i hi
      obtain ⟨b1, b2, -⟩ := a3 _ (List.getElem_mem hi)
      obtain ⟨r, r1, r2, -⟩ := hSe.2.2 _ b1
      have hfr : fN (σ 255 as[i]) = r := by rw [r2]; exact fN_nI (by omega)
      have hcnt : (as.take i).count as[i] + 1 ≤ as.count as[i] := by
        have := count_take_le as as[i] (i + 1)
        rw [List.take_succ_eq_append_getElem hi, List.count_append] at this
        simp at this
        omega
      refine ⟨st, s1, s2, fun k hk => ?_⟩
      rw [s3 k hk, hfr]
      rw [hfr] at b2
      rw [propext (mFr_bdv h hR hF r1 (by omega))]
theorem mFr_A {σ τ : kS} {n : Nat} (hF : mFr σ τ n) : mA τ = mA σ := funext fun t => propext ⟨fun q => ⟨q.1, (hF.2.2 t q.1).1.symm.trans q.2⟩, fun q => ⟨q.1, (hF.2.2 t q.1).1.trans q.2⟩⟩
theorem fold_congr {α : Type} {f g : α → Nat → α} : ∀ (l : List Nat) (a : α), (∀ t ∈ l, ∀ a, f a t = g a t) → l.foldl f a = l.foldl g a
  | [], _, _ => rfl
  | x :: l, a, h => by
    rw [List.foldl_cons, List.foldl_cons, h x List.mem_cons_self]
    exact fold_congr l _ (fun t ht => h t (List.mem_cons_of_mem _ ht))
theorem mFr_trKn {σ τ : kS} {n b : Nat} {kl : List Nat} (h : mTb σ n b) (hF : mFr σ τ n) (hK : mKn σ n kl) : trKn τ kl = trKn σ kl := by
  unfold trKn
  refine fold_congr kl [] (fun t ht a => ?_)
  rw [(mFr_all h hF (hK.2.2.2 t ht).1).1]
theorem mFr_trSn {σ τ : kS} {n b R S : Nat} {ds : List Nat} (h : mTb σ n b) (hR : mRo σ n R) (hF : mFr σ τ n) (hS : mRn σ n R S ds) (tr : trT) : ∀ k, k ≤ ds.length → trSn τ ds tr k = trSn σ ds tr k
  | 0, _ => rfl
  | k + 1, hk => by
    have hn := h.1
    have hR4 := hR.1
    have ih := mFr_trSn h hR hF hS tr k (by omega)
    have hkl : k < ds.length := hk
    have hgd : ds.getD k 0 = ds[k] := by rw [List.getD_eq_getElem?_getD, List.getElem?_eq_getElem hkl]; rfl
    obtain ⟨r, r1, r2, r3, r4, r5, r6, -⟩ := hS.2.2.2 _ (hS.2.2.1 _ (List.getElem_mem hkl))
    have hcnt : (ds.take k).count ds[k] < ds.count ds[k] := by
      have := count_take_le ds ds[k] (k + 1)
      rw [List.take_succ_eq_append_getElem hkl, List.count_append] at this
      simp at this
      omega
    have hmev : mEv τ ds[k] ((ds.take k).count ds[k]) = mEv σ ds[k] ((ds.take k).count ds[k]) := by
      unfold mEv
      rw [hF.1 255 (by decide)]
    have hmev2 : mEv σ ds[k] ((ds.take k).count ds[k]) = 6 * r + (ds.take k).count ds[k] := by
      unfold mEv
      rw [r2, fN_nI (by omega)]
    obtain ⟨t, t1, t2, -⟩ := hR.2.2.2.2.2 r ((ds.take k).count ds[k]) r1 (by omega)
    have hst := r6 _ hcnt
    rw [trSn, trSn, hgd, ih, hmev, hF.1 249 (by decide), hF.1 248 (by decide), hmev2]
    rw [t2, fN_nI (by omega)] at hst ⊢
    rw [mFr_tin h hF t t1 hst]
theorem mFr_trRun {σ τ : kS} {n b R S : Nat} {kl ds : List Nat} (h : mTb σ n b) (hR : mRo σ n R) (hF : mFr σ τ n) (hK : mKn σ n kl) (hS : mRn σ n R S ds) : trRun τ kl ds = trRun σ kl ds := by
  unfold trRun
  rw [mFr_A hF, hF.1 238 (by decide), mFr_trKn h hF hK, mFr_trSn h hR hF hS _ _ (Nat.le_refl _)]
/-- the making of a row keeps all -/
theorem mI_fr {σ τ : kS} {n b b' R S C : Nat} {kl : List Nat} (h : mI σ n b R S C kl) (hF : mFr σ τ n) (hT : mTb τ n b') (hRi : mRi τ n b' R S kl) : mI τ n b' R S C kl := by
  obtain ⟨h1, h2, h3, h4, h5, h6, h7⟩ := h
  exact ⟨hT, mFr_Ro h1 hF h2, mFr_Se h1 hF h3, mFr_Kn h1 hF h4, mFr_Cl hF h5, hRi, mFr_Ak h1 h2 h3 hF h7⟩
/-- the row is there, behind runRow -/
theorem mr_row (L : Nat) (xs : Nat → Int32) (d : Nat) (σ : kS) (n b R S C : Nat) (kl ds : List Nat) (h : mI σ n b R S C kl) (hr : σ 232 52 = 1) (hS : mRn σ n R S ds) (hB : mBi σ ds) (ht : mRt σ n b kl ds) : kXM kT L xs (d + 7) 190 [.ref 232] σ (fun r σ' => r = none ∧ mFr σ σ' n ∧ σ' 232 47 = 1 ∧ ∃ b' l, b' ≤ 776 ∧ mTb σ' n b' ∧ mRq σ' (mvG σ' n b') l ∧ mJd σ' n b' l ∧ rwM σ' l = trRun σ kl ds) := by
  obtain ⟨h1, h2, h3, h4, h5, h6, h7⟩ := h
  rcases ht with ht | ⟨ht, hb, l, l1, l2, l3⟩
  · refine kX_post (mr_runRow L xs d σ n b R S kl ds h1 h4 h2 h3.1 hS ht) ?_
    rintro r σ' ⟨rfl, g1, b', l, g2, g3⟩
    exact ⟨rfl, g3.1, g1, b', l, g2, g3.2.1, g3.2.2.1, g3.2.2.2.1, g3.2.2.2.2⟩
  · unfold kXM
    iterate 2 (refine kX_one rfl ?_)
    refine kX_top (ht) ?_
    iterate 1 (refine kX_one rfl ?_)
    refine kX_ret (i := .return_) (len := 1) rfl (Or.inr rfl) rfl (⟨rfl, mFr_refl σ n, ht, b, l, hb, h1, l1, l2, l3⟩)
end
section
/-! the reference: one EVENT more; calls of the RUN -/
/-- contents when the session s has done one EVENT more, with values V -/
def stS (σ : kS) (V : Nat → Int32) (s k dn : Nat) (bd : Int32) : kS := va_up (va_up (va_up (va_up (va_up σ 265 V) 274 (upd (σ 274) k (nI s))) 275 (upd (σ 275) k bd)) 232 (upd (σ 232) 55 (nI (k + 1)))) 264 (upd (σ 264) s (nI (dn + 1)))
theorem mRn_push {σ : kS} {V : Nat → Int32} {n b R S s r m : Nat} {ds : List Nat} {bd : Int32} (h : mTb σ n b) (hR : mRo σ n R) (hS4 : S ≤ 4) (hS : mRn σ n R S ds) (hB : mBi σ ds) (hs : s < S) (r1 : r < R) (r2 : σ 255 s = nI r) (hdn : ds.count s < fN (σ 247 r)) (hVo : ∀ j, (∀ k, k < 6 → j ≠ 6 * s + k) → V j = σ 265 j)
    (hv : ∀ k, k < 6 → (bdv σ r (ds.count s + 1) k → mVz σ n r k (V (6 * s + k))) ∧ (¬ bdv σ r (ds.count s + 1) k → V (6 * s + k) = -6)) (hm : m < 64) (hbd : bd = nI m) (hmb : ∀ p, p < 6 → (m / 2 ^ p % 2 = 1 ↔ nbv σ r (ds.count s) p)) :
    mRn (stS σ V s ds.length (ds.count s) bd) n R S (ds ++ [s]) ∧ mBi (stS σ V s ds.length (ds.count s) bd) (ds ++ [s]) := by
  have hR4 := hR.1
  have hfr : fN (σ 255 s) = r := by rw [r2]; exact fN_nI (by omega)
  obtain ⟨a1, a2, a3, a4⟩ := hS
  constructor
  · refine ⟨?_, lst_push a2 s, fun s' hs' => ?_, fun s' hs' => ?_⟩
    · show nI (ds.length + 1) = _
      rw [List.length_append]
      rfl
    · rcases List.mem_append.mp hs' with q | q
      · exact a3 s' q
      · rw [List.mem_singleton] at q
        omega
    · by_cases e : s' = s
      · subst e
        have ec : (ds ++ [s']).count s' = ds.count s' + 1 := by rw [List.count_append]; simp
        rw [ec]
        exact mSn_of (σ := stS σ V s' ds.length (ds.count s') bd) (b := b) h hR r1 r2 pk_us (by exact hdn) hv
      · have ec : (ds ++ [s]).count s' = ds.count s' := by rw [List.count_append]; simp [Ne.symm e]
        rw [ec]
        obtain ⟨r', r1', r2', -⟩ := a4 s' hs'
        obtain ⟨b1, b2, b3⟩ := mSn_iff h hR (a4 s' hs') r2' r1'
        refine mSn_of (σ := stS σ V s ds.length (ds.count s) bd) (b := b) h hR r1' r2' ?_ b2 (fun k hk => ?_)
        · show upd (σ 264) s (nI (ds.count s + 1)) s' = _
          rw [pk_un e]
          exact b1
        · have ev : V (6 * s' + k) = σ 265 (6 * s' + k) := hVo _ (fun k' hk' => by omega)
          show (bdv σ r' (ds.count s') k → mVz σ n r' k (V (6 * s' + k))) ∧ (¬ bdv σ r' (ds.count s') k → V (6 * s' + k) = -6)
          rw [ev]
          exact b3 k hk
  · intro k hk
    rw [List.length_append] at hk
    simp only [List.length_cons, List.length_nil] at hk
    by_cases e : k = ds.length
    · subst e
      have e1 : (ds ++ [s])[ds.length]'(by simp) = s := by simp
      refine ⟨m, hm, ?_, fun p hp => ?_⟩
      · show upd (σ 275) ds.length bd ds.length = _
        rw [pk_us]
        exact hbd
      · rw [e1, hmb p hp]
        have e2 : (ds ++ [s]).take ds.length = ds := by simp
        rw [e2]
        show _ ↔ nbv σ (fN (σ 255 s)) (ds.count s) p
        rw [hfr]
    · have hk' : k < ds.length := by omega
      obtain ⟨m', m1, m2, m3⟩ := hB k hk'
      have e1 : (ds ++ [s])[k]'(by simp; omega) = ds[k] := List.getElem_append_left hk'
      refine ⟨m', m1, ?_, fun p hp => ?_⟩
      · show upd (σ 275) ds.length bd k = _
        rw [pk_un e]
        exact m2
      · rw [e1, m3 p hp, List.take_append_of_le_length (by omega)]
        exact Iff.rfl
set_option maxRecDepth 100000 in
set_option maxHeartbeats 4000000 in
theorem mr_isSession (L : Nat) (xs : Nat → Int32) (d : Nat) (σ : kS) (n : Nat) (x : Int32) (h : σ 232 27 = nI n) (hn : n < 1000000) : kXM kT L xs (d + 1) 168 [.ref 232, .int x] σ (fun r σ' => r = some (.int (isB (isN x n))) ∧ σ = σ') := by
  unfold kXM
  repeat refine kX_one rfl ?_
  refine kX_cal (mr_in L xs d σ _ _ _) rfl (Or.inr rfl) rfl rfl rfl (fun r1 σ1 q1 => ?_)
  obtain ⟨rfl, rfl⟩ := q1
  refine kX_ret (i := .ireturn) (len := 1) rfl (Or.inr rfl) (jend_b rfl (bI_01 _)) ⟨?_, rfl⟩
  rw [isB_dec, ← in_N hn, ← h]
  rfl
set_option maxRecDepth 100000 in
set_option maxHeartbeats 4000000 in
theorem mr_isRole (L : Nat) (xs : Nat → Int32) (d : Nat) (σ : kS) (n : Nat) (x : Int32) (h : σ 232 13 = nI n) (hn : n < 1000000) : kXM kT L xs (d + 1) 161 [.ref 232, .int x] σ (fun r σ' => r = some (.int (isB (isN x n))) ∧ σ = σ') := by
  unfold kXM
  repeat refine kX_one rfl ?_
  refine kX_cal (mr_in L xs d σ _ _ _) rfl (Or.inr rfl) rfl rfl rfl (fun r1 σ1 q1 => ?_)
  obtain ⟨rfl, rfl⟩ := q1
  refine kX_ret (i := .ireturn) (len := 1) rfl (Or.inr rfl) (jend_b rfl (bI_01 _)) ⟨?_, rfl⟩
  rw [isB_dec, ← in_N hn, ← h]
  rfl
theorem mAfter_same {σ : kS} {n b R S C : Nat} {kl : List Nat} (h : mI σ n b R S C kl) : mAfter σ σ R := ⟨mLow_refl σ, n, b, S, C, kl, h⟩
set_option maxRecDepth 100000 in
set_option maxHeartbeats 4000000 in
theorem mr_send (L : Nat) (xs : Nat → Int32) (d : Nat) (σ : kS) (n b R S C : Nat) (kl : List Nat) (x : Int32) (h : mI σ n b R S C kl) : kXM kT L xs (d + 8) 195 [.ref 232, .int x] σ (fun r σ' => (∃ x, r = some (.int x)) ∧ mAfter σ σ' R) := by
  have h0 := h
  obtain ⟨h1, h2, h3, h4, h5, h6, h7⟩ := h
  have hS4 := h3.1
  have hR4 := h2.1
  unfold kXM
  repeat refine kX_one rfl ?_
  refine kX_cal (mr_isSession L xs (d + 6) σ S x h3.2.1 (by omega)) rfl (Or.inr rfl) rfl rfl rfl (fun r1 σ1 q1 => ?_)
  obtain ⟨rfl, rfl⟩ := q1
  repeat refine kX_one rfl ?_
  refine kX_if (fun q => ?_) (fun q => ?_)
  · obtain ⟨s, hs, rfl⟩ := isB_ne.mp (qne q)
    rcases h6 with h6 | ⟨h6, ds, g1, g2, g3⟩
    · iterate 2 (refine kX_one rfl ?_)
      refine kX_top (h6) ?_
      repeat refine kX_one rfl ?_
      refine kX_ret (i := .ireturn) (len := 1) rfl (Or.inr rfl) rfl (⟨⟨_, rfl⟩, mAfter_same h0⟩)
    · obtain ⟨r, r1, r2, r3, r4, r5, r6⟩ := g1.2.2.2 s hs
      obtain ⟨b1, b2, b3⟩ := mSn_iff h1 h2 (g1.2.2.2 s hs) r2 r1
      obtain ⟨-, ev, he6, hev⟩ := h2.2.2.1 r r1
      have hfe : fN (σ 247 r) = ev := by rw [hev]; exact fN_nI (by omega)
      iterate 2 (refine kX_one rfl ?_)
      refine kX_top (h6) ?_
      repeat refine kX_one rfl ?_
      refine kX_cal (mr_nextEvent L xs (d + 6) σ n R s r (ds.count s) h2 (by omega) r1 r2 r3 (by omega)) rfl (Or.inr rfl) rfl rfl rfl (fun r1 σ1 q1 => ?_)
      obtain ⟨rfl, rfl⟩ := q1
      by_cases hlt : ds.count s < fN (σ 247 r)
      · rw [if_pos hlt]
        repeat refine kX_one rfl ?_
        refine kX_ifF (decide_eq_false (nI_pos (by omega))) ?_
        repeat refine kX_one rfl ?_
        refine kX_baldN rfl rfl (by decide) (6 * r + ds.count s) (by first | rfl | decide) (by omega) ?_
        repeat refine kX_one rfl ?_
        refine kX_if (fun q2 => ?_) (fun q2 => ?_)
        · have q2 : σ 249 (6 * r + ds.count s) ≠ 0 := qne q2
          have hlen := mRn_len h2 hS4 g1
          have hlen' : ds.length < 24 := by
            have hp := mRn_push (V := σ 265) (m := 0) (bd := nI 0) h1 h2 hS4 g1 g2 hs r1 r2 hlt (fun _ _ => rfl) (fun k hk => by
              have e : bdv σ r (ds.count s + 1) k ↔ bdv σ r (ds.count s) k := ⟨fun hb => ⟨hb.1, hb.2.elim Or.inl (fun ⟨e, e1, e2, e3⟩ => Or.inr ⟨e, by
                have : e ≠ ds.count s := fun ee => q2 (by rw [← ee]; exact e2)
                omega, e2, e3⟩)⟩, bdv_mono (by omega)⟩
              rw [e]
              exact b3 k hk) (by decide) rfl (fun p hp => by
              rw [Nat.zero_div]
              refine ⟨fun z => absurd z (by decide), fun z => absurd ?_ z.2⟩
              exact ⟨z.1.1, z.1.2.elim Or.inl (fun ⟨e, e1, e2, e3⟩ => Or.inr ⟨e, by
                have : e ≠ ds.count s := fun ee => q2 (by rw [← ee]; exact e2)
                omega, e2, e3⟩)⟩)
            have := mRn_len (σ := stS σ (σ 265) s ds.length (ds.count s) (nI 0)) h2 hS4 hp.1
            rw [List.length_append] at this
            simp at this
            omega
          have hp := mRn_push (V := σ 265) (m := 0) (bd := nI 0) h1 h2 hS4 g1 g2 hs r1 r2 hlt (fun _ _ => rfl) (fun k hk => by
            have e : bdv σ r (ds.count s + 1) k ↔ bdv σ r (ds.count s) k := ⟨fun hb => ⟨hb.1, hb.2.elim Or.inl (fun ⟨e, e1, e2, e3⟩ => Or.inr ⟨e, by
              have : e ≠ ds.count s := fun ee => q2 (by rw [← ee]; exact e2)
              omega, e2, e3⟩)⟩, bdv_mono (by omega)⟩
            rw [e]
            exact b3 k hk) (by decide) rfl (fun p hp => by
            rw [Nat.zero_div]
            refine ⟨fun z => absurd z (by decide), fun z => absurd ?_ z.2⟩
            exact ⟨z.1.1, z.1.2.elim Or.inl (fun ⟨e, e1, e2, e3⟩ => Or.inr ⟨e, by
              have : e ≠ ds.count s := fun ee => q2 (by rw [← ee]; exact e2)
              omega, e2, e3⟩)⟩)
          repeat refine kX_one rfl ?_
          refine kX_cal (mr_does L xs (d + 6) σ s ds.length (ds.count s) (nI 0) (by omega) g1.1 hlen' r3) rfl (Or.inr rfl) rfl rfl rfl (fun r1' σ1 q1 => ?_)
          obtain ⟨rfl, rfl⟩ := q1
          have e0 : va_up (va_up (va_up (va_up σ 274 (upd (σ 274) ds.length (nI s))) 275 (upd (σ 275) ds.length (nI 0))) 232 (upd (σ 232) 55 (nI (ds.length + 1)))) 264 (upd (σ 264) s (nI (ds.count s + 1))) = stS σ (σ 265) s ds.length (ds.count s) (nI 0) := by
            unfold stS
            rw [kup_self]
          rw [e0]
          iterate 4 (refine kX_one rfl ?_)
          have hI : mI (va_up (stS σ (σ 265) s ds.length (ds.count s) (nI 0)) 232 (upd (stS σ (σ 265) s ds.length (ds.count s) (nI 0) 232) 47 (Int32.ofInt 0))) n b R S C kl := ⟨h1, h2, h3, h4, h5, Or.inr ⟨h6, ds ++ [s], hp.1, hp.2, Or.inl rfl⟩, h7⟩
          refine kX_cal (mr_row L xs d _ n b R S C kl (ds ++ [s]) hI h6 hp.1 hp.2 (Or.inl rfl)) rfl (Or.inr rfl) rfl rfl rfl (fun r1' σ1 q1 => ?_)
          obtain ⟨rfl, f1, f2, b', l, f3, f4, f5, f6, f7⟩ := q1
          repeat refine kX_one rfl ?_
          refine kX_ret (i := .ireturn) (len := 1) rfl (Or.inr rfl) rfl ⟨⟨_, rfl⟩, ?_, n, b', S, C, kl, mI_fr hI f1 f4 (Or.inr ⟨(f1.2.1 _ (by decide)).trans h6, ds ++ [s], mFr_Rn hI.1 hI.2.1 f1 hp.1, mFr_Bi hI.1 hI.2.1 f1 hp.1 hp.2, Or.inr ⟨f2, f3, l, f5, f6, ?_⟩⟩)⟩
          · refine mLow_trans ?_ (mLow_fr f1)
            unfold stS
            exact mLow_trans (mLow_trans (mLow_trans (mLow_trans (mLow_trans (mLow_up σ _ (by decide)) (mLow_up _ _ (by decide))) (mLow_up _ _ (by decide))) (mLow_up _ _ (by decide))) (mLow_up _ _ (by decide))) (mLow_up _ _ (by decide))
          · rw [f7, mFr_trRun hI.1 hI.2.1 f1 hI.2.2.2.1 hp.1]
        · repeat refine kX_one rfl ?_
          refine kX_ret (i := .ireturn) (len := 1) rfl (Or.inr rfl) rfl (⟨⟨_, rfl⟩, mAfter_same h0⟩)
      · rw [if_neg hlt]
        repeat refine kX_one rfl ?_
        refine kX_ret (i := .ireturn) (len := 1) rfl (Or.inr rfl) rfl (⟨⟨_, rfl⟩, mAfter_same h0⟩)
  · repeat refine kX_one rfl ?_
    refine kX_ret (i := .ireturn) (len := 1) rfl (Or.inr rfl) rfl (⟨⟨_, rfl⟩, mAfter_same h0⟩)
end
section
/-! the reference: makes, broken, done, stands -/
theorem mI_there {σ τ : kS} {n b b' R S C : Nat} {kl ds : List Nat} {l : rwT} (h : mI σ n b R S C kl) (hr : σ 232 52 = 1) (hS : mRn σ n R S ds) (hB : mBi σ ds) (hF : mFr σ τ n) (f2 : τ 232 47 = 1) (f3 : b' ≤ 776) (f4 : mTb τ n b') (f5 : mRq τ (mvG τ n b') l) (f6 : mJd τ n b' l) (f7 : rwM τ l = trRun σ kl ds) : mI τ n b' R S C kl ∧ mRn τ n R S ds ∧ mBi τ ds ∧ mRt τ n b' kl ds ∧ τ 232 52 = 1 := by
  have e1 := (hF.2.1 52 (by decide)).trans hr
  have e2 := mFr_Rn h.1 h.2.1 hF hS
  have e3 := mFr_Bi h.1 h.2.1 hF hS hB
  have e4 : mRt τ n b' kl ds := Or.inr ⟨f2, f3, l, f5, f6, by rw [f7, mFr_trRun h.1 h.2.1 hF h.2.2.2.1 hS]⟩
  exact ⟨mI_fr h hF f4 (Or.inr ⟨e1, ds, e2, e3, e4⟩), e2, e3, e4, e1⟩
set_option maxRecDepth 100000 in
set_option maxHeartbeats 4000000 in
theorem mr_makes (L : Nat) (xs : Nat → Int32) (d : Nat) (σ : kS) (n b R S C : Nat) (kl : List Nat) (x : Int32) (h : mI σ n b R S C kl) : kXM kT L xs (d + 8) 198 [.ref 232, .int x] σ (fun r σ' => (∃ x, r = some (.int x)) ∧ mAfter σ σ' R) := by
  have h0 := h
  obtain ⟨h1, h2, h3, h4, h5, h6, h7⟩ := h
  have hn := h1.1
  unfold kXM
  repeat refine kX_one rfl ?_
  refine kX_cal (mr_isTerm L xs (d + 6) σ n x h1.2.2.2.1 (by omega)) rfl (Or.inr rfl) rfl rfl rfl (fun r1 σ1 q1 => ?_)
  obtain ⟨rfl, rfl⟩ := q1
  repeat refine kX_one rfl ?_
  refine kX_if (fun q => ?_) (fun q => ?_)
  · obtain ⟨t, ht, rfl⟩ := isB_ne.mp (qne q)
    rcases h6 with h6 | ⟨h6, ds, g1, g2, g3⟩
    · iterate 2 (refine kX_one rfl ?_)
      refine kX_top (h6) ?_
      repeat refine kX_one rfl ?_
      refine kX_ret (i := .ireturn) (len := 1) rfl (Or.inr rfl) rfl (⟨⟨_, rfl⟩, mAfter_same h0⟩)
    · iterate 2 (refine kX_one rfl ?_)
      refine kX_top (h6) ?_
      repeat refine kX_one rfl ?_
      refine kX_baldV rfl rfl (by decide) (t) (by first | rfl | decide) (by omega) (h1.2.2.2.2.2.2.1 t (Or.inl ht)) ?_
      repeat refine kX_one rfl ?_
      refine kX_if (fun q2 => ?_) (fun q2 => ?_)
      · repeat refine kX_one rfl ?_
        refine kX_cal (mr_row L xs d σ n b R S C kl ds h0 h6 g1 g2 g3) rfl (Or.inr rfl) rfl rfl rfl (fun r1 σ1 q1 => ?_)
        obtain ⟨rfl, f1, f2, b', l, f3, f4, f5, f6, f7⟩ := q1
        repeat refine kX_one rfl ?_
        refine kX_cal (mr_canMake L xs (d + 3) σ1 n b' l t f4 f5 f6 (Or.inl ht)) rfl (Or.inr rfl) rfl rfl rfl (fun r1 σ2 q1 => ?_)
        obtain ⟨rfl, M, rfl, f8⟩ := q1
        have hF2 : mFr σ (cmS σ1 M (upd (upd (σ1 232) 49 (nI b')) 50 (nI l.length))) n := mFr_trans f1 (mFr_rwF rwF_cmS)
        have fin := (mI_there h0 h6 g1 g2 hF2 f2 f3 f4 f5 f8 f7).1
        repeat refine kX_one rfl ?_
        refine kX_if (fun q3 => ?_) (fun q3 => ?_)
        · repeat refine kX_one rfl ?_
          refine kX_ret (i := .ireturn) (len := 1) rfl (Or.inr rfl) rfl (⟨⟨_, rfl⟩, mLow_fr hF2, n, b', S, C, kl, fin⟩)
        · repeat refine kX_one rfl ?_
          refine kX_ret (i := .ireturn) (len := 1) rfl (Or.inr rfl) rfl (⟨⟨_, rfl⟩, mLow_fr hF2, n, b', S, C, kl, fin⟩)
      · repeat refine kX_one rfl ?_
        refine kX_ret (i := .ireturn) (len := 1) rfl (Or.inr rfl) rfl (⟨⟨_, rfl⟩, mAfter_same h0⟩)
  · repeat refine kX_one rfl ?_
    refine kX_ret (i := .ireturn) (len := 1) rfl (Or.inr rfl) rfl (⟨⟨_, rfl⟩, mAfter_same h0⟩)
theorem mRn_Sv {σ : kS} {n R S : Nat} {ds : List Nat} (hR : mRo σ n R) (hSe : σ 232 27 = nI S) (h : mRn σ n R S ds) : mSv σ n R S := by
  refine ⟨hSe, fun s hs => ?_⟩
  obtain ⟨r, h1, h2, h3, h4, h5⟩ := h.2.2.2 s hs
  have he : fN (σ 247 r) ≤ 6 := by
    obtain ⟨-, e, e1, e2⟩ := hR.2.2.1 r h1
    rw [e2, fN_nI (by omega)]
    exact e1
  have : fN (σ 264 s) = ds.count s := by rw [h3]; exact fN_nI (by omega)
  rw [this]
  exact ⟨r, h1, h2, h3, h4, h5⟩
set_option maxRecDepth 100000 in
set_option maxHeartbeats 4000000 in
theorem mr_broken (L : Nat) (xs : Nat → Int32) (d : Nat) (σ : kS) (n b R S C : Nat) (kl : List Nat) (x : Int32) (h : mI σ n b R S C kl) : kXM kT L xs (d + 8) 207 [.ref 232, .int x] σ (fun r σ' => (∃ x, r = some (.int x)) ∧ mAfter σ σ' R) := by
  have h0 := h
  obtain ⟨h1, h2, h3, h4, h5, h6, h7⟩ := h
  have hC6 := h5.1
  unfold kXM
  repeat refine kX_one rfl ?_
  refine kX_cal (mr_in L xs (d + 7) σ _ _ _) rfl (Or.inr rfl) rfl rfl rfl (fun r1 σ1 q1 => ?_)
  obtain ⟨rfl, rfl⟩ := q1
  repeat refine kX_one rfl ?_
  refine kX_if (fun q => ?_) (fun q => ?_)
  · have q := (bI_ne _).mp (qne q)
    have q := of_decide_eq_true q
    obtain ⟨c, hc, rfl⟩ : isN x C := (in_N (by omega)).mp (by rw [← h5.2.1]; exact q)
    rcases h6 with h6 | ⟨h6, ds, g1, g2, g3⟩
    · iterate 2 (refine kX_one rfl ?_)
      refine kX_top (h6) ?_
      repeat refine kX_one rfl ?_
      refine kX_ret (i := .ireturn) (len := 1) rfl (Or.inr rfl) rfl (⟨⟨_, rfl⟩, mAfter_same h0⟩)
    · iterate 2 (refine kX_one rfl ?_)
      refine kX_top (h6) ?_
      repeat refine kX_one rfl ?_
      refine kX_cal (mr_row L xs d σ n b R S C kl ds h0 h6 g1 g2 g3) rfl (Or.inr rfl) rfl rfl rfl (fun r1 σ1 q1 => ?_)
      obtain ⟨rfl, f1, f2, b', l, f3, f4, f5, f6, f7⟩ := q1
      have hI1 := mI_there h0 h6 g1 g2 f1 f2 f3 f4 f5 f6 f7
      repeat refine kX_one rfl ?_
      refine kX_cal (mr_isBroken L xs (d + 1) σ1 n b' R S C c l f4 hI1.1.2.1 h3.1 (mRn_Sv hI1.1.2.1 hI1.1.2.2.1.2.1 hI1.2.1) hI1.1.2.2.2.2.1 hc f5 f6) rfl (Or.inr rfl) rfl rfl rfl (fun r1 σ2 q1 => ?_)
      obtain ⟨rfl, k1, k2⟩ := q1
      have hF2 := mFr_trans f1 k1.1
      have fin := (mI_there h0 h6 g1 g2 hF2 ((k2 _ (by decide) (by decide) (by decide)).trans f2) f3 k1.2.1 k1.2.2.1 k1.2.2.2.1 (by rw [k1.2.2.2.2]; exact f7)).1
      repeat refine kX_one rfl ?_
      refine kX_if (fun q3 => ?_) (fun q3 => ?_)
      · repeat refine kX_one rfl ?_
        refine kX_ret (i := .ireturn) (len := 1) rfl (Or.inr rfl) rfl (⟨⟨_, rfl⟩, mLow_fr hF2, n, b', S, C, kl, fin⟩)
      · repeat refine kX_one rfl ?_
        refine kX_ret (i := .ireturn) (len := 1) rfl (Or.inr rfl) rfl (⟨⟨_, rfl⟩, mLow_fr hF2, n, b', S, C, kl, fin⟩)
  · repeat refine kX_one rfl ?_
    refine kX_ret (i := .ireturn) (len := 1) rfl (Or.inr rfl) rfl (⟨⟨_, rfl⟩, mAfter_same h0⟩)
set_option maxRecDepth 100000 in
set_option maxHeartbeats 4000000 in
theorem mr_done (L : Nat) (xs : Nat → Int32) (d : Nat) (σ : kS) (n b R S C : Nat) (kl : List Nat) (x : Int32) (h : mI σ n b R S C kl) : kXM kT L xs (d + 2) 206 [.ref 232, .int x] σ (fun r σ' => (∃ x, r = some (.int x)) ∧ mAfter σ σ' R) := by
  have h0 := h
  obtain ⟨h1, h2, h3, h4, h5, h6, h7⟩ := h
  have hS4 := h3.1
  unfold kXM
  repeat refine kX_one rfl ?_
  refine kX_cal (mr_isSession L xs d σ S x h3.2.1 (by omega)) rfl (Or.inr rfl) rfl rfl rfl (fun r1 σ1 q1 => ?_)
  obtain ⟨rfl, rfl⟩ := q1
  repeat refine kX_one rfl ?_
  refine kX_if (fun q => ?_) (fun q => ?_)
  · obtain ⟨s, hs, rfl⟩ := isB_ne.mp (qne q)
    repeat refine kX_one rfl ?_
    refine kX_if (fun q2 => ?_) (fun q2 => ?_)
    · repeat refine kX_one rfl ?_
      refine kX_ret (i := .ireturn) (len := 1) rfl (Or.inr rfl) rfl (⟨⟨_, rfl⟩, mAfter_same h0⟩)
    · repeat refine kX_one rfl ?_
      refine kX_ialdN rfl rfl (by decide) (s) (by first | rfl | decide) (by omega) ?_
      repeat refine kX_one rfl ?_
      refine kX_ret (i := .ireturn) (len := 1) rfl (Or.inr rfl) rfl (⟨⟨_, rfl⟩, mAfter_same h0⟩)
  · repeat refine kX_one rfl ?_
    refine kX_ret (i := .ireturn) (len := 1) rfl (Or.inr rfl) rfl (⟨⟨_, rfl⟩, mAfter_same h0⟩)
set_option maxRecDepth 100000 in
set_option maxHeartbeats 4000000 in
theorem mr_stands (L : Nat) (xs : Nat → Int32) (d : Nat) (σ : kS) (n b R S C : Nat) (kl : List Nat) (x y : Int32) (h : mI σ n b R S C kl) : kXM kT L xs (d + 2) 205 [.ref 232, .int x, .int y] σ (fun r σ' => (∃ x, r = some (.int x)) ∧ mAfter σ σ' R) := by
  have h0 := h
  obtain ⟨h1, h2, h3, h4, h5, h6, h7⟩ := h
  have hS4 := h3.1
  have hR4 := h2.1
  unfold kXM
  repeat refine kX_one rfl ?_
  refine kX_cal (mr_isSession L xs d σ S x h3.2.1 (by omega)) rfl (Or.inr rfl) rfl rfl rfl (fun r1 σ1 q1 => ?_)
  obtain ⟨rfl, rfl⟩ := q1
  repeat refine kX_one rfl ?_
  refine kX_if (fun q => ?_) (fun q => ?_)
  · repeat refine kX_one rfl ?_
    refine kX_ret (i := .ireturn) (len := 1) rfl (Or.inr rfl) rfl (⟨⟨_, rfl⟩, mAfter_same h0⟩)
  · obtain ⟨s, hs, rfl⟩ := isB_ne.mp (qeqF q)
    obtain ⟨r, r1, r2, -⟩ := h3.2.2 s hs
    obtain ⟨⟨v, hv6, hv⟩, -⟩ := h2.2.2.1 r r1
    repeat refine kX_one rfl ?_
    refine kX_ialdV rfl rfl (by decide) (s) (by first | rfl | decide) (by omega) (r2) ?_
    refine kX_ialdV rfl rfl (by decide) (r) (by first | rfl | decide) (by omega) (hv) ?_
    repeat refine kX_one rfl ?_
    refine kX_cal (mr_in L xs (d + 1) σ _ _ _) rfl (Or.inr rfl) rfl rfl rfl (fun r1 σ1 q1 => ?_)
    obtain ⟨rfl, rfl⟩ := q1
    repeat refine kX_one rfl ?_
    refine kX_if (fun q2 => ?_) (fun q2 => ?_)
    · have q2 := of_decide_eq_true ((bI_ne _).mp (qne q2))
      obtain ⟨k, hk, rfl⟩ : isN y v := (in_N (by omega)).mp q2
      repeat refine kX_one rfl ?_
      refine kX_if (fun q3 => ?_) (fun q3 => ?_)
      · repeat refine kX_one rfl ?_
        refine kX_ret (i := .ireturn) (len := 1) rfl (Or.inr rfl) rfl (⟨⟨_, rfl⟩, mAfter_same h0⟩)
      · repeat refine kX_one rfl ?_
        refine kX_ialdN rfl rfl (by decide) (6 * s + k) (ix6 s k) (by omega) ?_
        repeat refine kX_one rfl ?_
        refine kX_ret (i := .ireturn) (len := 1) rfl (Or.inr rfl) rfl (⟨⟨_, rfl⟩, mAfter_same h0⟩)
    · repeat refine kX_one rfl ?_
      refine kX_ret (i := .ireturn) (len := 1) rfl (Or.inr rfl) rfl (⟨⟨_, rfl⟩, mAfter_same h0⟩)
end
section
/-! the reference: receive -/
theorem tin_val {σ : kS} {V : Nat → Int32} {n b s s0 k0 dn : Nat} {bd : Int32} (h : mTb σ n b) : ∀ t, t < n → (∀ u ∈ tvs (σ 233) (σ 234) (σ 235) t, V (6 * s + fN (σ 241 u)) = σ 265 (6 * s + fN (σ 241 u))) → tin (stS σ V s0 k0 dn bd) s t = tin σ s t := by
  have hV := mTb_num h
  intro t
  induction t using Nat.strongRecOn with
  | _ t ih =>
    intro ht hv
    rcases (hV t ht).2 with ⟨k, h3, hk, -, -⟩ | ⟨k, x, y, h3, hk, hx, hy, h4, h5, h6, h7⟩ | ⟨k, x, h3, hk, hx, hy, h4, h6⟩
    · have e1 : tin (stS σ V s0 k0 dn bd) s t = if σ 233 t = nI 3 then tvl (σ 233) (σ 234) (σ 235) (fN (V (6 * s + fN (σ 241 t)))) else .arg t := tA_0 (K := σ 233) hk h3
      have e2 : tin σ s t = if σ 233 t = nI 3 then tvl (σ 233) (σ 234) (σ 235) (fN (σ 265 (6 * s + fN (σ 241 t)))) else .arg t := tA_0 (K := σ 233) hk h3
      rw [e1, e2]
      by_cases hk3 : σ 233 t = nI 3
      · have hu : t ∈ tvs (σ 233) (σ 234) (σ 235) t := by
          unfold tvs
          rw [tA_0 hk h3, if_pos hk3]
          exact List.mem_singleton.mpr rfl
        rw [hv t hu]
      · rw [if_neg hk3, if_neg hk3]
    · have evs : tvs (σ 233) (σ 234) (σ 235) t = tvs (σ 233) (σ 234) (σ 235) x ++ tvs (σ 233) (σ 234) (σ 235) y := tA_2 hV hk hx hy (by omega) (by omega) h4 h5 h6 h7
      have e1 : tin (stS σ V s0 k0 dn bd) s t = vnd k (tin (stS σ V s0 k0 dn bd) s x) (some (tin (stS σ V s0 k0 dn bd) s y)) := tA_2 (K := σ 233) (F := σ 234) (S := σ 235) hV hk hx hy (by omega) (by omega) h4 h5 h6 h7
      have e2 : tin σ s t = vnd k (tin σ s x) (some (tin σ s y)) := tA_2 (K := σ 233) (F := σ 234) (S := σ 235) hV hk hx hy (by omega) (by omega) h4 h5 h6 h7
      rw [e1, e2, ih x h4 h6 (fun u hu => hv u (by rw [evs]; exact List.mem_append_left _ hu)), ih y h5 h7 (fun u hu => hv u (by rw [evs]; exact List.mem_append_right _ hu))]
    · have evs : tvs (σ 233) (σ 234) (σ 235) t = tvs (σ 233) (σ 234) (σ 235) x ++ [] := tA_1 hV hk hx hy (by omega) (by omega) h4 h6
      have e1 : tin (stS σ V s0 k0 dn bd) s t = vnd k (tin (stS σ V s0 k0 dn bd) s x) none := tA_1 (K := σ 233) (F := σ 234) (S := σ 235) hV hk hx hy (by omega) (by omega) h4 h6
      have e2 : tin σ s t = vnd k (tin σ s x) none := tA_1 (K := σ 233) (F := σ 234) (S := σ 235) hV hk hx hy (by omega) (by omega) h4 h6
      rw [e1, e2, ih x h4 h6 (fun u hu => hv u (by rw [evs]; exact List.mem_append_left _ hu))]
/-- an EVENT that receives leaves the row as it is -/
theorem trRun_recv {σ : kS} {V : Nat → Int32} {n b R S s r : Nat} {kl ds : List Nat} {bd : Int32} (h : mTb σ n b) (hR : mRo σ n R) (hS : mRn σ n R S ds) (hs : s < S) (r1 : r < R) (r2 : σ 255 s = nI r) (hq : σ 249 (6 * r + ds.count s) = 0) (hVo : ∀ j, (∀ k, k < 6 → j ≠ 6 * s + k) → V j = σ 265 j) (hVk : ∀ k, k < 6 → ¬ σ 265 (6 * s + k) < 0 → V (6 * s + k) = σ 265 (6 * s + k)) :
    trRun (stS σ V s ds.length (ds.count s) bd) kl (ds ++ [s]) = trRun σ kl ds := by
  have hn := h.1
  have hR4 := hR.1
  have key : ∀ k, k ≤ ds.length → trSn (stS σ V s ds.length (ds.count s) bd) (ds ++ [s]) (trKn σ kl) k = trSn σ ds (trKn σ kl) k := by
    intro k
    induction k with
    | zero => intro _; rfl
    | succ k ih =>
      intro hk
      have hkl : k < ds.length := hk
      have hg1 : (ds ++ [s]).getD k 0 = ds[k] := by rw [List.getD_eq_getElem?_getD, List.getElem?_append_left hkl, List.getElem?_eq_getElem hkl]; rfl
      have hg2 : ds.getD k 0 = ds[k] := by rw [List.getD_eq_getElem?_getD, List.getElem?_eq_getElem hkl]; rfl
      obtain ⟨r', q1, q2, q3, q4, q5, q6, -⟩ := hS.2.2.2 _ (hS.2.2.1 _ (List.getElem_mem hkl))
      have hcnt : (ds.take k).count ds[k] < ds.count ds[k] := by
        have := count_take_le ds ds[k] (k + 1)
        rw [List.take_succ_eq_append_getElem hkl, List.count_append] at this
        simp at this
        omega
      obtain ⟨t, t1, t2, -⟩ := hR.2.2.2.2.2 r' ((ds.take k).count ds[k]) q1 (by omega)
      have hst := q6 _ hcnt
      have hmev : mEv σ ds[k] ((ds.take k).count ds[k]) = 6 * r' + (ds.take k).count ds[k] := by
        unfold mEv
        rw [q2, fN_nI (by omega)]
      have hmev' : mEv (stS σ V s ds.length (ds.count s) bd) ds[k] ((ds.take k).count ds[k]) = 6 * r' + (ds.take k).count ds[k] := hmev
      rw [trSn, trSn, hg1, hg2, ih (by omega), List.take_append_of_le_length (by omega), hmev, hmev']
      show cit (σ 249 (6 * r' + (ds.take k).count ds[k]) ≠ 0) (trA _ (tin (stS σ V s ds.length (ds.count s) bd) ds[k] (fN (σ 248 (6 * r' + (ds.take k).count ds[k])))) _ _) _ = _
      rw [t2, fN_nI (by omega)] at hst ⊢
      rw [tin_val h t t1 (fun u hu => ?_)]
      obtain ⟨p, z, p1, p2, p3, p4, -⟩ := hst u hu
      rw [p3, fN_nI (by omega)]
      by_cases e : ds[k] = s
      · rw [e] at p4 ⊢
        exact hVk p p1 (by rw [p4]; exact nI_pos (by omega))
      · exact hVo _ (fun k' hk' => by omega)
  unfold trRun
  have e1 : trSn (stS σ V s ds.length (ds.count s) bd) (ds ++ [s]) (trKn σ kl) (ds ++ [s]).length = trSn σ ds (trKn σ kl) ds.length := by
    rw [List.length_append]
    show trSn (stS σ V s ds.length (ds.count s) bd) (ds ++ [s]) (trKn σ kl) (ds.length + 1) = _
    rw [trSn, key ds.length (Nat.le_refl _)]
    have hg : (ds ++ [s]).getD ds.length 0 = s := by rw [List.getD_eq_getElem?_getD]; simp
    have ht : (ds ++ [s]).take ds.length = ds := by simp
    rw [hg, ht]
    refine cit_F (fun z => z ?_)
    show σ 249 (mEv σ s (ds.count s)) = 0
    unfold mEv
    rw [r2, fN_nI (by omega)]
    exact hq
  exact congrArg (trE (mA σ) (σ 238) 1001) e1
theorem mtF_ok {σ : kS} {n b R r : Nat} (h : mTb σ n b) (hR : mRo σ n R) (hr : r < R) : ∀ (f p t : Nat) (a a' : Nat → Int32), p < n → t < n → tgd (σ 233) (σ 234) (σ 235) t = true → (∀ u ∈ tvs (σ 233) (σ 234) (σ 235) p, σ 239 u = nI r) → (∀ k, k < 6 → ¬ a k < 0 → mVz σ n r k (a k)) → mtF σ f p t a = some a' →
    (∀ k, ¬ a k < 0 → a' k = a k) ∧ (∀ k, k < 6 → ¬ a' k < 0 → mVz σ n r k (a' k)) ∧ (∀ u ∈ tvs (σ 233) (σ 234) (σ 235) p, ∀ k, σ 241 u = nI k → k < 6 → ¬ a' k < 0) ∧ ∀ k, k < 6 → (∀ u ∈ tvs (σ 233) (σ 234) (σ 235) p, σ 241 u ≠ nI k) → a' k = a k := by
  have hn := h.1
  have hV := mTb_num h
  intro f
  induction f with
  | zero => intro p t a a' _ _ _ _ _ hm; cases hm
  | succ f ih =>
    intro p t a a' hp ht hg hof ha hm
    rw [mtF] at hm
    by_cases q2 : tgd (σ 233) (σ 234) (σ 235) p = true
    · rw [if_pos q2] at hm
      split at hm
      · cases hm
        have e := (tgd_tvs hV p hp).mp q2
        refine ⟨fun _ _ => rfl, ha, fun u hu => ?_, fun _ _ _ => rfl⟩
        rw [e] at hu
        cases hu
      · cases hm
    · rw [if_neg q2] at hm
      by_cases q3 : σ 233 p = nI 3
      · rw [if_pos q3] at hm
        have hvs : tvs (σ 233) (σ 234) (σ 235) p = [p] := by
          unfold tvs
          rw [tA_0 q3 (by decide), if_pos q3]
        obtain ⟨k, so, u1, k6, kv, vv, kk, -, so3, hso⟩ := mRo_var h hR hr hp hof (by rw [hvs]; exact List.mem_singleton.mpr rfl : p ∈ _)
        rw [kk, fN_nI (by omega)] at hm
        split at hm
        · next q4 =>
          split at hm
          · cases hm
            refine ⟨fun _ _ => rfl, ha, fun u hu k' hk' hk6 => ?_, fun _ _ _ => rfl⟩
            rw [hvs, List.mem_singleton] at hu
            subst hu
            obtain rfl : k = k' := nI_inj (kk.symm.trans hk')
            exact q4
          · cases hm
        · next q4 =>
          have q4 : a k < 0 := Classical.not_not.mp q4
          split at hm
          · cases hm
          · next q5 =>
            cases hm
            refine ⟨fun k' hk' => ?_, fun k' hk' hne => ?_, fun u hu k' hk' hk6 => ?_, fun k' hk' hno => ?_⟩
            · refine pk_un (fun e => ?_)
              rw [e] at hk'
              exact hk' q4
            · by_cases e : k' = k
              · subst e
                rw [pk_us]
                refine ⟨t, ht, rfl, hg, ?_⟩
                rw [vv, fN_nI (by omega)]
                by_cases e3 : σ 240 p = nI 3
                · exact Or.inl e3
                · exact Or.inr (Classical.byContradiction (fun hh => q5 ⟨e3, fun e => hh e.symm⟩))
              · rw [pk_un e] at hne ⊢
                exact ha k' hk' hne
            · rw [hvs, List.mem_singleton] at hu
              subst hu
              obtain rfl : k = k' := nI_inj (kk.symm.trans hk')
              rw [pk_us]
              exact nI_pos (by omega)
            · refine pk_un (fun e => hno p (by rw [hvs]; exact List.mem_singleton.mpr rfl) ?_)
              rw [e]
              exact kk
      · rw [if_neg q3] at hm
        split at hm
        · cases hm
        · next q4 =>
          have q4 : σ 233 p = σ 233 t := Classical.not_not.mp q4
          rcases (hV p hp).2 with ⟨k, h3, hk, -, -⟩ | ⟨k, x, y, h3, hk, hx, hy, h4, h5, h6, h7⟩ | ⟨k, x, h3, hk, hx, hy, h4, h6⟩
          · exfalso
            rw [tgd_0 hk h3] at q2
            exact q3 (by rw [hk, Decidable.of_not_not (fun e => q2 (decide_eq_true e))])
          · obtain ⟨zx, zy, hzx, hzy, hz6, hz7, hgz⟩ : ∃ zx zy, σ 234 t = nI zx ∧ σ 235 t = nI zy ∧ zx < n ∧ zy < n ∧ (tgd (σ 233) (σ 234) (σ 235) zx = true ∧ tgd (σ 233) (σ 234) (σ 235) zy = true) := by
              rcases (hV t ht).2 with ⟨k', h3', hk', -, -⟩ | ⟨k', x', y', h3', hk', hx', hy', h4', h5', h6', h7'⟩ | ⟨k', x', h3', hk', hx', hy', h4', h6'⟩
              · have := nI_inj (hk.symm.trans (q4.trans hk'))
                omega
              · refine ⟨x', y', hx', hy', h6', h7', ?_⟩
                rw [tgd_2 hV hk' hx' hy' (by omega) (by omega) h4' h5' h6' h7', Bool.and_eq_true] at hg
                exact hg
              · have := nI_inj (hk.symm.trans (q4.trans hk'))
                omega
            have evs : tvs (σ 233) (σ 234) (σ 235) p = tvs (σ 233) (σ 234) (σ 235) x ++ tvs (σ 233) (σ 234) (σ 235) y := tA_2 hV hk hx hy (by omega) (by omega) h4 h5 h6 h7
            have hy1 : nI y ≠ -1 := nI_m1 (by omega)
            simp only [hx, hy, hzx, hzy, if_neg hy1, fN_nI (show x < 2147483648 by omega), fN_nI (show y < 2147483648 by omega), fN_nI (show zx < 2147483648 by omega), fN_nI (show zy < 2147483648 by omega)] at hm
            obtain ⟨a1, m1, m2⟩ := Option.bind_eq_some_iff.mp hm
            obtain ⟨x1, x2, x3, x4⟩ := ih x zx a a1 h6 hz6 hgz.1 (fun u hu => hof u (by rw [evs]; exact List.mem_append_left _ hu)) ha m1
            obtain ⟨y1, y2, y3, y4⟩ := ih y zy a1 a' h7 hz7 hgz.2 (fun u hu => hof u (by rw [evs]; exact List.mem_append_right _ hu)) x2 m2
            rw [evs]
            refine ⟨fun k hk => ?_, y2, fun u hu k hk hk6 => ?_, fun k hk hno => ?_⟩
            · have e1 := x1 k hk
              rw [y1 k (by rw [e1]; exact hk), e1]
            · rcases List.mem_append.mp hu with hu | hu
              · have := x3 u hu k hk hk6
                rw [y1 k this]
                exact this
              · exact y3 u hu k hk hk6
            · rw [y4 k hk (fun u hu => hno u (List.mem_append_right _ hu)), x4 k hk (fun u hu => hno u (List.mem_append_left _ hu))]
          · obtain ⟨zx, hzx, hz6, hgz⟩ : ∃ zx, σ 234 t = nI zx ∧ zx < n ∧ tgd (σ 233) (σ 234) (σ 235) zx = true := by
              rcases (hV t ht).2 with ⟨k', h3', hk', -, -⟩ | ⟨k', x', y', h3', hk', hx', hy', h4', h5', h6', h7'⟩ | ⟨k', x', h3', hk', hx', hy', h4', h6'⟩
              · have := nI_inj (hk.symm.trans (q4.trans hk'))
                omega
              · have := nI_inj (hk.symm.trans (q4.trans hk'))
                omega
              · refine ⟨x', hx', h6', ?_⟩
                rw [tgd_1 hV hk' hx' hy' (by omega) (by omega) h4' h6'] at hg
                exact hg
            have evs : tvs (σ 233) (σ 234) (σ 235) p = tvs (σ 233) (σ 234) (σ 235) x ++ [] := tA_1 hV hk hx hy (by omega) (by omega) h4 h6
            rw [List.append_nil] at evs
            simp only [hx, hy, hzx, fN_nI (show x < 2147483648 by omega), fN_nI (show zx < 2147483648 by omega), if_true] at hm
            obtain ⟨a1, m1, m2⟩ := Option.bind_eq_some_iff.mp hm
            cases m2
            rw [evs]
            exact ih x zx a a' h6 hz6 hgz (fun u hu => hof u (by rw [evs]; exact hu)) ha m1
end
section
/-! the reference: receive, walked -/
theorem mFr_bdS (σ : kS) (n : Nat) (W X A : Nat → Int32) : mFr σ (bdS σ W X A) n := by
  refine ⟨fun c hc => ?_, fun j hj => rfl, fun u hu => ⟨rfl, rfl, rfl⟩⟩
  simp only [rowC, List.mem_cons, List.not_mem_nil, or_false, not_or] at hc
  simp [bdS, va_up, hc]
set_option maxRecDepth 100000 in
set_option maxHeartbeats 4000000 in
theorem mr_receive (L : Nat) (xs : Nat → Int32) (d : Nat) (σ : kS) (n b R S C : Nat) (kl : List Nat) (x y : Int32) (h : mI σ n b R S C kl) : kXM kT L xs (d + 8) 197 [.ref 232, .int x, .int y] σ (fun r σ' => (∃ x, r = some (.int x)) ∧ mAfter σ σ' R) := by
  have h0 := h
  obtain ⟨h1, h2, h3, h4, h5, h6, h7⟩ := h
  have hS4 := h3.1
  have hR4 := h2.1
  have hn := h1.1
  unfold kXM
  repeat refine kX_one rfl ?_
  refine kX_cal (mr_isSession L xs (d + 6) σ S x h3.2.1 (by omega)) rfl (Or.inr rfl) rfl rfl rfl (fun r1 σ1 q1 => ?_)
  obtain ⟨rfl, rfl⟩ := q1
  repeat refine kX_one rfl ?_
  refine kX_if (fun q => ?_) (fun q => ?_)
  · repeat refine kX_one rfl ?_
    refine kX_ret (i := .ireturn) (len := 1) rfl (Or.inr rfl) rfl (⟨⟨_, rfl⟩, mAfter_same h0⟩)
  obtain ⟨s, hs, rfl⟩ := isB_ne.mp (qeqF q)
  repeat refine kX_one rfl ?_
  refine kX_cal (mr_isTerm L xs (d + 6) σ n y h1.2.2.2.1 (by omega)) rfl (Or.inr rfl) rfl rfl rfl (fun r1 σ1 q1 => ?_)
  obtain ⟨rfl, rfl⟩ := q1
  repeat refine kX_one rfl ?_
  refine kX_if (fun q2 => ?_) (fun q2 => ?_)
  rotate_left
  · repeat refine kX_one rfl ?_
    refine kX_ret (i := .ireturn) (len := 1) rfl (Or.inr rfl) rfl (⟨⟨_, rfl⟩, mAfter_same h0⟩)
  obtain ⟨t, ht, rfl⟩ := isB_ne.mp (qne q2)
  rcases h6 with h6 | ⟨h6, ds, g1, g2, g3⟩
  · iterate 2 (refine kX_one rfl ?_)
    refine kX_top (h6) ?_
    repeat refine kX_one rfl ?_
    refine kX_ret (i := .ireturn) (len := 1) rfl (Or.inr rfl) rfl (⟨⟨_, rfl⟩, mAfter_same h0⟩)
  obtain ⟨r, r1, r2, r3, r4, r5, r6⟩ := g1.2.2.2 s hs
  obtain ⟨b1, b2, b3⟩ := mSn_iff h1 h2 (g1.2.2.2 s hs) r2 r1
  obtain ⟨-, ev, he6, hev⟩ := h2.2.2.1 r r1
  have hfe : fN (σ 247 r) = ev := by rw [hev]; exact fN_nI (by omega)
  iterate 2 (refine kX_one rfl ?_)
  refine kX_top (h6) ?_
  repeat refine kX_one rfl ?_
  refine kX_cal (mr_nextEvent L xs (d + 6) σ n R s r (ds.count s) h2 (by omega) r1 r2 r3 (by omega)) rfl (Or.inr rfl) rfl rfl rfl (fun r1 σ1 q1 => ?_)
  obtain ⟨rfl, rfl⟩ := q1
  by_cases hlt : ds.count s < fN (σ 247 r)
  rotate_left
  · rw [if_neg hlt]
    repeat refine kX_one rfl ?_
    refine kX_ret (i := .ireturn) (len := 1) rfl (Or.inr rfl) rfl (⟨⟨_, rfl⟩, mAfter_same h0⟩)
  rw [if_pos hlt]
  repeat refine kX_one rfl ?_
  refine kX_ifF (decide_eq_false (nI_pos (by omega))) ?_
  repeat refine kX_one rfl ?_
  refine kX_baldN rfl rfl (by decide) (6 * r + ds.count s) (by first | rfl | decide) (by omega) ?_
  repeat refine kX_one rfl ?_
  refine kX_if (fun q3 => ?_) (fun q3 => ?_)
  · repeat refine kX_one rfl ?_
    refine kX_ret (i := .ireturn) (len := 1) rfl (Or.inr rfl) rfl (⟨⟨_, rfl⟩, mAfter_same h0⟩)
  have q3 : σ 249 (6 * r + ds.count s) = 0 := qneF q3
  repeat refine kX_one rfl ?_
  refine kX_baldV rfl rfl (by decide) (t) (by first | rfl | decide) (by omega) (h1.2.2.2.2.2.2.1 t (Or.inl ht)) ?_
  repeat refine kX_one rfl ?_
  refine kX_if (fun q4 => ?_) (fun q4 => ?_)
  rotate_left
  · repeat refine kX_one rfl ?_
    refine kX_ret (i := .ireturn) (len := 1) rfl (Or.inr rfl) rfl (⟨⟨_, rfl⟩, mAfter_same h0⟩)
  have q4 := (bI_ne _).mp (qne q4)
  repeat refine kX_one rfl ?_
  refine kX_cal (mr_row L xs d σ n b R S C kl ds h0 h6 g1 g2 g3) rfl (Or.inr rfl) rfl rfl rfl (fun r1' σ1 q1 => ?_)
  obtain ⟨rfl, f1, f2, b', l, f3, f4, f5, f6, f7⟩ := q1
  repeat refine kX_one rfl ?_
  refine kX_cal (mr_canMake L xs (d + 3) σ1 n b' l t f4 f5 f6 (Or.inl ht)) rfl (Or.inr rfl) rfl rfl rfl (fun r1' σ2 q1 => ?_)
  obtain ⟨rfl, M, rfl, f8⟩ := q1
  have hF2 : mFr σ (cmS σ1 M (upd (upd (σ1 232) 49 (nI b')) 50 (nI l.length))) n := mFr_trans f1 (mFr_rwF rwF_cmS)
  have hT2 : mTb (cmS σ1 M (upd (upd (σ1 232) 49 (nI b')) 50 (nI l.length))) n b' := f4
  have fin := mI_there h0 h6 g1 g2 hF2 f2 f3 hT2 f5 f8 f7
  have hq2 : mRq (cmS σ1 M (upd (upd (σ1 232) 49 (nI b')) 50 (nI l.length))) (mvG (cmS σ1 M (upd (upd (σ1 232) 49 (nI b')) 50 (nI l.length))) n b') l := f5
  have hw2 : rwM (cmS σ1 M (upd (upd (σ1 232) 49 (nI b')) 50 (nI l.length))) l = trRun σ kl ds := f7
  have hrt2 : (cmS σ1 M (upd (upd (σ1 232) 49 (nI b')) 50 (nI l.length))) 232 47 = 1 := f2
  generalize cmS σ1 M (upd (upd (σ1 232) 49 (nI b')) 50 (nI l.length)) = τ at hF2 hT2 fin f8 hq2 hw2 hrt2 ⊢
  obtain ⟨fI, fRn, fBi, fRt, fr⟩ := fin
  repeat refine kX_one rfl ?_
  refine kX_if (fun q5 => ?_) (fun q5 => ?_)
  rotate_left
  · repeat refine kX_one rfl ?_
    refine kX_ret (i := .ireturn) (len := 1) rfl (Or.inr rfl) rfl (⟨⟨_, rfl⟩, mLow_fr hF2, n, b', S, C, kl, fI⟩)
  have c := fun c (hc : c ∉ rowC) => hF2.1 c hc
  obtain ⟨te, te1, te2, te3, te4⟩ := h2.2.2.2.2.2 r (ds.count s) r1 hlt
  have hg2 : tgd (τ 233) (τ 234) (τ 235) t = true := (mFr_all h1 hF2 ht).2.1.trans q4
  repeat refine kX_one rfl ?_
  refine kX_ialdV (v := nI te) rfl rfl (by decide) _ rfl (by omega) (by rw [c 248 (by decide)]; exact te2) ?_
  repeat refine kX_one rfl ?_
  refine kX_cal (mr_bindsTo L xs (d + 6) τ n b' R s te t hT2 fI.2.1 (by omega) te1 ht hg2) rfl (Or.inr rfl) rfl rfl rfl (fun r1' σ3 q1 => ?_)
  obtain ⟨W, X, A, rfl, hbn⟩ := q1
  have hlowB : mLow σ (bdS τ W X A) := mLow_trans (mLow_fr hF2) (mLow_fr (mFr_bdS τ n W X A))
  have hIB : mI (bdS τ W X A) n b' R S C kl := mI_fr fI (mFr_bdS τ n W X A) hT2 (Or.inr ⟨fr, ds, mFr_Rn hT2 fI.2.1 (mFr_bdS τ n W X A) fRn, mFr_Bi hT2 fI.2.1 (mFr_bdS τ n W X A) fRn fBi, Or.inr ⟨hrt2, f3, l, hq2, f8, by rw [mFr_trRun hT2 fI.2.1 (mFr_bdS τ n W X A) fI.2.2.2.1 fRn, mFr_trRun h1 h2 hF2 h4 g1]; exact hw2⟩⟩)
  cases hm : mtF τ (te + 1) te t (fun k => τ 265 (6 * s + k)) with
  | none =>
    rw [hm] at hbn
    have hbn : r1' = some (.int (-1)) := hbn
    subst hbn
    repeat refine kX_one rfl ?_
    refine kX_ret (i := .ireturn) (len := 1) rfl (Or.inr rfl) rfl (⟨⟨_, rfl⟩, hlowB, n, b', S, C, kl, hIB⟩)
  | some a =>
    rw [hm] at hbn
    obtain ⟨m, m1, hr1, mA1, mB1⟩ := hbn
    subst hr1
    have hRo := fI.2.1
    have r2' : τ 255 s = nI r := by rw [c 255 (by decide)]; exact r2
    obtain ⟨v1, v2, v3⟩ := mSn_iff hT2 hRo (fRn.2.2.2 s hs) r2' r1
    have hof : ∀ u ∈ tvs (τ 233) (τ 234) (τ 235) te, τ 239 u = nI r := by
      rw [(mFr_all h1 hF2 te1).2.2, c 239 (by decide)]
      exact te3
    have hte : τ 248 (6 * r + ds.count s) = nI te := by rw [c 248 (by decide)]; exact te2
    have hsd : τ 249 (6 * r + ds.count s) = 0 := by rw [c 249 (by decide)]; exact q3
    have hlt' : ds.count s < fN (τ 247 r) := by rw [c 247 (by decide)]; exact hlt
    have hneg : (-6 : Int32) < 0 := by decide
    obtain ⟨k1, k2, k3, k4⟩ := mtF_ok hT2 hRo r1 (te + 1) te t _ a te1 ht hg2 hof (fun k hk hne => by
      by_cases hb : bdv τ r (ds.count s) k
      · exact (v3 k hk).1 hb
      · exact absurd (by rw [(v3 k hk).2 hb]; exact hneg) hne) hm
    have hbd1 : ∀ k, k < 6 → (bdv τ r (ds.count s + 1) k ↔ ¬ a k < 0) := fun k hk => by
      constructor
      · intro hb
        by_cases hb0 : bdv τ r (ds.count s) k
        · have hz := mVz_ne hT2 ((v3 k hk).1 hb0)
          rw [k1 k hz.2]
          exact hz.2
        · obtain ⟨hb1, hb2⟩ := hb
          rcases hb2 with q | ⟨e, e1, e2, e3⟩
          · exact absurd ⟨hb1, Or.inl q⟩ hb0
          · have ee : e = ds.count s := by
              refine Classical.byContradiction (fun hh => hb0 ⟨hb1, Or.inr ⟨e, by omega, e2, e3⟩⟩)
            subst ee
            obtain ⟨tt, so, as, a1, a2, a3, a4, a5, -⟩ := hRo.2.2.2.1 r k r1 hb1
            rw [a2, fN_nI (by omega), hte, fN_nI (by omega)] at e3
            exact k3 tt e3 k a5 hk
      · intro hne
        refine Classical.byContradiction (fun hb => hne ?_)
        have hb0 : ¬ bdv τ r (ds.count s) k := fun z => hb (bdv_mono (by omega) z)
        have : a k = τ 265 (6 * s + k) := k4 k hk (fun u hu e => hb (bdv_ev hT2 hRo r1 (Nat.lt_succ_self _) hlt' (by rw [hte, fN_nI (by omega)]; exact hu) e hk))
        rw [this, (v3 k hk).2 hb0]
        exact hneg
    have hbd0 : ∀ k, k < 6 → (τ 265 (6 * s + k) < 0 ↔ ¬ bdv τ r (ds.count s) k) := fun k hk => by
      constructor
      · intro hh hb
        exact (mVz_ne hT2 ((v3 k hk).1 hb)).2 hh
      · intro hb
        rw [(v3 k hk).2 hb]
        exact hneg
    repeat refine kX_one rfl ?_
    refine kX_ifT (decide_eq_true (nI_pos' (by omega))) ?_
    iterate 2 (refine kX_one rfl ?_)
    have loop := kX_while (T := kT) (L := L) (xs := xs) (d := d + 8) (mi := 197) (pc := 99) (Q := fun r σ' => (∃ x, r = some (.int x)) ∧ mAfter σ σ' R)
      (fun q : Nat × (Nat → Int32) => [(5, .int (nI q.1)), (4, .int (nI m)), (0, .ref 232), (1, .int (nI s))]) (fun q => va_up (bdS τ W X A) 265 q.2) (fun q => q.1 ≤ 6 ∧ (∀ j, (∀ k, k < 6 → j ≠ 6 * s + k) → q.2 j = τ 265 j) ∧ ∀ k, k < q.1 → q.2 (6 * s + k) = a k) (fun q => 6 - q.1) ?_ (0, τ 265) ⟨Nat.zero_le _, fun _ _ => rfl, fun k hk => absurd hk (Nat.not_lt_zero k)⟩
    · refine kX_to _ _ rfl rfl rfl ?_ loop
      funext c; unfold bdS va_up; repeat' split
      all_goals first | rfl | omega | (subst_vars; rfl) | (funext j; unfold upd; repeat' split; all_goals first | rfl | omega | (subst_vars; rfl))
    · rintro ⟨i, V⟩ ⟨i1, i2, i3⟩ ih
      dsimp only at i1 i2 i3 ih ⊢
      repeat refine kX_one rfl ?_
      refine kX_if (fun q6 => ?_) (fun q6 => ?_)
      · have q6 := qge q6 i 6
        obtain rfl : i = 6 := by omega
        have hFB := mFr_bdS τ n W X A
        have hv' : ∀ k, k < 6 → (bdv τ r (ds.count s + 1) k → mVz τ n r k (V (6 * s + k))) ∧ (¬ bdv τ r (ds.count s + 1) k → V (6 * s + k) = -6) := fun k hk => by
          rw [i3 k hk]
          refine ⟨fun hb => k2 k hk ((hbd1 k hk).mp hb), fun hb => ?_⟩
          have hb0 : ¬ bdv τ r (ds.count s) k := fun z => hb (bdv_mono (by omega) z)
          have : a k = τ 265 (6 * s + k) := k4 k hk (fun u hu e => hb (bdv_ev hT2 hRo r1 (Nat.lt_succ_self _) hlt' (by rw [hte, fN_nI (by omega)]; exact hu) e hk))
          rw [this, (v3 k hk).2 hb0]
        have hmb' : ∀ p, p < 6 → (m / 2 ^ p % 2 = 1 ↔ nbv τ r (ds.count s) p) := fun p hp => by
          rw [mB1 p hp]
          unfold nbv
          rw [hbd1 p hp, ← hbd0 p hp]
          exact and_comm
        have hp := mRn_push (σ := bdS τ W X A) (V := V) (m := m) (bd := nI m) (b := b') hT2 hRo hS4 fRn fBi hs r1 r2' hlt' i2 hv' m1 rfl hmb'
        have hlen' : ds.length < 24 := by
          have := mRn_len (σ := stS (bdS τ W X A) V s ds.length (ds.count s) (nI m)) hRo hS4 hp.1
          rw [List.length_append] at this
          simp at this
          omega
        repeat refine kX_one rfl ?_
        refine kX_cal (mr_does L xs (d + 6) (va_up (bdS τ W X A) 265 V) s ds.length (ds.count s) (nI m) (by omega) fRn.1 hlen' v1) rfl (Or.inr rfl) rfl rfl rfl (fun r1' σ4 q1 => ?_)
        obtain ⟨rfl, rfl⟩ := q1
        repeat refine kX_one rfl ?_
        refine kX_ialdN rfl rfl (by decide) s rfl (by omega) ?_
        have htr : trRun (stS (bdS τ W X A) V s ds.length (ds.count s) (nI m)) kl (ds ++ [s]) = trRun (bdS τ W X A) kl ds := trRun_recv (σ := bdS τ W X A) (b := b') hT2 hRo fRn hs r1 r2' hsd i2 (fun k hk hne => by
          rw [i3 k hk]
          exact k1 k hne)
        have htr2 : trRun (bdS τ W X A) kl ds = trRun σ kl ds := by rw [mFr_trRun hT2 fI.2.1 hFB fI.2.2.2.1 fRn, mFr_trRun h1 h2 hF2 h4 g1]
        refine kX_ret (i := .ireturn) (len := 1) rfl (Or.inr rfl) rfl ⟨⟨_, rfl⟩, ?_, n, b', S, C, kl, hT2, hRo, fI.2.2.1, fI.2.2.2.1, fI.2.2.2.2.1, Or.inr ⟨fr, ds ++ [s], hp.1, hp.2, Or.inr ⟨hrt2, f3, l, hq2, f8, ?_⟩⟩, fI.2.2.2.2.2.2⟩
        · refine mLow_trans hlowB ?_
          exact mLow_trans (mLow_trans (mLow_trans (mLow_trans (mLow_up _ V (by decide)) (mLow_up _ _ (by decide))) (mLow_up _ _ (by decide))) (mLow_up _ _ (by decide))) (mLow_up _ _ (by decide))
        · have e1 : rwM τ l = trRun (stS (bdS τ W X A) V s ds.length (ds.count s) (nI m)) kl (ds ++ [s]) := by rw [htr, htr2, hw2]
          exact e1
      · have q6 := qgeF q6 i 6
        iterate 7 (refine kX_one rfl ?_)
        refine kX_top (ix6 s i) ?_
        repeat refine kX_one rfl ?_
        refine kX_ialdV (v := a i) rfl rfl (by decide) i rfl (by omega) (mA1 i q6) ?_
        refine kX_iastN rfl rfl (by decide) (6 * s + i) (by first | rfl | decide) (by omega) ?_
        iterate 2 (refine kX_one rfl ?_)
        rw [kup_up]
        have := ih (i + 1, upd V (6 * s + i) (a i)) ⟨by simp only; omega, fun j hj => by
          simp only
          rw [pk_un (hj i q6)]
          exact i2 j hj, fun k hk => by
          simp only at hk ⊢
          by_cases e : k = i
          · subst e
            exact pk_us
          · rw [pk_un (by omega)]
            exact i3 k (by omega)⟩ (by simp only; omega)
        rw [← nI_1] at this
        exact this
end
section
/-! the reference: undo, forget -/
theorem bm_bit : ∀ m, m < 64 → ∀ o, o < 6 → (nI m >>> (nI o &&& 31)) &&& Int32.ofInt 1 = nI (m / 2 ^ o % 2) := by decide +kernel
set_option maxRecDepth 100000 in
set_option maxHeartbeats 4000000 in
theorem mr_undo (L : Nat) (xs : Nat → Int32) (d : Nat) (σ : kS) (n b R S C : Nat) (kl : List Nat) (h : mI σ n b R S C kl) : kXM kT L xs (d + 1) 208 [.ref 232] σ (fun r σ' => (∃ x, r = some (.int x)) ∧ mAfter σ σ' R) := by
  have h0 := h
  obtain ⟨h1, h2, h3, h4, h5, h6, h7⟩ := h
  have hS4 := h3.1
  have hR4 := h2.1
  unfold kXM
  rcases h6 with h6 | ⟨h6, ds, g1, g2, g3⟩
  · iterate 2 (refine kX_one rfl ?_)
    refine kX_top (h6) ?_
    repeat refine kX_one rfl ?_
    refine kX_ret (i := .ireturn) (len := 1) rfl (Or.inr rfl) rfl (⟨⟨_, rfl⟩, mAfter_same h0⟩)
  have hlen := mRn_len h2 hS4 g1
  iterate 2 (refine kX_one rfl ?_)
  refine kX_top (h6) ?_
  iterate 3 (refine kX_one rfl ?_)
  refine kX_top (g1.1) ?_
  rcases snoc_cases ds with rfl | ⟨ds0, s, rfl⟩
  · repeat refine kX_one rfl ?_
    refine kX_ret (i := .ireturn) (len := 1) rfl (Or.inr rfl) rfl (⟨⟨_, rfl⟩, mAfter_same h0⟩)
  have hl1 : (ds0 ++ [s]).length = ds0.length + 1 := by simp
  have hs : s < S := g1.2.2.1 s (by simp)
  have hcs : (ds0 ++ [s]).count s = ds0.count s + 1 := by rw [List.count_append]; simp
  obtain ⟨r, r1, r2, r3, r4, -⟩ := g1.2.2.2 s hs
  rw [hcs] at r3 r4
  obtain ⟨-, v2, v3⟩ := mSn_iff h1 h2 (g1.2.2.2 s hs) r2 r1
  rw [hcs] at v2 v3
  have hfr : fN (σ 255 s) = r := by rw [r2]; exact fN_nI (by omega)
  obtain ⟨m, m1, m2, m3⟩ := g2 ds0.length (by simp)
  have e1 : (ds0 ++ [s])[ds0.length]'(by simp) = s := by simp
  have e2 : (ds0 ++ [s]).take ds0.length = ds0 := by simp
  rw [e1, e2, hfr] at m3
  obtain ⟨p1, p2⟩ := lst_pop g1.2.1
  repeat refine kX_one rfl ?_
  refine kX_ifT (decide_eq_true (by rw [hl1]; exact nI_ne0 (by omega) (by omega))) ?_
  iterate 3 (refine kX_one rfl ?_)
  refine kX_top (g1.1) ?_
  rw [hl1]
  iterate 2 (refine kX_one rfl ?_)
  refine kX_top (nI_pred ds0.length) ?_
  iterate 5 (refine kX_one rfl ?_)
  refine kX_ialdV (v := nI s) rfl rfl (by decide) ds0.length rfl (by omega) p1 ?_
  repeat refine kX_one rfl ?_
  refine kX_ialdV rfl rfl (by decide) (s) (by first | rfl | decide) (by omega) (r3) ?_
  iterate 2 (refine kX_one rfl ?_)
  refine kX_top (nI_pred (ds0.count s)) ?_
  refine kX_iastN rfl rfl (by decide) (s) (by first | rfl | decide) (by omega) ?_
  iterate 2 (refine kX_one rfl ?_)
  have loop := kX_while (T := kT) (L := L) (xs := xs) (d := d + 1) (mi := 208) (pc := 52) (Q := fun r σ' => (∃ x, r = some (.int x)) ∧ mAfter σ σ' R)
    (fun q : Nat × (Nat → Int32) => [(2, .int (nI q.1)), (1, .int (nI s)), (0, .ref 232)]) (fun q => va_up (va_up (va_up σ 232 (upd (σ 232) 55 (nI ds0.length))) 264 (upd (σ 264) s (nI (ds0.count s)))) 265 q.2) (fun q => q.1 ≤ 6 ∧ (∀ j, (∀ k, k < 6 → j ≠ 6 * s + k) → q.2 j = σ 265 j) ∧ (∀ k, k < q.1 → q.2 (6 * s + k) = if m / 2 ^ k % 2 = 1 then -6 else σ 265 (6 * s + k)) ∧ ∀ k, q.1 ≤ k → k < 6 → q.2 (6 * s + k) = σ 265 (6 * s + k)) (fun q => 6 - q.1) ?_ (0, σ 265) ⟨Nat.zero_le _, fun _ _ => rfl, fun k hk => absurd hk (Nat.not_lt_zero k), fun _ _ _ => rfl⟩
  · refine kX_to _ _ rfl rfl rfl ?_ loop
    funext c; unfold  va_up; repeat' split
    all_goals first | rfl | omega | (subst_vars; rfl) | (funext j; unfold upd; repeat' split; all_goals first | rfl | omega | (subst_vars; rfl))
  · rintro ⟨i, V⟩ ⟨i1, i2, i3, i4⟩ ih
    dsimp only at i1 i2 i3 i4 ih ⊢
    repeat refine kX_one rfl ?_
    refine kX_if (fun q => ?_) (fun q => ?_)
    · have q := qge q i 6
      obtain rfl : i = 6 := by omega
      repeat refine kX_one rfl ?_
      have hv' : ∀ k, k < 6 → (bdv σ r (ds0.count s) k → mVz σ n r k (V (6 * s + k))) ∧ (¬ bdv σ r (ds0.count s) k → V (6 * s + k) = -6) := fun k hk => by
        rw [i3 k hk]
        constructor
        · intro hb
          have : ¬ (m / 2 ^ k % 2 = 1) := fun z => ((m3 k hk).mp z).2 hb
          rw [if_neg this]
          exact (v3 k hk).1 (bdv_mono (by omega) hb)
        · intro hb
          by_cases hb1 : bdv σ r (ds0.count s + 1) k
          · rw [if_pos ((m3 k hk).mpr ⟨hb1, hb⟩)]
          · split
            · rfl
            · exact (v3 k hk).2 hb1
      have hRn : mRn (va_up (va_up (va_up (va_up σ 232 (upd (σ 232) 55 (nI ds0.length))) 264 (upd (σ 264) s (nI (ds0.count s)))) 265 V) 232 (upd (upd (σ 232) 55 (nI ds0.length)) 47 0)) n R S ds0 := by
        refine ⟨rfl, p2, fun s' hs' => g1.2.2.1 s' (List.mem_append_left _ hs'), fun s' hs' => ?_⟩
        by_cases e : s' = s
        · subst e
          exact mSn_of (b := b) h1 h2 r1 r2 pk_us (show ds0.count s' ≤ fN (σ 247 r) by omega) hv'
        · have ec : (ds0 ++ [s]).count s' = ds0.count s' := by rw [List.count_append]; simp [Ne.symm e]
          have hsn := g1.2.2.2 s' hs'
          rw [ec] at hsn
          obtain ⟨r', r1', r2', -⟩ := id hsn
          obtain ⟨b1, b2, b3⟩ := mSn_iff h1 h2 hsn r2' r1'
          refine mSn_of (b := b) h1 h2 r1' r2' ?_ b2 (fun k hk => ?_)
          · show upd (σ 264) s (nI (ds0.count s)) s' = _
            rw [pk_un e]
            exact b1
          · have ev : V (6 * s' + k) = σ 265 (6 * s' + k) := i2 _ (fun k' hk' => by omega)
            show (bdv σ r' (ds0.count s') k → mVz σ n r' k (V (6 * s' + k))) ∧ (¬ bdv σ r' (ds0.count s') k → V (6 * s' + k) = -6)
            rw [ev]
            exact b3 k hk
      have hBi : mBi (va_up (va_up (va_up (va_up σ 232 (upd (σ 232) 55 (nI ds0.length))) 264 (upd (σ 264) s (nI (ds0.count s)))) 265 V) 232 (upd (upd (σ 232) 55 (nI ds0.length)) 47 0)) ds0 := by
        intro k hk
        obtain ⟨m', n1, n2, n3⟩ := g2 k (by simp; omega)
        have e3 : (ds0 ++ [s])[k]'(by simp; omega) = ds0[k] := List.getElem_append_left hk
        rw [e3, List.take_append_of_le_length (by omega)] at n3
        exact ⟨m', n1, n2, n3⟩
      refine kX_ret (i := .ireturn) (len := 1) rfl (Or.inr rfl) rfl ⟨⟨_, rfl⟩, ?_, n, b, S, C, kl, h1, h2, h3, h4, h5, Or.inr ⟨h6, ds0, hRn, hBi, Or.inl rfl⟩, h7⟩
      exact mLow_trans (mLow_trans (mLow_trans (mLow_up σ _ (by decide)) (mLow_up _ _ (by decide))) (mLow_up _ _ (by decide))) (mLow_up _ _ (by decide))
    · have q := qgeF q i 6
      repeat refine kX_one rfl ?_
      refine kX_ialdV (v := nI m) rfl rfl (by decide) ds0.length rfl (by omega) m2 ?_
      iterate 4 (refine kX_one rfl ?_)
      refine kX_top (bm_bit m m1 i q) ?_
      have hb2 : m / 2 ^ i % 2 < 2 := Nat.mod_lt _ (by decide)
      have back : ∀ V' : Nat → Int32, (∀ j, (∀ k, k < 6 → j ≠ 6 * s + k) → V' j = σ 265 j) → (∀ k, k < i + 1 → V' (6 * s + k) = if m / 2 ^ k % 2 = 1 then -6 else σ 265 (6 * s + k)) → (∀ k, i + 1 ≤ k → k < 6 → V' (6 * s + k) = σ 265 (6 * s + k)) → kX kT L xs (d + 1) 208 88 [(2, .int (nI i)), (1, .int (nI s)), (0, .ref 232)] [] (va_up (va_up (va_up σ 232 (upd (σ 232) 55 (nI ds0.length))) 264 (upd (σ 264) s (nI (ds0.count s)))) 265 V') (fun r σ' => (∃ x, r = some (.int x)) ∧ mAfter σ σ' R) := by
        intro V' j1 j2 j3
        iterate 2 (refine kX_one rfl ?_)
        have := ih (i + 1, V') ⟨by simp only; omega, j1, j2, j3⟩ (by simp only; omega)
        rw [← nI_1] at this
        exact this
      repeat refine kX_one rfl ?_
      refine kX_if (fun q2 => ?_) (fun q2 => ?_)
      · have q2 : ¬ (m / 2 ^ i % 2 = 1) := fun e => qne q2 (by rw [e]; rfl)
        refine back V i2 (fun k hk => ?_) (fun k hk hk6 => i4 k (by omega) hk6)
        by_cases e : k = i
        · subst e
          rw [if_neg q2]
          exact i4 k (Nat.le_refl _) q
        · exact i3 k (by omega)
      · have q2 : m / 2 ^ i % 2 = 1 := nI_inj (qneF q2)
        iterate 7 (refine kX_one rfl ?_)
        iterate 1 (refine kX_one rfl ?_)
        refine kX_iastN rfl rfl (by decide) (6 * s + i) (ix6 s i) (by omega) ?_
        rw [kup_up]
        refine back (upd V (6 * s + i) _) (fun j hj => ?_) (fun k hk => ?_) (fun k hk hk6 => ?_)
        · rw [pk_un (hj i q)]
          exact i2 j hj
        · by_cases e : k = i
          · subst e
            rw [pk_us, if_pos q2]
            rfl
          · rw [pk_un (by omega)]
            exact i3 k (by omega)
        · rw [pk_un (by omega)]
          exact i4 k (by omega) hk6
/-- what forget leaves in the object -/
def fgO (o : Nat → Int32) : Nat → Int32 := upd (upd (upd (upd (upd o 69 0) 70 0) 71 0) 72 (-6)) 47 0
set_option maxRecDepth 100000 in
set_option maxHeartbeats 4000000 in
theorem mr_forget (L : Nat) (xs : Nat → Int32) (d : Nat) (σ : kS) : kXM kT L xs (d + 1) 209 [.ref 232] σ (fun r σ' => r = none ∧ σ' = va_up σ 232 (fgO (σ 232))) := by
  unfold kXM
  repeat refine kX_one rfl ?_
  refine kX_st (va_up σ 232 (fgO (σ 232))) ?_ ?_
  · funext c; unfold fgO va_up; repeat' split
    all_goals first | rfl | omega | (subst_vars; rfl) | (funext j; unfold upd; repeat' split; all_goals first | rfl | omega | (subst_vars; rfl))
  · refine kX_ret (i := .return_) (len := 1) rfl (Or.inr rfl) rfl (⟨rfl, rfl⟩)
end
section
/-! the reference: one TERM more, the rest as it was -/
def rowT : List Nat := 9 :: rowJ
/-- nothing has changed but TERMS from n on, the row and what it is made of -/
def mGr (σ τ : kS) (n : Nat) : Prop := (∀ c, c ∉ rowC → τ c = σ c) ∧ (∀ j, j ∉ rowT → τ 232 j = σ 232 j) ∧ ∀ u, u < n → τ 233 u = σ 233 u ∧ τ 234 u = σ 234 u ∧ τ 235 u = σ 235 u
theorem mGr_all {σ τ : kS} {n b t : Nat} (h : mTb σ n b) (hF : mGr σ τ n) (ht : t < n) : tvl (τ 233) (τ 234) (τ 235) t = tvl (σ 233) (σ 234) (σ 235) t ∧ tgd (τ 233) (τ 234) (τ 235) t = tgd (σ 233) (σ 234) (σ 235) t ∧ tvs (τ 233) (τ 234) (τ 235) t = tvs (σ 233) (σ 234) (σ 235) t := by
  have h200 := h.1
  have hF2 : ∀ u, u < n → τ 233 u = σ 233 u ∧ τ 234 u = σ 234 u ∧ τ 235 u = σ 235 u := fun u hu => hF.2.2 u (by omega)
  refine ⟨tA_congr (mTb_num h) (fun u hu => ⟨(hF2 u hu).1, (hF2 u hu).2.1, (hF2 u hu).2.2, rfl⟩) t ht, tA_congr (mTb_num h) (fun u hu => ⟨(hF2 u hu).1, (hF2 u hu).2.1, (hF2 u hu).2.2, by rw [(hF2 u hu).1]⟩) t ht, tA_congr (mTb_num h) (fun u hu => ⟨(hF2 u hu).1, (hF2 u hu).2.1, (hF2 u hu).2.2, by rw [(hF2 u hu).1]⟩) t ht⟩
theorem mGr_St {σ τ : kS} {n b s t : Nat} (h : mTb σ n b) (hF : mGr σ τ n) (ht : t < n) (hs : mSt σ n s t) : mSt τ n s t := by
  intro u hu
  rw [(mGr_all h hF ht).2.2] at hu
  obtain ⟨p, z, h1, h2, h3, h4, h5, h6⟩ := hs u hu
  refine ⟨p, z, h1, h2, ?_, ?_, (mGr_all h hF h2).2.1.trans h5, ?_⟩
  · rw [hF.1 241 (by decide)]
    exact h3
  · rw [hF.1 265 (by decide)]
    exact h4
  · rw [hF.1 240 (by decide), (hF.2.2 z (by have := h.1; omega)).1]
    exact h6
theorem mGr_Ro {σ τ : kS} {n b R : Nat} (h : mTb σ n b) (hF : mGr σ τ n) (hR : mRo σ n R) : mRo τ n R := by
  obtain ⟨h1, h2, h3, h4, h5, h6⟩ := hR
  have c := fun c (hc : c ∉ rowC) => hF.1 c hc
  refine ⟨h1, (hF.2.1 _ (by decide)).trans h2, ?_, ?_, ?_, ?_⟩
  · rw [c 244 (by decide), c 247 (by decide)]
    exact h3
  · rw [c 244 (by decide), c 245 (by decide), c 239 (by decide), c 241 (by decide), c 240 (by decide), c 246 (by decide)]
    intro r k hr hk
    obtain ⟨t, so, as, a1, a2, a3, a4⟩ := h4 r k hr hk
    exact ⟨t, so, as, a1, a2, ((hF.2.2 t (by have := h.1; omega)).1).trans a3, a4⟩
  · rw [c 244 (by decide), c 245 (by decide)]
    intro t ht hk
    exact h5 t ht ((hF.2.2 t (by have := h.1; omega)).1.symm.trans hk)
  · rw [c 247 (by decide), c 248 (by decide), c 239 (by decide), c 249 (by decide), c 246 (by decide), c 241 (by decide)]
    intro r e hr he
    obtain ⟨t, a1, a2, a3, a4⟩ := h6 r e hr he
    refine ⟨t, a1, a2, ?_, ?_⟩
    · rw [(mGr_all h hF a1).2.2]
      exact a3
    · rw [(mGr_all h hF a1).2.2]
      intro hs u hu ha
      obtain ⟨e', b1, b2, b3⟩ := a4 hs u hu ha
      refine ⟨e', b1, b2, ?_⟩
      obtain ⟨t', d1, d2, -⟩ := h6 r e' hr (by omega)
      rw [d2, fN_nI (by have := h.1; omega)] at b3 ⊢
      rw [(mGr_all h hF d1).2.2]
      exact b3
theorem mGr_Sn {σ τ : kS} {n b R s dn : Nat} (h : mTb σ n b) (hR : mRo σ n R) (hF : mGr σ τ n) (hS : mSn σ n R s dn) : mSn τ n R s dn := by
  obtain ⟨r, h1, h2, h3, h4, h5, h6, h7⟩ := hS
  have c := fun c (hc : c ∉ rowC) => hF.1 c hc
  refine ⟨r, h1, ?_, ?_, ?_, fun k hk => ?_, fun e he => ?_, ?_⟩
  · rw [c 255 (by decide)]; exact h2
  · rw [c 264 (by decide)]; exact h3
  · rw [c 247 (by decide)]; exact h4
  · have := h5 k hk
    unfold mVk at this ⊢
    rw [c 265 (by decide), c 244 (by decide), c 246 (by decide), c 240 (by decide), c 245 (by decide)]
    rcases this with q | ⟨z, q1, q2, q3, q4, q5⟩
    · exact Or.inl q
    · refine Or.inr ⟨z, q1, q2, (mGr_all h hF q1).2.1.trans q3, q4, ?_⟩
      rw [(hF.2.2 z (by have := h.1; omega)).1]
      exact q5
  · rw [c 248 (by decide)]
    obtain ⟨t, d1, d2, -⟩ := hR.2.2.2.2.2 r e h1 (by omega)
    have := h6 e he
    rw [d2, fN_nI (by have := h.1; omega)] at this ⊢
    exact mGr_St h hF d1 this
  · rw [c 244 (by decide), c 246 (by decide), c 265 (by decide), c 249 (by decide), c 245 (by decide), c 248 (by decide)]
    intro k hk ha hv
    obtain ⟨e, e1, e2, e3⟩ := h7 k hk ha hv
    obtain ⟨t, d1, d2, -⟩ := hR.2.2.2.2.2 r e h1 (by omega)
    refine ⟨e, e1, e2, ?_⟩
    rw [d2, fN_nI (by have := h.1; omega)] at e3 ⊢
    rw [(mGr_all h hF d1).2.2]
    exact e3
theorem mGr_Rn {σ τ : kS} {n b R S : Nat} {ds : List Nat} (h : mTb σ n b) (hR : mRo σ n R) (hF : mGr σ τ n) (hS : mRn σ n R S ds) : mRn τ n R S ds := by
  obtain ⟨h1, h2, h3, h4⟩ := hS
  refine ⟨(hF.2.1 _ (by decide)).trans h1, ?_, h3, fun s hs => mGr_Sn h hR hF (h4 s hs)⟩
  rw [hF.1 274 (by decide)]
  exact h2
theorem mGr_Se {σ τ : kS} {n b R S : Nat} (h : mTb σ n b) (hF : mGr σ τ n) (hS : mSe σ n R S) : mSe τ n R S := by
  obtain ⟨h1, h2, h3⟩ := hS
  have c := fun c (hc : c ∉ rowC) => hF.1 c hc
  refine ⟨h1, (hF.2.1 _ (by decide)).trans h2, ?_⟩
  rw [c 255 (by decide), c 250 (by decide), c 244 (by decide), c 246 (by decide), c 256 (by decide), c 240 (by decide), c 245 (by decide)]
  intro s hs
  obtain ⟨r, a1, a2, a3, a4⟩ := h3 s hs
  refine ⟨r, a1, a2, a3, fun k hk => ?_⟩
  obtain ⟨as, b1, b2⟩ := a4 k hk
  refine ⟨as, b1, ?_⟩
  rcases b2 with b2 | ⟨b2, z, b3, b4, b5⟩
  · exact Or.inl b2
  · exact Or.inr ⟨b2, z, b3, b4, (hF.2.2 z (by have := h.1; omega)).1.trans b5⟩
theorem mGr_Kn {σ τ : kS} {n b : Nat} {kl : List Nat} (h : mTb σ n b) (hF : mGr σ τ n) (hK : mKn σ n kl) : mKn τ n kl := by
  obtain ⟨h1, h2, h3, h4⟩ := hK
  refine ⟨(hF.2.1 _ (by decide)).trans h1, h2, ?_, fun t ht => ⟨(h4 t ht).1, (mGr_all h hF (h4 t ht).1).2.1.trans (h4 t ht).2⟩⟩
  rw [hF.1 254 (by decide)]
  exact h3
theorem mGr_Cl {σ τ : kS} {n R C : Nat} (hF : mGr σ τ n) (hC : mCl σ R C) : mCl τ R C := by
  unfold mCl
  rw [hF.1 258 (by decide), hF.1 259 (by decide), hF.1 257 (by decide), hF.1 244 (by decide), hF.1 260 (by decide), hF.1 261 (by decide), hF.1 262 (by decide), hF.1 263 (by decide)]
  exact ⟨hC.1, (hF.2.1 _ (by decide)).trans hC.2.1, hC.2.2⟩
theorem mGr_bdv {σ τ : kS} {n b R r dn k : Nat} (h : mTb σ n b) (hR : mRo σ n R) (hF : mGr σ τ n) (hr : r < R) (hdn : dn ≤ fN (σ 247 r)) : bdv τ r dn k ↔ bdv σ r dn k := by
  have hn := h.1
  have c := fun c (hc : c ∉ rowC) => hF.1 c hc
  unfold bdv
  rw [c 244 (by decide), c 246 (by decide), c 249 (by decide), c 245 (by decide), c 248 (by decide)]
  refine and_congr_right (fun _ => or_congr_right ?_)
  constructor
  · rintro ⟨e, e1, e2, e3⟩
    obtain ⟨t, t1, t2, -⟩ := hR.2.2.2.2.2 r e hr (by omega)
    refine ⟨e, e1, e2, ?_⟩
    rw [t2, fN_nI (by omega)] at e3 ⊢
    rw [(mGr_all h hF t1).2.2] at e3
    exact e3
  · rintro ⟨e, e1, e2, e3⟩
    obtain ⟨t, t1, t2, -⟩ := hR.2.2.2.2.2 r e hr (by omega)
    refine ⟨e, e1, e2, ?_⟩
    rw [t2, fN_nI (by omega)] at e3 ⊢
    rw [(mGr_all h hF t1).2.2]
    exact e3
theorem mGr_Vz {σ τ : kS} {n b r k : Nat} {x : Int32} (h : mTb σ n b) (hF : mGr σ τ n) (hz : mVz σ n r k x) : mVz τ n r k x := by
  obtain ⟨z, z1, z2, z3, z4⟩ := hz
  refine ⟨z, z1, z2, (mGr_all h hF z1).2.1.trans z3, ?_⟩
  rw [hF.1 240 (by decide), hF.1 245 (by decide), (hF.2.2 z (by have := h.1; omega)).1]
  exact z4
theorem mGr_Bi {σ τ : kS} {n b R S : Nat} {ds : List Nat} (h : mTb σ n b) (hR : mRo σ n R) (hF : mGr σ τ n) (hS : mRn σ n R S ds) (hB : mBi σ ds) : mBi τ ds := by
  have hn := h.1
  have hR4 := hR.1
  intro k hk
  obtain ⟨m, m1, m2, m3⟩ := hB k hk
  obtain ⟨r, r1, r2, r3, r4, -⟩ := hS.2.2.2 _ (hS.2.2.1 _ (List.getElem_mem hk))
  have hcnt : (ds.take k).count ds[k] < ds.count ds[k] := by
    have := count_take_le ds ds[k] (k + 1)
    rw [List.take_succ_eq_append_getElem hk, List.count_append] at this
    simp at this
    omega
  have hfr : fN (σ 255 ds[k]) = r := by rw [r2]; exact fN_nI (by omega)
  refine ⟨m, m1, by rw [hF.1 275 (by decide)]; exact m2, fun p hp => ?_⟩
  rw [m3 p hp, hF.1 255 (by decide), hfr]
  unfold nbv
  rw [mGr_bdv h hR hF r1 (by omega), mGr_bdv h hR hF r1 (by omega)]
theorem mGr_Ak {σ τ : kS} {n b R S : Nat} (h : mTb σ n b) (hR : mRo σ n R) (hSe : mSe σ n R S) (hF : mGr σ τ n) (hA : mAk σ n R S) : mAk τ n R S := by
  have hn := h.1
  have hR4 := hR.1
  have c := fun c (hc : c ∉ rowC) => hF.1 c hc
  rcases hA with hA | ⟨as, fin, a0, a1, a2, a3, a4⟩
  · exact Or.inl ((hF.2.1 _ (by decide)).trans hA)
  · refine Or.inr ⟨as, fin, a0, (hF.2.1 _ (by decide)).trans a1, by rw [c 288 (by decide)]; exact a2, ?_, ?_⟩
    · rw [c 247 (by decide), c 255 (by decide), c 246 (by decide), c 256 (by decide)]
      intro s hs
      obtain ⟨b1, b2, b3⟩ := a3 s hs
      obtain ⟨r, r1, r2, -⟩ := hSe.2.2 s b1
      have hfr : fN (σ 255 s) = r := by rw [r2]; exact fN_nI (by omega)
      refine ⟨b1, b2, fun k hk hb => ?_⟩
      rw [hfr] at hb b2 b3 ⊢
      rw [mGr_bdv h hR hF r1 b2] at hb
      obtain ⟨c1, c2⟩ := b3 k hk hb
      exact ⟨mGr_Vz h hF c1, c2⟩
    · rw [c 289 (by decide), c 285 (by decide), c 255 (by decide)]
      intro i hi
      obtain ⟨st, s1, s2, s3⟩ := a4 i hi
      obtain ⟨b1, b2, -⟩ := a3 _ (List.getElem_mem hi)
      obtain ⟨r, r1, r2, -⟩ := hSe.2.2 _ b1
      have hfr : fN (σ 255 as[i]) = r := by rw [r2]; exact fN_nI (by omega)
      have hcnt : (as.take i).count as[i] + 1 ≤ as.count as[i] := by
        have := count_take_le as as[i] (i + 1)
        rw [List.take_succ_eq_append_getElem hi, List.count_append] at this
        simp at this
        omega
      refine ⟨st, s1, s2, fun k hk => ?_⟩
      rw [s3 k hk, hfr]
      rw [hfr] at b2
      rw [propext (mGr_bdv h hR hF r1 (by omega))]
theorem mGr_new {σ τ : kS} {n k : Nat} {a c : Int32} (h : mNw σ τ n k a c) : mGr σ τ n := by
  obtain ⟨z, g, nx, hd, jd, rfl, -⟩ := h
  refine ⟨fun c hc => ?_, fun j hj => ?_, fun u hu => ⟨pk_un (by omega), pk_un (by omega), pk_un (by omega)⟩⟩
  · simp only [rowC, List.mem_cons, List.not_mem_nil, or_false, not_or] at hc
    simp [mU, va_up, hc]
  · simp only [rowT, rowJ, List.mem_cons, List.not_mem_nil, or_false, not_or] at hj
    show mO (σ 232) n jd j = _
    unfold mO
    rw [pk_un hj.1, pk_un hj.2.2.2.2.2.1, pk_un hj.2.2.1, pk_un hj.2.1]
/-- more TERMS -/
theorem mSt_up {σ : kS} {n n' s t : Nat} (hn : n ≤ n') (h : mSt σ n s t) : mSt σ n' s t := fun u hu => by
  obtain ⟨p, z, h1, h2, h3⟩ := h u hu
  exact ⟨p, z, h1, by omega, h3⟩
theorem mRo_up {σ : kS} {n n' R : Nat} (hn : n ≤ n') (hk : ∀ t, n ≤ t → t < n' → σ 233 t ≠ nI 3) (h : mRo σ n R) : mRo σ n' R := by
  obtain ⟨h1, h2, h3, h4, h5, h6⟩ := h
  refine ⟨h1, h2, h3, fun r k hr hkk => ?_, fun t ht ht3 => ?_, fun r e hr he => ?_⟩
  · obtain ⟨t, so, as, a1, a2⟩ := h4 r k hr hkk
    exact ⟨t, so, as, by omega, a2⟩
  · refine h5 t (Nat.not_le.mp (fun hh => hk t hh ht ht3)) ht3
  · obtain ⟨t, a1, a2⟩ := h6 r e hr he
    exact ⟨t, by omega, a2⟩
theorem mVz_up {σ : kS} {n n' r k : Nat} {x : Int32} (hn : n ≤ n') (h : mVz σ n r k x) : mVz σ n' r k x := by
  obtain ⟨z, z1, z2⟩ := h
  exact ⟨z, by omega, z2⟩
theorem mSn_up {σ : kS} {n n' R s dn : Nat} (hn : n ≤ n') (h : mSn σ n R s dn) : mSn σ n' R s dn := by
  obtain ⟨r, h1, h2, h3, h4, h5, h6, h7⟩ := h
  refine ⟨r, h1, h2, h3, h4, fun k hk => ?_, fun e he => mSt_up hn (h6 e he), h7⟩
  rcases h5 k hk with q | ⟨z, q1, q2⟩
  · exact Or.inl q
  · exact Or.inr ⟨z, by omega, q2⟩
theorem mRn_up {σ : kS} {n n' R S : Nat} {ds : List Nat} (hn : n ≤ n') (h : mRn σ n R S ds) : mRn σ n' R S ds := ⟨h.1, h.2.1, h.2.2.1, fun s hs => mSn_up hn (h.2.2.2 s hs)⟩
theorem mSe_up {σ : kS} {n n' R S : Nat} (hn : n ≤ n') (h : mSe σ n R S) : mSe σ n' R S := by
  obtain ⟨h1, h2, h3⟩ := h
  refine ⟨h1, h2, fun s hs => ?_⟩
  obtain ⟨r, a1, a2, a3, a4⟩ := h3 s hs
  refine ⟨r, a1, a2, a3, fun k hk => ?_⟩
  obtain ⟨as, b1, b2⟩ := a4 k hk
  refine ⟨as, b1, ?_⟩
  rcases b2 with b2 | ⟨b2, z, b3, b4⟩
  · exact Or.inl b2
  · exact Or.inr ⟨b2, z, by omega, b4⟩
theorem mKn_up {σ : kS} {n n' : Nat} {kl : List Nat} (hn : n ≤ n') (h : mKn σ n kl) : mKn σ n' kl := ⟨h.1, h.2.1, h.2.2.1, fun t ht => ⟨by have := (h.2.2.2 t ht).1; omega, (h.2.2.2 t ht).2⟩⟩
theorem mAk_up {σ : kS} {n n' R S : Nat} (hn : n ≤ n') (h : mAk σ n R S) : mAk σ n' R S := by
  rcases h with h | ⟨as, fin, a0, a1, a2, a3, a4⟩
  · exact Or.inl h
  · refine Or.inr ⟨as, fin, a0, a1, a2, fun s hs => ?_, a4⟩
    obtain ⟨b1, b2, b3⟩ := a3 s hs
    exact ⟨b1, b2, fun k hk hb => ⟨mVz_up hn (b3 k hk hb).1, (b3 k hk hb).2⟩⟩
/-- all stays, with more TERMS, none of them a VARIABLE; the row is gone -/
theorem mI_gr {σ τ : kS} {n n' b R S C : Nat} {kl : List Nat} (h : mI σ n b R S C kl) (hG : mGr σ τ n) (hn : n ≤ n') (hk : ∀ t, n ≤ t → t < n' → τ 233 t ≠ nI 3) (hT : mTb τ n' 200) (hr : τ 232 47 = 0) : mI τ n' 200 R S C kl := by
  obtain ⟨h1, h2, h3, h4, h5, h6, h7⟩ := h
  refine ⟨hT, mRo_up hn hk (mGr_Ro h1 hG h2), mSe_up hn (mGr_Se h1 hG h3), mKn_up hn (mGr_Kn h1 hG h4), mGr_Cl hG h5, ?_, mAk_up hn (mGr_Ak h1 h2 h3 hG h7)⟩
  rcases h6 with h6 | ⟨h6, ds, g1, g2, g3⟩
  · exact Or.inl ((hG.2.1 _ (by decide)).trans h6)
  · exact Or.inr ⟨(hG.2.1 _ (by decide)).trans h6, ds, mRn_up hn (mGr_Rn h1 h2 hG g1), mGr_Bi h1 h2 hG g1 g2, Or.inl hr⟩
theorem mLow_gr {σ τ : kS} {n : Nat} (h : mGr σ τ n) : mLow σ τ := fun c hc => h.1 c (fun q => by
  simp only [rowC, List.mem_cons, List.not_mem_nil, or_false] at q
  omega)
theorem mI_new {σ τ : kS} {n b R S C k : Nat} {kl : List Nat} {a c : Int32} (h : mI σ n b R S C kl) (hN : mNw σ τ n k a c) (hk : k ≠ 3) (hk9 : k ≤ 9) : mI τ (n + 1) 200 R S C kl := by
  have hG := mGr_new hN
  obtain ⟨z, g, nx, hd, jd, rfl, hT⟩ := hN
  refine mI_gr h hG (by omega) (fun t h1 h2 => ?_) hT rfl
  obtain rfl : t = n := by omega
  show upd (σ 233) t (nI k) t ≠ nI 3
  rw [pk_us]
  exact nI_ne hk
theorem mI_rs {σ τ : kS} {n b R S C : Nat} {kl : List Nat} (h : mI σ n b R S C kl) (hN : mRs σ τ n) : mGr σ τ n ∧ mI τ n 200 R S C kl := by
  obtain ⟨hd, jd, rfl, hT⟩ := hN
  have hG : mGr σ (mU σ (σ 233) (σ 234) (σ 235) (σ 236) (σ 237) (σ 243) hd (mO0 (σ 232) jd)) n := by
    refine ⟨fun c hc => ?_, fun j hj => ?_, fun u hu => ⟨rfl, rfl, rfl⟩⟩
    · simp only [rowC, List.mem_cons, List.not_mem_nil, or_false, not_or] at hc
      simp [mU, va_up, hc]
    · simp only [rowT, rowJ, List.mem_cons, List.not_mem_nil, or_false, not_or] at hj
      show mO0 (σ 232) jd j = _
      unfold mO0
      rw [pk_un hj.2.2.2.2.2.1, pk_un hj.2.2.1, pk_un hj.2.1]
  exact ⟨hG, mI_gr h hG (Nat.le_refl _) (fun t h1 h2 => by omega) hT rfl⟩
end
section
/-! the reference: what is asked from outside about TERMS and ROLES -/
theorem in_R {x : Int32} {lo hi : Nat} (hh : hi < 1000) (hl : lo < 1000) (h1 : ¬ x.toInt64 < (nI lo).toInt64) (h2 : ¬ (nI hi).toInt64 < x.toInt64) : ∃ k, lo ≤ k ∧ k ≤ hi ∧ x = nI k := by
  rw [i64_lt] at h1 h2
  rw [Int32.lt_iff_toInt_lt, nI_toInt (by omega)] at h1 h2
  have hx : ¬ x < 0 := fun h => by
    rw [Int32.lt_iff_toInt_lt] at h
    have : (0 : Int32).toInt = 0 := rfl
    omega
  obtain ⟨j, hj, rfl⟩ := nI_of hx
  rw [nI_toInt hj] at h1 h2
  exact ⟨j, by omega, by omega, rfl⟩
theorem kXM_mono {T : List jC} {L : Nat} {xs : Nat → Int32} {d y : Nat} {as : List Value} {σ : kS} {P Q : Option Value → kS → Prop} (h : kXM T L xs d y as σ P) (i : ∀ r σ', P r σ' → Q r σ') : kXM T L xs d y as σ Q := fun hh e => by
  obtain ⟨r, σ', h', a, b, c⟩ := h hh e
  exact ⟨r, σ', h', a, b, i r σ' c⟩
theorem mI_hon {σ : kS} {n b R S C : Nat} {kl : List Nat} {f : Nat → Int32} (h : mI σ n b R S C kl) (hr : σ 232 47 = 0) : mI (va_up σ 238 f) n b R S C kl := by
  obtain ⟨h1, h2, h3, h4, h5, h6, h7⟩ := h
  refine ⟨h1, h2, h3, h4, h5, ?_, h7⟩
  rcases h6 with h6 | ⟨h6, ds, g1, g2, g3⟩
  · exact Or.inl h6
  · exact Or.inr ⟨h6, ds, g1, g2, Or.inl hr⟩
theorem mNw_rit {σ τ : kS} {n k : Nat} {a c : Int32} (h : mNw σ τ n k a c) : τ 232 47 = 0 := by
  obtain ⟨z, g, nx, hd, jd, rfl, -⟩ := h
  rfl
theorem mAfter_new {σ τ : kS} {n b R S C k : Nat} {kl : List Nat} {a c : Int32} (h : mI σ n b R S C kl) (hN : mNw σ τ n k a c) (hk : k ≠ 3) (hk9 : k ≤ 9) : mAfter σ τ R := ⟨mLow_gr (mGr_new hN), n + 1, 200, S, C, kl, mI_new h hN hk hk9⟩
theorem mAfter_rs {σ τ : kS} {n b R S C : Nat} {kl : List Nat} (h : mI σ n b R S C kl) (hN : mRs σ τ n) : mAfter σ τ R := ⟨mLow_gr (mI_rs h hN).1, n, 200, S, C, kl, (mI_rs h hN).2⟩
set_option maxRecDepth 100000 in
set_option maxHeartbeats 4000000 in
theorem mp_agent (L : Nat) (xs : Nat → Int32) (d : Nat) (σ : kS) (n b R S C : Nat) (kl : List Nat) (v : Int32) (hv : v = 0 ∨ v = 1) (h : mI σ n b R S C kl) : kXM kT L xs (d + 4) 155 [.ref 232, .int v] σ (fun r σ' => (∃ x, r = some (.int x)) ∧ mAfter σ σ' R) := by
  refine kXM_mono (mr_agent L xs d σ n b h.1 v hv) (fun r σ' q => ?_)
  rcases q with ⟨-, rfl, rfl⟩ | ⟨-, rfl, τ, hN, rfl⟩
  · exact ⟨⟨_, rfl⟩, mAfter_same h⟩
  · exact ⟨⟨_, rfl⟩, mLow_trans (mLow_gr (mGr_new hN)) (mLow_up τ _ (by decide)), n + 1, 200, S, C, kl, mI_hon (mI_new h hN (by decide) (by decide)) (mNw_rit hN)⟩
set_option maxRecDepth 100000 in
set_option maxHeartbeats 4000000 in
theorem mp_atom (L : Nat) (xs : Nat → Int32) (d : Nat) (σ : kS) (n b R S C : Nat) (kl : List Nat) (x : Int32) (h : mI σ n b R S C kl) : kXM kT L xs (d + 4) 156 [.ref 232, .int x] σ (fun r σ' => (∃ x, r = some (.int x)) ∧ mAfter σ σ' R) := by
  have h1 := h.1
  have hn := h1.1
  unfold kXM
  repeat refine kX_one rfl ?_
  refine kX_cal (mr_in L xs (d + 3) σ _ _ _) rfl (Or.inr rfl) rfl rfl rfl (fun r1 σ1 q1 => ?_)
  obtain ⟨rfl, rfl⟩ := q1
  rw [isB_dec]
  repeat refine kX_one rfl ?_
  refine kX_if (fun q => ?_) (fun q => ?_)
  · obtain ⟨k, k1, k2, rfl⟩ := in_R (lo := 1) (hi := 2) (by omega) (by omega) (isB_ne.mp (qne q)).1 (isB_ne.mp (qne q)).2
    repeat refine kX_one rfl ?_
    refine kX_if (fun q => ?_) (fun q => ?_)
    · have q : n ≠ 200 := fun e => qne q (by rw [h1.2.2.2.1, e]; decide)
      repeat refine kX_one rfl ?_
      refine kX_cal (mr_last L xs d σ n b k (-1) (-1) 0 0 h1 (by omega) (Or.inl ⟨by omega, rfl, rfl⟩) (by omega) (by omega) (by omega) (by unfold msz; rw [if_pos (by omega)]; decide)) rfl (Or.inr rfl) rfl rfl rfl (fun r1 σ1 q1 => ?_)
      obtain ⟨rfl, hnew⟩ := q1
      repeat refine kX_one rfl ?_
      refine kX_ret (i := .ireturn) (len := 1) rfl (Or.inr rfl) rfl (⟨⟨_, rfl⟩, mAfter_new h hnew (by omega) (by omega)⟩)
    · repeat refine kX_one rfl ?_
      refine kX_ret (i := .ireturn) (len := 1) rfl (Or.inr rfl) rfl (⟨⟨_, rfl⟩, mAfter_same h⟩)
  · repeat refine kX_one rfl ?_
    refine kX_ret (i := .ireturn) (len := 1) rfl (Or.inr rfl) rfl (⟨⟨_, rfl⟩, mAfter_same h⟩)
theorem mp_old (L : Nat) (xs : Nat → Int32) (d : Nat) (σ : kS) (n b R S C k : Nat) (kl : List Nat) (a c : Int32) (x y : Nat) (h : mI σ n b R S C kl) (hk : 3 < k) (hk9 : k ≤ 9) (hw : tNw k a c x y n) (h6 : k = 6 ∨ k = 8 → mAG σ n y) (h7 : k = 7 → mAG σ n x) : kXM kT L xs (d + 4) 157 [.ref 232, .int (nI k), .int a, .int c] σ (fun r σ' => (∃ x, r = some (.int x)) ∧ mAfter σ σ' R) := by
  refine kXM_mono (mr_oldOrNew L xs d σ n b k a c x y h.1 hk hw h6 h7) (fun r σ' q => ?_)
  rcases q with ⟨-, rfl, rfl⟩ | ⟨-, ⟨t, -, -, rfl⟩, rfl⟩ | ⟨-, -, -, rfl, q⟩ | ⟨-, -, -, rfl, q⟩
  · exact ⟨⟨_, rfl⟩, mAfter_same h⟩
  · exact ⟨⟨_, rfl⟩, mAfter_same h⟩
  · rcases q with rfl | q
    · exact ⟨⟨_, rfl⟩, mAfter_same h⟩
    · exact ⟨⟨_, rfl⟩, mAfter_rs h q⟩
  · exact ⟨⟨_, rfl⟩, mAfter_new h q (by omega) hk9⟩

set_option maxRecDepth 100000 in
set_option maxHeartbeats 4000000 in
theorem mp_term (L : Nat) (xs : Nat → Int32) (d : Nat) (σ : kS) (n b R S C : Nat) (kl : List Nat) (x y z : Int32) (h : mI σ n b R S C kl) : kXM kT L xs (d + 5) 158 [.ref 232, .int x, .int y, .int z] σ (fun r σ' => (∃ x, r = some (.int x)) ∧ mAfter σ σ' R) := by
  have h1 := h.1
  have hn := h1.1
  unfold kXM
  repeat refine kX_one rfl ?_
  refine kX_cal (mr_isTerm L xs (d + 3) σ n y h1.2.2.2.1 (by omega)) rfl (Or.inr rfl) rfl rfl rfl (fun r1 σ1 q1 => ?_)
  obtain ⟨rfl, rfl⟩ := q1
  repeat refine kX_one rfl ?_
  refine kX_if (fun q => ?_) (fun q => ?_)
  · repeat refine kX_one rfl ?_
    refine kX_ret (i := .ireturn) (len := 1) rfl (Or.inr rfl) rfl (⟨⟨_, rfl⟩, mAfter_same h⟩)
  · obtain ⟨u, hu, rfl⟩ := isB_ne.mp (qeqF q)
    repeat refine kX_one rfl ?_
    refine kX_if (fun q => ?_) (fun q => ?_)
    · have q := qeq q
      subst q
      repeat refine kX_one rfl ?_
      refine kX_cal (mp_old L xs d σ n b R S C 9 kl (nI u) (-1) u 0 h (by omega) (by omega) (Or.inr (Or.inr ⟨Or.inr rfl, rfl, rfl, hu⟩)) (by omega) (by omega)) rfl (Or.inr rfl) rfl rfl rfl (fun r1 σ1 q1 => ?_)
      obtain ⟨⟨w, rfl⟩, q1⟩ := q1
      repeat refine kX_one rfl ?_
      refine kX_ret (i := .ireturn) (len := 1) rfl (Or.inr rfl) rfl (⟨⟨_, rfl⟩, q1⟩)
    · have q9 := qeqF q
      repeat refine kX_one rfl ?_
      refine kX_cal (mr_isTerm L xs (d + 3) σ n z h1.2.2.2.1 (by omega)) rfl (Or.inr rfl) rfl rfl rfl (fun r1 σ1 q1 => ?_)
      obtain ⟨rfl, rfl⟩ := q1
      repeat refine kX_one rfl ?_
      refine kX_if (fun q => ?_) (fun q => ?_)
      · obtain ⟨v, hv, rfl⟩ := isB_ne.mp (qne q)
        repeat refine kX_one rfl ?_
        refine kX_if (fun q => ?_) (fun q => ?_)
        · have q := qeq q
          subst q
          repeat refine kX_one rfl ?_
          refine kX_cal (mp_old L xs d σ n b R S C 4 kl (nI u) (nI v) u v h (by omega) (by omega) (Or.inr (Or.inl ⟨Or.inl rfl, rfl, rfl, hu, hv⟩)) (by omega) (by omega)) rfl (Or.inr rfl) rfl rfl rfl (fun r1 σ1 q1 => ?_)
          obtain ⟨⟨w, rfl⟩, q1⟩ := q1
          repeat refine kX_one rfl ?_
          refine kX_ret (i := .ireturn) (len := 1) rfl (Or.inr rfl) rfl (⟨⟨_, rfl⟩, q1⟩)
        · repeat refine kX_one rfl ?_
          refine kX_if (fun q => ?_) (fun q => ?_)
          · have q := qeq q
            subst q
            repeat refine kX_one rfl ?_
            refine kX_cal (mp_old L xs d σ n b R S C 5 kl (nI u) (nI v) u v h (by omega) (by omega) (Or.inr (Or.inl ⟨Or.inr (Or.inl rfl), rfl, rfl, hu, hv⟩)) (by omega) (by omega)) rfl (Or.inr rfl) rfl rfl rfl (fun r1 σ1 q1 => ?_)
            obtain ⟨⟨w, rfl⟩, q1⟩ := q1
            repeat refine kX_one rfl ?_
            refine kX_ret (i := .ireturn) (len := 1) rfl (Or.inr rfl) rfl (⟨⟨_, rfl⟩, q1⟩)
          · repeat refine kX_one rfl ?_
            refine kX_if (fun q => ?_) (fun q => ?_)
            · exact absurd (qeq q) q9
            · repeat refine kX_one rfl ?_
              refine kX_ret (i := .ireturn) (len := 1) rfl (Or.inr rfl) rfl (⟨⟨_, rfl⟩, mAfter_same h⟩)
      · repeat refine kX_one rfl ?_
        refine kX_ret (i := .ireturn) (len := 1) rfl (Or.inr rfl) rfl (⟨⟨_, rfl⟩, mAfter_same h⟩)
set_option maxRecDepth 100000 in
set_option maxHeartbeats 4000000 in
theorem mp_of (L : Nat) (xs : Nat → Int32) (d : Nat) (σ : kS) (n b R S C : Nat) (kl : List Nat) (x y z : Int32) (h : mI σ n b R S C kl) : kXM kT L xs (d + 5) 159 [.ref 232, .int x, .int y, .int z] σ (fun r σ' => (∃ x, r = some (.int x)) ∧ mAfter σ σ' R) := by
  have h1 := h.1
  have hn := h1.1
  have key : ∀ y, (x ≠ nI 7 → isN y n) → kX kT L xs (d + 5) 159 14 [(0, .ref 232), (1, .int x), (2, .int y), (3, .int z)] [] σ (fun r σ' => (∃ x, r = some (.int x)) ∧ mAfter σ σ' R) := by
    intro y hy
    repeat refine kX_one rfl ?_
    refine kX_cal (mr_isTerm L xs (d + 3) σ n z h1.2.2.2.1 (by omega)) rfl (Or.inr rfl) rfl rfl rfl (fun r1 σ1 q1 => ?_)
    obtain ⟨rfl, rfl⟩ := q1
    repeat refine kX_one rfl ?_
    refine kX_if (fun q => ?_) (fun q => ?_)
    · obtain ⟨v, hv, rfl⟩ := isB_ne.mp (qne q)
      repeat refine kX_one rfl ?_
      refine kX_cal (mr_in L xs (d + 4) σ _ _ _) rfl (Or.inr rfl) rfl rfl rfl (fun r1 σ1 q1 => ?_)
      obtain ⟨rfl, rfl⟩ := q1
      rw [isB_dec]
      repeat refine kX_one rfl ?_
      refine kX_if (fun q => ?_) (fun q => ?_)
      · repeat refine kX_one rfl ?_
        refine kX_ret (i := .ireturn) (len := 1) rfl (Or.inr rfl) rfl (⟨⟨_, rfl⟩, mAfter_same h⟩)
      · obtain ⟨k, k1, k2, rfl⟩ := in_R (lo := 6) (hi := 8) (by omega) (by omega) (isB_ne.mp (qeqF q)).1 (isB_ne.mp (qeqF q)).2
        have fin : mAG σ n v → kX kT L xs (d + 5) 159 69 [(0, .ref 232), (1, .int (nI k)), (2, .int y), (3, .int (nI v))] [] σ (fun r σ' => (∃ x, r = some (.int x)) ∧ mAfter σ σ' R) := by
          intro hA
          repeat refine kX_one rfl ?_
          refine kX_if (fun q => ?_) (fun q => ?_)
          · have q : nI k ≠ nI 7 := qne q
            obtain ⟨u, hu, rfl⟩ := hy q
            have q : k ≠ 7 := fun e => q (by rw [e])
            repeat refine kX_one rfl ?_
            refine kX_cal (mp_old L xs d σ n b R S C k kl (nI u) (nI v) u v h (by omega) (by omega) (Or.inr (Or.inl ⟨by omega, rfl, rfl, hu, hv⟩)) (fun _ => hA) (by omega)) rfl (Or.inr rfl) rfl rfl rfl (fun r1 σ1 q1 => ?_)
            obtain ⟨⟨w, rfl⟩, q1⟩ := q1
            repeat refine kX_one rfl ?_
            refine kX_ret (i := .ireturn) (len := 1) rfl (Or.inr rfl) rfl (⟨⟨_, rfl⟩, q1⟩)
          · obtain rfl : k = 7 := nI_inj (qneF q)
            repeat refine kX_one rfl ?_
            refine kX_cal (mp_old L xs d σ n b R S C 7 kl (nI v) (-1) v 0 h (by omega) (by omega) (Or.inr (Or.inr ⟨Or.inl rfl, rfl, rfl, hv⟩)) (by omega) (fun _ => hA)) rfl (Or.inr rfl) rfl rfl rfl (fun r1 σ1 q1 => ?_)
            obtain ⟨⟨w, rfl⟩, q1⟩ := q1
            repeat refine kX_one rfl ?_
            refine kX_ret (i := .ireturn) (len := 1) rfl (Or.inr rfl) rfl (⟨⟨_, rfl⟩, q1⟩)
        repeat refine kX_one rfl ?_
        refine kX_ialdN rfl rfl (by decide) (v) (by first | rfl | decide) (by omega) ?_
        repeat refine kX_one rfl ?_
        refine kX_if (fun q => ?_) (fun q => ?_)
        · exact fin ⟨hv, Or.inl (qeq q)⟩
        · repeat refine kX_one rfl ?_
          refine kX_ialdN rfl rfl (by decide) (v) (by first | rfl | decide) (by omega) ?_
          repeat refine kX_one rfl ?_
          refine kX_if (fun q => ?_) (fun q => ?_)
          · repeat refine kX_one rfl ?_
            refine kX_ret (i := .ireturn) (len := 1) rfl (Or.inr rfl) rfl (⟨⟨_, rfl⟩, mAfter_same h⟩)
          · have q3 : σ 233 v = nI 3 := qneF q
            repeat refine kX_one rfl ?_
            refine kX_ialdN rfl rfl (by decide) (v) (by first | rfl | decide) (by omega) ?_
            repeat refine kX_one rfl ?_
            refine kX_if (fun q => ?_) (fun q => ?_)
            · exact fin ⟨hv, Or.inr ⟨q3, qeq q⟩⟩
            · repeat refine kX_one rfl ?_
              refine kX_ret (i := .ireturn) (len := 1) rfl (Or.inr rfl) rfl (⟨⟨_, rfl⟩, mAfter_same h⟩)
    · repeat refine kX_one rfl ?_
      refine kX_ret (i := .ireturn) (len := 1) rfl (Or.inr rfl) rfl (⟨⟨_, rfl⟩, mAfter_same h⟩)
  unfold kXM
  repeat refine kX_one rfl ?_
  refine kX_if (fun q => ?_) (fun q => ?_)
  · exact key y (fun e => absurd (qeq q) e)
  · repeat refine kX_one rfl ?_
    refine kX_cal (mr_isTerm L xs (d + 3) σ n y h1.2.2.2.1 (by omega)) rfl (Or.inr rfl) rfl rfl rfl (fun r1 σ1 q1 => ?_)
    obtain ⟨rfl, rfl⟩ := q1
    repeat refine kX_one rfl ?_
    refine kX_if (fun q => ?_) (fun q => ?_)
    · repeat refine kX_one rfl ?_
      refine kX_ret (i := .ireturn) (len := 1) rfl (Or.inr rfl) rfl (⟨⟨_, rfl⟩, mAfter_same h⟩)
    · exact key y (fun _ => isB_ne.mp (qeqF q))
end
