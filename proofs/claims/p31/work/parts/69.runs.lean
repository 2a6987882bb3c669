section
/-! the reference: the RUN's invariant -/
/-- VARIABLE k of the role r stands for something behind dn EVENTS -/
def bdv (σ : kS) (r dn k : Nat) : Prop := k < fN (σ 244 r) ∧ (σ 246 (6 * r + k) ≠ nI 2 ∨ ∃ e, e < dn ∧ σ 249 (6 * r + e) = 0 ∧ fN (σ 245 (6 * r + k)) ∈ tvs (σ 233) (σ 234) (σ 235) (fN (σ 248 (6 * r + e))))
/-- .. and came to by the EVENT e -/
def nbv (σ : kS) (r e k : Nat) : Prop := bdv σ r (e + 1) k ∧ ¬ bdv σ r e k
theorem bdv_mono {σ : kS} {r dn dn' k : Nat} (h : dn ≤ dn') (hb : bdv σ r dn k) : bdv σ r dn' k := ⟨hb.1, hb.2.elim Or.inl (fun ⟨e, h1, h2⟩ => Or.inr ⟨e, by omega, h2⟩)⟩
/-- the VARIABLES of a TERM of the role r, by their numbers -/
theorem mRo_var {σ : kS} {n b R r t u : Nat} (h : mTb σ n b) (hR : mRo σ n R) (hr : r < R) (ht : t < n) (hof : ∀ u ∈ tvs (σ 233) (σ 234) (σ 235) t, σ 239 u = nI r) (hu : u ∈ tvs (σ 233) (σ 234) (σ 235) t) : ∃ k so, u < n ∧ k < 6 ∧ k < fN (σ 244 r) ∧ σ 245 (6 * r + k) = nI u ∧ σ 241 u = nI k ∧ σ 233 u = nI 3 ∧ so ≤ 3 ∧ σ 240 u = nI so := by
  have hn := h.1
  have hR4 := hR.1
  obtain ⟨u1, u2, -⟩ := tvs_mem (mTb_num h) t ht u hu
  obtain ⟨r', k, r1, k1, kv⟩ := hR.2.2.2.2.1 u u1 u2
  obtain ⟨t', so, as, a1, a2, a3, a4, a5, a6, a7, -⟩ := hR.2.2.2.1 r' k r1 k1
  have e1 : u = t' := nI_inj (kv.symm.trans a2)
  subst e1
  have e2 : r' = r := nI_inj (a4.symm.trans (hof u hu))
  subst e2
  obtain ⟨⟨v, h1, h2⟩, -⟩ := hR.2.2.1 r' r1
  exact ⟨k, so, u1, by rw [h2, fN_nI (by omega)] at k1; omega, k1, kv, a5, u2, a6, a7⟩
/-- all VARIABLES in a done EVENT stand for something -/
theorem bdv_ev {σ : kS} {n b R r e dn u k : Nat} (h : mTb σ n b) (hR : mRo σ n R) (hr : r < R) (he : e < dn) (hdn : dn ≤ fN (σ 247 r)) (hu : u ∈ tvs (σ 233) (σ 234) (σ 235) (fN (σ 248 (6 * r + e)))) (hk : σ 241 u = nI k) (hk6 : k < 6) : bdv σ r dn k := by
  have hn := h.1
  have hR4 := hR.1
  obtain ⟨t, t1, t2, t3, t4⟩ := hR.2.2.2.2.2 r e hr (by omega)
  rw [t2, fN_nI (by omega)] at hu
  obtain ⟨k', so, u1, k6, kv, vv, kk, -⟩ := mRo_var h hR hr t1 t3 hu
  obtain rfl : k = k' := nI_inj (hk.symm.trans kk)
  refine ⟨kv, ?_⟩
  by_cases ha : σ 246 (6 * r + k) = nI 2
  · right
    by_cases hs : σ 249 (6 * r + e) = 0
    · exact ⟨e, he, hs, by rw [t2, fN_nI (by omega), vv, fN_nI (by omega)]; exact hu⟩
    · obtain ⟨e', e1, e2, e3⟩ := t4 hs u hu (by rw [kk, fN_nI (by omega)]; exact ha)
      exact ⟨e', by omega, e2, by rw [vv, fN_nI (by omega)]; exact e3⟩
  · exact Or.inl ha
/-- a value that VARIABLE k may stand for -/
def mVz (σ : kS) (n r k : Nat) (x : Int32) : Prop := ∃ z, z < n ∧ x = nI z ∧ tgd (σ 233) (σ 234) (σ 235) z = true ∧ (σ 240 (fN (σ 245 (6 * r + k))) = nI 3 ∨ σ 240 (fN (σ 245 (6 * r + k))) = σ 233 z)
theorem mVz_ne {σ : kS} {n b r k : Nat} {x : Int32} (h : mTb σ n b) (hz : mVz σ n r k x) : x ≠ -6 ∧ ¬ x < 0 := by
  obtain ⟨z, z1, rfl, -⟩ := hz
  have := h.1
  have h0 : ¬ nI z < 0 := nI_pos (by omega)
  exact ⟨fun e => h0 (by rw [e]; decide), h0⟩
theorem mSn_of {σ : kS} {n b R s r dn : Nat} (h : mTb σ n b) (hR : mRo σ n R) (r1 : r < R) (r2 : σ 255 s = nI r) (r3 : σ 264 s = nI dn) (r4 : dn ≤ fN (σ 247 r)) (hv : ∀ k, k < 6 → (bdv σ r dn k → mVz σ n r k (σ 265 (6 * s + k))) ∧ (¬ bdv σ r dn k → σ 265 (6 * s + k) = -6)) : mSn σ n R s dn := by
  have hn := h.1
  have hv6 : fN (σ 244 r) ≤ 6 := by
    obtain ⟨⟨v, h1, h2⟩, -⟩ := hR.2.2.1 r r1
    rw [h2, fN_nI (by omega)]
    exact h1
  refine ⟨r, r1, r2, r3, r4, fun k hk => ?_, fun e he u hu => ?_, fun k hk ha hne => ?_⟩
  · by_cases hb : bdv σ r dn k
    · obtain ⟨z, z1, z2, z3, z4⟩ := (hv k hk).1 hb
      exact Or.inr ⟨z, z1, z2, z3, hb.1, z4⟩
    · exact Or.inl ⟨(hv k hk).2 hb, fun hkv => Classical.byContradiction (fun hh => hb ⟨hkv, Or.inl hh⟩)⟩
  · obtain ⟨t, t1, t2, t3, t4⟩ := hR.2.2.2.2.2 r e r1 (by omega)
    have hu0 := hu
    rw [t2, fN_nI (by omega)] at hu
    obtain ⟨k, so, u1, k6, kv, vv, kk, -⟩ := mRo_var h hR r1 t1 t3 hu
    obtain ⟨z, z1, z2, z3, z4⟩ := (hv k k6).1 (bdv_ev h hR r1 he r4 hu0 kk k6)
    refine ⟨k, z, k6, z1, kk, z2, z3, fun hs => ?_⟩
    rw [vv, fN_nI (by omega)] at z4
    rcases z4 with z4 | z4
    · rw [hs] at z4
      exact absurd z4 (by decide)
    · rw [← z4]
      exact hs
  · have hb : bdv σ r dn k := Classical.byContradiction (fun hh => hne ((hv k (by omega)).2 hh))
    rcases hb.2 with q | q
    · exact absurd ha q
    · exact q
theorem mSn_iff {σ : kS} {n b R s r dn : Nat} (h : mTb σ n b) (hR : mRo σ n R) (hS : mSn σ n R s dn) (r2 : σ 255 s = nI r) (hr : r < R) : σ 264 s = nI dn ∧ dn ≤ fN (σ 247 r) ∧ ∀ k, k < 6 → (bdv σ r dn k → mVz σ n r k (σ 265 (6 * s + k))) ∧ (¬ bdv σ r dn k → σ 265 (6 * s + k) = -6) := by
  have hn := h.1
  have hR4 := hR.1
  obtain ⟨r', h1, h2, h3, h4, h5, h6, h7⟩ := hS
  obtain rfl : r' = r := nI_inj (h2.symm.trans r2)
  refine ⟨h3, h4, fun k hk => ⟨fun hb => ?_, fun hb => ?_⟩⟩
  · rcases h5 k hk with ⟨q1, q2⟩ | ⟨z, z1, z2, z3, z4, z5⟩
    · exfalso
      rcases hb.2 with q | ⟨e, e1, e2, e3⟩
      · exact q (q2 hb.1)
      · obtain ⟨t, so, as, a1, a2, a3, a4, a5, -⟩ := hR.2.2.2.1 r' k h1 hb.1
        rw [a2, fN_nI (by omega)] at e3
        obtain ⟨p, z, p1, p2, p3, p4, -⟩ := h6 e e1 t e3
        obtain rfl : k = p := nI_inj (a5.symm.trans p3)
        have h0 : ¬ nI z < 0 := nI_pos (by omega)
        rw [← p4, q1] at h0
        exact h0 (by decide)
    · exact ⟨z, z1, z2, z3, z5⟩
  · rcases h5 k hk with ⟨q1, q2⟩ | ⟨z, z1, z2, z3, z4, z5⟩
    · exact q1
    · exfalso
      by_cases ha : σ 246 (6 * r' + k) = nI 2
      · refine hb ⟨z4, Or.inr (h7 k z4 ha ?_)⟩
        intro e6
        have h0 : ¬ nI z < 0 := nI_pos (by omega)
        rw [← z2, e6] at h0
        exact h0 (by decide)
      · exact hb ⟨z4, Or.inl ha⟩
/-- the EVENTS of the RUN: which VARIABLES came to stand for something -/
def mBi (σ : kS) (ds : List Nat) : Prop := ∀ k (h : k < ds.length), ∃ m, m < 64 ∧ σ 275 k = nI m ∧ ∀ p, p < 6 → (m / 2 ^ p % 2 = 1 ↔ nbv σ (fN (σ 255 (ds[k]'h))) ((ds.take k).count (ds[k]'h)) p)
/-- the row of the RUN, if it is there -/
def mRt (σ : kS) (n b : Nat) (kl ds : List Nat) : Prop := σ 232 47 = 0 ∨ (σ 232 47 = 1 ∧ b ≤ 776 ∧ ∃ l, mRq σ (mvG σ n b) l ∧ mJd σ n b l ∧ rwM σ l = trRun σ kl ds)
def mRi (σ : kS) (n b R S : Nat) (kl : List Nat) : Prop := σ 232 52 = 0 ∨ (σ 232 52 = 1 ∧ ∃ ds, mRn σ n R S ds ∧ mBi σ ds ∧ mRt σ n b kl ds)
/-- the ATTACK that was found -/
def mAk (σ : kS) (n R S : Nat) : Prop := σ 232 72 = -6 ∨ ∃ (as : List Nat) (fin : Nat → Nat → Int32), as.length ≤ 24 ∧ σ 232 72 = nI as.length ∧ lst (σ 288) as ∧
  (∀ s ∈ as, s < S ∧ as.count s ≤ fN (σ 247 (fN (σ 255 s))) ∧ ∀ k, k < 6 → bdv σ (fN (σ 255 s)) (as.count s) k → mVz σ n (fN (σ 255 s)) k (fin s k) ∧ (σ 246 (6 * fN (σ 255 s) + k) ≠ nI 2 → fin s k = σ 256 (6 * s + k))) ∧
  ∀ i (h : i < as.length), ∃ st, st < 600 ∧ σ 289 i = nI st ∧ ∀ k, k < 6 → σ 285 (24 * st + 6 * (as[i]'h) + k) = cit (bdv σ (fN (σ 255 (as[i]'h))) ((as.take i).count (as[i]'h) + 1) k) (fin (as[i]'h) k) (-6)
/-- all of the reference -/
def mI (σ : kS) (n b R S C : Nat) (kl : List Nat) : Prop := mTb σ n b ∧ mRo σ n R ∧ mSe σ n R S ∧ mKn σ n kl ∧ mCl σ R C ∧ mRi σ n b R S kl ∧ mAk σ n R S
set_option maxRecDepth 100000 in
set_option maxHeartbeats 4000000 in
theorem mr_begin (L : Nat) (xs : Nat → Int32) (d : Nat) (σ : kS) (n b R S C : Nat) (kl : List Nat) (h : mI σ n b R S C kl) : kXM kT L xs (d + 2) 191 [.ref 232] σ (fun r σ' => r = some (.int (nI S)) ∧ mLow σ σ' ∧ mI σ' n b R S C kl ∧ ∃ D V, σ' = va_up (va_up (va_up σ 264 D) 265 V) 232 (upd (upd (upd (σ 232) 52 1) 55 0) 47 0) ∧ (∀ s, s < S → D s = 0) ∧ (∀ s k, s < S → k < 6 → V (6 * s + k) = if k < fN (σ 244 (fN (σ 255 s))) then σ 256 (6 * s + k) else -6)) := by
  obtain ⟨h1, h2, h3, h4, h5, h6, h7⟩ := h
  unfold kXM
  iterate 7 (refine kX_one rfl ?_)
  refine kX_st (va_up σ 232 (upd (upd (σ 232) 52 1) 55 0)) ?_ ?_
  · funext c; first
      | ((repeat (refine va_case ?_ ?_; (· (intro h; first | (subst h; rfl) | (unfold va_up; repeat' split; (all_goals first | rfl | omega | (subst_vars; rfl) | (funext j; unfold upd; repeat' split; all_goals first | rfl | omega | (subst_vars; rfl)))))); intro h)); (repeat (refine va_case2 ?_ ?_; (· (intro h; first | exact absurd h (by assumption) | (subst h; rfl) | (subst h; funext j; unfold upd; repeat' split; (all_goals first | rfl | omega | (subst_vars; rfl))))); intro h)); rfl)
      | (unfold va_up; repeat' split
         all_goals first | rfl | omega | (subst_vars; rfl) | (funext j; unfold upd; repeat' split; all_goals first | rfl | omega | (subst_vars; rfl)))
  refine kX_cal (mr_begins L xs d (va_up σ 232 (upd (upd (σ 232) 52 1) 55 0)) n b R S h1 h2 h3) rfl (Or.inr rfl) rfl rfl rfl (fun r1 σ1 q1 => ?_)
  obtain ⟨rfl, D, V, rfl, hD, hV⟩ := q1
  repeat refine kX_one rfl ?_
  have hs := mSn_begin (σ := σ) h1 h2 h3 hD hV
  have e : va_up (va_up (va_up (va_up σ 232 (upd (upd (σ 232) 52 1) 55 0)) 264 D) 265 V) 232 (upd ((va_up (va_up (va_up σ 232 (upd (upd (σ 232) 52 1) 55 0)) 264 D) 265 V) 232) 47 (Int32.ofInt 0)) = va_up (va_up (va_up σ 264 D) 265 V) 232 (upd (upd (upd (σ 232) 52 1) 55 0) 47 0) := by
    funext c; first
      | ((repeat (refine va_case ?_ ?_; (· (intro h; first | (subst h; rfl) | (unfold va_up; repeat' split; (all_goals first | rfl | omega | (subst_vars; rfl) | (funext j; unfold upd; repeat' split; all_goals first | rfl | omega | (subst_vars; rfl)))))); intro h)); (repeat (refine va_case2 ?_ ?_; (· (intro h; first | exact absurd h (by assumption) | (subst h; rfl) | (subst h; funext j; unfold upd; repeat' split; (all_goals first | rfl | omega | (subst_vars; rfl))))); intro h)); rfl)
      | (unfold va_up; repeat' split
         all_goals first | rfl | omega | (subst_vars; rfl) | (funext j; unfold upd; repeat' split; all_goals first | rfl | omega | (subst_vars; rfl)))
  refine kX_st _ e ?_
  refine kX_ret (i := .ireturn) (len := 1) rfl (Or.inr rfl) rfl ⟨?_, ?_, ?_, D, V, rfl, hD, hV⟩
  · exact congrArg (fun z => some (Value.int z)) h3.2.1
  · exact mLow_trans (mLow_trans (mLow_up σ D (by decide)) (mLow_up _ V (by decide))) (mLow_up _ _ (by decide))
  · exact ⟨h1, h2, h3, h4, h5, Or.inr ⟨rfl, [], ⟨rfl, lst_nil _, fun s h9 => (by cases h9), fun s hss => hs s hss⟩, fun k hk => absurd hk (Nat.not_lt_zero k), Or.inl rfl⟩, h7⟩
end
section
/-! the reference: what the making of a row leaves as it was -/
theorem mFr_bdv {σ τ : kS} {n b R r dn k : Nat} (h : mTb σ n b) (hR : mRo σ n R) (hF : mFr σ τ n) (hr : r < R) (hdn : dn ≤ fN (σ 247 r)) : bdv τ r dn k ↔ bdv σ r dn k := by
  have hn := h.1
  have c := fun c (hc : c ∉ rowC) => hF.1 c hc
  unfold bdv
  rw [c 244 (by decide), c 246 (by decide), c 249 (by decide), c 245 (by decide), c 248 (by decide)]
  refine and_congr_right (fun _ => or_congr_right ?_)
  constructor
  · rintro ⟨e, e1, e2, e3⟩
    obtain ⟨t, t1, t2, -⟩ := hR.2.2.2.2.2 r e hr (by omega)
    refine ⟨e, e1, e2, ?_⟩
    rw [t2, fN_nI (by omega)] at e3 ⊢
    rw [(mFr_all h hF t1).2.2] at e3
    exact e3
  · rintro ⟨e, e1, e2, e3⟩
    obtain ⟨t, t1, t2, -⟩ := hR.2.2.2.2.2 r e hr (by omega)
    refine ⟨e, e1, e2, ?_⟩
    rw [t2, fN_nI (by omega)] at e3 ⊢
    rw [(mFr_all h hF t1).2.2]
    exact e3
theorem mFr_Vz {σ τ : kS} {n b r k : Nat} {x : Int32} (h : mTb σ n b) (hF : mFr σ τ n) (hz : mVz σ n r k x) : mVz τ n r k x := by
  obtain ⟨z, z1, z2, z3, z4⟩ := hz
  refine ⟨z, z1, z2, (mFr_all h hF z1).2.1.trans z3, ?_⟩
  rw [hF.1 240 (by decide), hF.1 245 (by decide), (hF.2.2 z (by have := h.1; omega)).1]
  exact z4
theorem mFr_Bi {σ τ : kS} {n b R S : Nat} {ds : List Nat} (h : mTb σ n b) (hR : mRo σ n R) (hF : mFr σ τ n) (hS : mRn σ n R S ds) (hB : mBi σ ds) : mBi τ ds := by
  have hn := h.1
  have hR4 := hR.1
  intro k hk
  obtain ⟨m, m1, m2, m3⟩ := hB k hk
  obtain ⟨r, r1, r2, r3, r4, -⟩ := hS.2.2.2 _ (hS.2.2.1 _ (List.getElem_mem hk))
  have hcnt : (ds.take k).count ds[k] < ds.count ds[k] := by
    have := count_take_le ds ds[k] (k + 1)
    rw [List.take_succ_eq_append_getElem hk, List.count_append] at this
    simp at this
    omega
  have hfr : fN (σ 255 ds[k]) = r := by rw [r2]; exact fN_nI (by omega)
  refine ⟨m, m1, by rw [hF.1 275 (by decide)]; exact m2, fun p hp => ?_⟩
  rw [m3 p hp, hF.1 255 (by decide), hfr]
  unfold nbv
  rw [mFr_bdv h hR hF r1 (by omega), mFr_bdv h hR hF r1 (by omega)]
theorem mFr_Ak {σ τ : kS} {n b R S : Nat} (h : mTb σ n b) (hR : mRo σ n R) (hSe : mSe σ n R S) (hF : mFr σ τ n) (hA : mAk σ n R S) : mAk τ n R S := by
  have hn := h.1
  have hR4 := hR.1
  have c := fun c (hc : c ∉ rowC) => hF.1 c hc
  rcases hA with hA | ⟨as, fin, a0, a1, a2, a3, a4⟩
  · exact Or.inl ((hF.2.1 _ (by decide)).trans hA)
  · refine Or.inr ⟨as, fin, a0, (hF.2.1 _ (by decide)).trans a1, by rw [c 288 (by decide)]; exact a2, ?_, ?_⟩
    · rw [c 247 (by decide), c 255 (by decide), c 246 (by decide), c 256 (by decide)]
      intro s hs
      obtain ⟨b1, b2, b3⟩ := a3 s hs
      obtain ⟨r, r1, r2, -⟩ := hSe.2.2 s b1
      have hfr : fN (σ 255 s) = r := by rw [r2]; exact fN_nI (by omega)
      refine ⟨b1, b2, fun k hk hb => ?_⟩
      rw [hfr] at hb b2 b3 ⊢
      rw [mFr_bdv h hR hF r1 b2] at hb
      obtain ⟨c1, c2⟩ := b3 k hk hb
      exact ⟨mFr_Vz h hF c1, c2⟩
    · rw [c 289 (by decide), c 285 (by decide), c 255 (by decide)]
      intro i hi
      obtain ⟨st, s1, s2, s3⟩ := a4 i hi
      obtain ⟨b1, b2, -⟩ := a3 _ (List.getElem_mem hi)
      obtain ⟨r, r1, r2, -⟩ := hSe.2.2 _ b1
      have hfr : fN (σ 255 as[i]) = r := by rw [r2]; exact fN_nI (by omega)
      have hcnt : (as.take i).count as[i] + 1 ≤ as.count as[i] := by
        have := count_take_le as as[i] (i + 1)
        rw [List.take_succ_eq_append_getElem hi, List.count_append] at this
        simp at this
        omega
      refine ⟨st, s1, s2, fun k hk => ?_⟩
      rw [s3 k hk, hfr]
      rw [hfr] at b2
      rw [propext (mFr_bdv h hR hF r1 (by omega))]
theorem mFr_A {σ τ : kS} {n : Nat} (hF : mFr σ τ n) : mA τ = mA σ := funext fun t => propext ⟨fun q => ⟨q.1, (hF.2.2 t q.1).1.symm.trans q.2⟩, fun q => ⟨q.1, (hF.2.2 t q.1).1.trans q.2⟩⟩
theorem fold_congr {α : Type} {f g : α → Nat → α} : ∀ (l : List Nat) (a : α), (∀ t ∈ l, ∀ a, f a t = g a t) → l.foldl f a = l.foldl g a
  | [], _, _ => rfl
  | x :: l, a, h => by
    rw [List.foldl_cons, List.foldl_cons, h x List.mem_cons_self]
    exact fold_congr l _ (fun t ht => h t (List.mem_cons_of_mem _ ht))
theorem mFr_trKn {σ τ : kS} {n b : Nat} {kl : List Nat} (h : mTb σ n b) (hF : mFr σ τ n) (hK : mKn σ n kl) : trKn τ kl = trKn σ kl := by
  unfold trKn
  refine fold_congr kl [] (fun t ht a => ?_)
  rw [(mFr_all h hF (hK.2.2.2 t ht).1).1]
theorem mFr_trSn {σ τ : kS} {n b R S : Nat} {ds : List Nat} (h : mTb σ n b) (hR : mRo σ n R) (hF : mFr σ τ n) (hS : mRn σ n R S ds) (tr : trT) : ∀ k, k ≤ ds.length → trSn τ ds tr k = trSn σ ds tr k
  | 0, _ => rfl
  | k + 1, hk => by
    have hn := h.1
    have hR4 := hR.1
    have ih := mFr_trSn h hR hF hS tr k (by omega)
    have hkl : k < ds.length := hk
    have hgd : ds.getD k 0 = ds[k] := by rw [List.getD_eq_getElem?_getD, List.getElem?_eq_getElem hkl]; rfl
    obtain ⟨r, r1, r2, r3, r4, r5, r6, -⟩ := hS.2.2.2 _ (hS.2.2.1 _ (List.getElem_mem hkl))
    have hcnt : (ds.take k).count ds[k] < ds.count ds[k] := by
      have := count_take_le ds ds[k] (k + 1)
      rw [List.take_succ_eq_append_getElem hkl, List.count_append] at this
      simp at this
      omega
    have hmev : mEv τ ds[k] ((ds.take k).count ds[k]) = mEv σ ds[k] ((ds.take k).count ds[k]) := by
      unfold mEv
      rw [hF.1 255 (by decide)]
    have hmev2 : mEv σ ds[k] ((ds.take k).count ds[k]) = 6 * r + (ds.take k).count ds[k] := by
      unfold mEv
      rw [r2, fN_nI (by omega)]
    obtain ⟨t, t1, t2, -⟩ := hR.2.2.2.2.2 r ((ds.take k).count ds[k]) r1 (by omega)
    have hst := r6 _ hcnt
    rw [trSn, trSn, hgd, ih, hmev, hF.1 249 (by decide), hF.1 248 (by decide), hmev2]
    rw [t2, fN_nI (by omega)] at hst ⊢
    rw [mFr_tin h hF t t1 hst]
theorem mFr_trRun {σ τ : kS} {n b R S : Nat} {kl ds : List Nat} (h : mTb σ n b) (hR : mRo σ n R) (hF : mFr σ τ n) (hK : mKn σ n kl) (hS : mRn σ n R S ds) : trRun τ kl ds = trRun σ kl ds := by
  unfold trRun
  rw [mFr_A hF, hF.1 238 (by decide), mFr_trKn h hF hK, mFr_trSn h hR hF hS _ _ (Nat.le_refl _)]
/-- the making of a row keeps all -/
theorem mI_fr {σ τ : kS} {n b b' R S C : Nat} {kl : List Nat} (h : mI σ n b R S C kl) (hF : mFr σ τ n) (hT : mTb τ n b') (hRi : mRi τ n b' R S kl) : mI τ n b' R S C kl := by
  obtain ⟨h1, h2, h3, h4, h5, h6, h7⟩ := h
  exact ⟨hT, mFr_Ro h1 hF h2, mFr_Se h1 hF h3, mFr_Kn h1 hF h4, mFr_Cl hF h5, hRi, mFr_Ak h1 h2 h3 hF h7⟩
/-- the row is there, behind runRow -/
theorem mr_row (L : Nat) (xs : Nat → Int32) (d : Nat) (σ : kS) (n b R S C : Nat) (kl ds : List Nat) (h : mI σ n b R S C kl) (hr : σ 232 52 = 1) (hS : mRn σ n R S ds) (hB : mBi σ ds) (ht : mRt σ n b kl ds) : kXM kT L xs (d + 7) 190 [.ref 232] σ (fun r σ' => r = none ∧ mFr σ σ' n ∧ σ' 232 47 = 1 ∧ ∃ b' l, b' ≤ 776 ∧ mTb σ' n b' ∧ mRq σ' (mvG σ' n b') l ∧ mJd σ' n b' l ∧ rwM σ' l = trRun σ kl ds) := by
  obtain ⟨h1, h2, h3, h4, h5, h6, h7⟩ := h
  rcases ht with ht | ⟨ht, hb, l, l1, l2, l3⟩
  · refine kX_post (mr_runRow L xs d σ n b R S kl ds h1 h4 h2 h3.1 hS ht) ?_
    rintro r σ' ⟨rfl, g1, b', l, g2, g3⟩
    exact ⟨rfl, g3.1, g1, b', l, g2, g3.2.1, g3.2.2.1, g3.2.2.2.1, g3.2.2.2.2⟩
  · unfold kXM
    iterate 2 (refine kX_one rfl ?_)
    refine kX_top (ht) ?_
    iterate 1 (refine kX_one rfl ?_)
    refine kX_ret (i := .return_) (len := 1) rfl (Or.inr rfl) rfl (⟨rfl, mFr_refl σ n, ht, b, l, hb, h1, l1, l2, l3⟩)
end
section
/-! the reference: one EVENT more; calls of the RUN -/
/-- contents when the session s has done one EVENT more, with values V -/
def stS (σ : kS) (V : Nat → Int32) (s k dn : Nat) (bd : Int32) : kS := va_up (va_up (va_up (va_up (va_up σ 265 V) 274 (upd (σ 274) k (nI s))) 275 (upd (σ 275) k bd)) 232 (upd (σ 232) 55 (nI (k + 1)))) 264 (upd (σ 264) s (nI (dn + 1)))
theorem mRn_push {σ : kS} {V : Nat → Int32} {n b R S s r m : Nat} {ds : List Nat} {bd : Int32} (h : mTb σ n b) (hR : mRo σ n R) (hS4 : S ≤ 4) (hS : mRn σ n R S ds) (hB : mBi σ ds) (hs : s < S) (r1 : r < R) (r2 : σ 255 s = nI r) (hdn : ds.count s < fN (σ 247 r)) (hVo : ∀ j, (∀ k, k < 6 → j ≠ 6 * s + k) → V j = σ 265 j)
    (hv : ∀ k, k < 6 → (bdv σ r (ds.count s + 1) k → mVz σ n r k (V (6 * s + k))) ∧ (¬ bdv σ r (ds.count s + 1) k → V (6 * s + k) = -6)) (hm : m < 64) (hbd : bd = nI m) (hmb : ∀ p, p < 6 → (m / 2 ^ p % 2 = 1 ↔ nbv σ r (ds.count s) p)) :
    mRn (stS σ V s ds.length (ds.count s) bd) n R S (ds ++ [s]) ∧ mBi (stS σ V s ds.length (ds.count s) bd) (ds ++ [s]) := by
  have hR4 := hR.1
  have hfr : fN (σ 255 s) = r := by rw [r2]; exact fN_nI (by omega)
  obtain ⟨a1, a2, a3, a4⟩ := hS
  constructor
  · refine ⟨?_, lst_push a2 s, fun s' hs' => ?_, fun s' hs' => ?_⟩
    · show nI (ds.length + 1) = _
      rw [List.length_append]
      rfl
    · rcases List.mem_append.mp hs' with q | q
      · exact a3 s' q
      · rw [List.mem_singleton] at q
        omega
    · by_cases e : s' = s
      · subst e
        have ec : (ds ++ [s']).count s' = ds.count s' + 1 := by rw [List.count_append]; simp
        rw [ec]
        exact mSn_of (σ := stS σ V s' ds.length (ds.count s') bd) (b := b) h hR r1 r2 pk_us (by exact hdn) hv
      · have ec : (ds ++ [s]).count s' = ds.count s' := by rw [List.count_append]; simp [Ne.symm e]
        rw [ec]
        obtain ⟨r', r1', r2', -⟩ := a4 s' hs'
        obtain ⟨b1, b2, b3⟩ := mSn_iff h hR (a4 s' hs') r2' r1'
        refine mSn_of (σ := stS σ V s ds.length (ds.count s) bd) (b := b) h hR r1' r2' ?_ b2 (fun k hk => ?_)
        · show upd (σ 264) s (nI (ds.count s + 1)) s' = _
          rw [pk_un e]
          exact b1
        · have ev : V (6 * s' + k) = σ 265 (6 * s' + k) := hVo _ (fun k' hk' => by omega)
          show (bdv σ r' (ds.count s') k → mVz σ n r' k (V (6 * s' + k))) ∧ (¬ bdv σ r' (ds.count s') k → V (6 * s' + k) = -6)
          rw [ev]
          exact b3 k hk
  · intro k hk
    rw [List.length_append] at hk
    simp only [List.length_cons, List.length_nil] at hk
    by_cases e : k = ds.length
    · subst e
      have e1 : (ds ++ [s])[ds.length]'(by simp) = s := by simp
      refine ⟨m, hm, ?_, fun p hp => ?_⟩
      · show upd (σ 275) ds.length bd ds.length = _
        rw [pk_us]
        exact hbd
      · rw [e1, hmb p hp]
        have e2 : (ds ++ [s]).take ds.length = ds := by simp
        rw [e2]
        show _ ↔ nbv σ (fN (σ 255 s)) (ds.count s) p
        rw [hfr]
    · have hk' : k < ds.length := by omega
      obtain ⟨m', m1, m2, m3⟩ := hB k hk'
      have e1 : (ds ++ [s])[k]'(by simp; omega) = ds[k] := List.getElem_append_left hk'
      refine ⟨m', m1, ?_, fun p hp => ?_⟩
      · show upd (σ 275) ds.length bd k = _
        rw [pk_un e]
        exact m2
      · rw [e1, m3 p hp, List.take_append_of_le_length (by omega)]
        exact Iff.rfl
set_option maxRecDepth 100000 in
set_option maxHeartbeats 4000000 in
theorem mr_isSession (L : Nat) (xs : Nat → Int32) (d : Nat) (σ : kS) (n : Nat) (x : Int32) (h : σ 232 27 = nI n) (hn : n < 1000000) : kXM kT L xs (d + 1) 168 [.ref 232, .int x] σ (fun r σ' => r = some (.int (isB (isN x n))) ∧ σ = σ') := by
  unfold kXM
  repeat refine kX_one rfl ?_
  refine kX_cal (mr_in L xs d σ _ _ _) rfl (Or.inr rfl) rfl rfl rfl (fun r1 σ1 q1 => ?_)
  obtain ⟨rfl, rfl⟩ := q1
  refine kX_ret (i := .ireturn) (len := 1) rfl (Or.inr rfl) (jend_b rfl (bI_01 _)) ⟨?_, rfl⟩
  rw [isB_dec, ← in_N hn, ← h]
  rfl
set_option maxRecDepth 100000 in
set_option maxHeartbeats 4000000 in
theorem mr_isRole (L : Nat) (xs : Nat → Int32) (d : Nat) (σ : kS) (n : Nat) (x : Int32) (h : σ 232 13 = nI n) (hn : n < 1000000) : kXM kT L xs (d + 1) 161 [.ref 232, .int x] σ (fun r σ' => r = some (.int (isB (isN x n))) ∧ σ = σ') := by
  unfold kXM
  repeat refine kX_one rfl ?_
  refine kX_cal (mr_in L xs d σ _ _ _) rfl (Or.inr rfl) rfl rfl rfl (fun r1 σ1 q1 => ?_)
  obtain ⟨rfl, rfl⟩ := q1
  refine kX_ret (i := .ireturn) (len := 1) rfl (Or.inr rfl) (jend_b rfl (bI_01 _)) ⟨?_, rfl⟩
  rw [isB_dec, ← in_N hn, ← h]
  rfl
end
section
/-! the reference: makes, broken, done, stands -/
theorem mI_there {σ τ : kS} {n b b' R S C : Nat} {kl ds : List Nat} {l : rwT} (h : mI σ n b R S C kl) (hr : σ 232 52 = 1) (hS : mRn σ n R S ds) (hB : mBi σ ds) (hF : mFr σ τ n) (f2 : τ 232 47 = 1) (f3 : b' ≤ 776) (f4 : mTb τ n b') (f5 : mRq τ (mvG τ n b') l) (f6 : mJd τ n b' l) (f7 : rwM τ l = trRun σ kl ds) : mI τ n b' R S C kl ∧ mRn τ n R S ds ∧ mBi τ ds ∧ mRt τ n b' kl ds ∧ τ 232 52 = 1 := by
  have e1 := (hF.2.1 52 (by decide)).trans hr
  have e2 := mFr_Rn h.1 h.2.1 hF hS
  have e3 := mFr_Bi h.1 h.2.1 hF hS hB
  have e4 : mRt τ n b' kl ds := Or.inr ⟨f2, f3, l, f5, f6, by rw [f7, mFr_trRun h.1 h.2.1 hF h.2.2.2.1 hS]⟩
  exact ⟨mI_fr h hF f4 (Or.inr ⟨e1, ds, e2, e3, e4⟩), e2, e3, e4, e1⟩
theorem mRn_Sv {σ : kS} {n R S : Nat} {ds : List Nat} (hR : mRo σ n R) (hSe : σ 232 27 = nI S) (h : mRn σ n R S ds) : mSv σ n R S := by
  refine ⟨hSe, fun s hs => ?_⟩
  obtain ⟨r, h1, h2, h3, h4, h5⟩ := h.2.2.2 s hs
  have he : fN (σ 247 r) ≤ 6 := by
    obtain ⟨-, e, e1, e2⟩ := hR.2.2.1 r h1
    rw [e2, fN_nI (by omega)]
    exact e1
  have : fN (σ 264 s) = ds.count s := by rw [h3]; exact fN_nI (by omega)
  rw [this]
  exact ⟨r, h1, h2, h3, h4, h5⟩
end
section
/-! the reference: receive -/
theorem tin_val {σ : kS} {V : Nat → Int32} {n b s s0 k0 dn : Nat} {bd : Int32} (h : mTb σ n b) : ∀ t, t < n → (∀ u ∈ tvs (σ 233) (σ 234) (σ 235) t, V (6 * s + fN (σ 241 u)) = σ 265 (6 * s + fN (σ 241 u))) → tin (stS σ V s0 k0 dn bd) s t = tin σ s t := by
  have hV := mTb_num h
  intro t
  induction t using Nat.strongRecOn with
  | _ t ih =>
    intro ht hv
    rcases (hV t ht).2 with ⟨k, h3, hk, -, -⟩ | ⟨k, x, y, h3, hk, hx, hy, h4, h5, h6, h7⟩ | ⟨k, x, h3, hk, hx, hy, h4, h6⟩
    · have e1 : tin (stS σ V s0 k0 dn bd) s t = if σ 233 t = nI 3 then tvl (σ 233) (σ 234) (σ 235) (fN (V (6 * s + fN (σ 241 t)))) else .arg t := tA_0 (K := σ 233) hk h3
      have e2 : tin σ s t = if σ 233 t = nI 3 then tvl (σ 233) (σ 234) (σ 235) (fN (σ 265 (6 * s + fN (σ 241 t)))) else .arg t := tA_0 (K := σ 233) hk h3
      rw [e1, e2]
      by_cases hk3 : σ 233 t = nI 3
      · have hu : t ∈ tvs (σ 233) (σ 234) (σ 235) t := by
          unfold tvs
          rw [tA_0 hk h3, if_pos hk3]
          exact List.mem_singleton.mpr rfl
        rw [hv t hu]
      · rw [if_neg hk3, if_neg hk3]
    · have evs : tvs (σ 233) (σ 234) (σ 235) t = tvs (σ 233) (σ 234) (σ 235) x ++ tvs (σ 233) (σ 234) (σ 235) y := tA_2 hV hk hx hy (by omega) (by omega) h4 h5 h6 h7
      have e1 : tin (stS σ V s0 k0 dn bd) s t = vnd k (tin (stS σ V s0 k0 dn bd) s x) (some (tin (stS σ V s0 k0 dn bd) s y)) := tA_2 (K := σ 233) (F := σ 234) (S := σ 235) hV hk hx hy (by omega) (by omega) h4 h5 h6 h7
      have e2 : tin σ s t = vnd k (tin σ s x) (some (tin σ s y)) := tA_2 (K := σ 233) (F := σ 234) (S := σ 235) hV hk hx hy (by omega) (by omega) h4 h5 h6 h7
      rw [e1, e2, ih x h4 h6 (fun u hu => hv u (by rw [evs]; exact List.mem_append_left _ hu)), ih y h5 h7 (fun u hu => hv u (by rw [evs]; exact List.mem_append_right _ hu))]
    · have evs : tvs (σ 233) (σ 234) (σ 235) t = tvs (σ 233) (σ 234) (σ 235) x ++ [] := tA_1 hV hk hx hy (by omega) (by omega) h4 h6
      have e1 : tin (stS σ V s0 k0 dn bd) s t = vnd k (tin (stS σ V s0 k0 dn bd) s x) none := tA_1 (K := σ 233) (F := σ 234) (S := σ 235) hV hk hx hy (by omega) (by omega) h4 h6
      have e2 : tin σ s t = vnd k (tin σ s x) none := tA_1 (K := σ 233) (F := σ 234) (S := σ 235) hV hk hx hy (by omega) (by omega) h4 h6
      rw [e1, e2, ih x h4 h6 (fun u hu => hv u (by rw [evs]; exact List.mem_append_left _ hu))]
/-- an EVENT that receives leaves the row as it is -/
theorem trRun_recv {σ : kS} {V : Nat → Int32} {n b R S s r : Nat} {kl ds : List Nat} {bd : Int32} (h : mTb σ n b) (hR : mRo σ n R) (hS : mRn σ n R S ds) (hs : s < S) (r1 : r < R) (r2 : σ 255 s = nI r) (hq : σ 249 (6 * r + ds.count s) = 0) (hVo : ∀ j, (∀ k, k < 6 → j ≠ 6 * s + k) → V j = σ 265 j) (hVk : ∀ k, k < 6 → ¬ σ 265 (6 * s + k) < 0 → V (6 * s + k) = σ 265 (6 * s + k)) :
    trRun (stS σ V s ds.length (ds.count s) bd) kl (ds ++ [s]) = trRun σ kl ds := by
  have hn := h.1
  have hR4 := hR.1
  have key : ∀ k, k ≤ ds.length → trSn (stS σ V s ds.length (ds.count s) bd) (ds ++ [s]) (trKn σ kl) k = trSn σ ds (trKn σ kl) k := by
    intro k
    induction k with
    | zero => intro _; rfl
    | succ k ih =>
      intro hk
      have hkl : k < ds.length := hk
      have hg1 : (ds ++ [s]).getD k 0 = ds[k] := by rw [List.getD_eq_getElem?_getD, List.getElem?_append_left hkl, List.getElem?_eq_getElem hkl]; rfl
      have hg2 : ds.getD k 0 = ds[k] := by rw [List.getD_eq_getElem?_getD, List.getElem?_eq_getElem hkl]; rfl
      obtain ⟨r', q1, q2, q3, q4, q5, q6, -⟩ := hS.2.2.2 _ (hS.2.2.1 _ (List.getElem_mem hkl))
      have hcnt : (ds.take k).count ds[k] < ds.count ds[k] := by
        have := count_take_le ds ds[k] (k + 1)
        rw [List.take_succ_eq_append_getElem hkl, List.count_append] at this
        simp at this
        omega
      obtain ⟨t, t1, t2, -⟩ := hR.2.2.2.2.2 r' ((ds.take k).count ds[k]) q1 (by omega)
      have hst := q6 _ hcnt
      have hmev : mEv σ ds[k] ((ds.take k).count ds[k]) = 6 * r' + (ds.take k).count ds[k] := by
        unfold mEv
        rw [q2, fN_nI (by omega)]
      have hmev' : mEv (stS σ V s ds.length (ds.count s) bd) ds[k] ((ds.take k).count ds[k]) = 6 * r' + (ds.take k).count ds[k] := hmev
      rw [trSn, trSn, hg1, hg2, ih (by omega), List.take_append_of_le_length (by omega), hmev, hmev']
      show cit (σ 249 (6 * r' + (ds.take k).count ds[k]) ≠ 0) (trA _ (tin (stS σ V s ds.length (ds.count s) bd) ds[k] (fN (σ 248 (6 * r' + (ds.take k).count ds[k])))) _ _) _ = _
      rw [t2, fN_nI (by omega)] at hst ⊢
      rw [tin_val h t t1 (fun u hu => ?_)]
      obtain ⟨p, z, p1, p2, p3, p4, -⟩ := hst u hu
      rw [p3, fN_nI (by omega)]
      by_cases e : ds[k] = s
      · rw [e] at p4 ⊢
        exact hVk p p1 (by rw [p4]; exact nI_pos (by omega))
      · exact hVo _ (fun k' hk' => by omega)
  unfold trRun
  have e1 : trSn (stS σ V s ds.length (ds.count s) bd) (ds ++ [s]) (trKn σ kl) (ds ++ [s]).length = trSn σ ds (trKn σ kl) ds.length := by
    rw [List.length_append]
    show trSn (stS σ V s ds.length (ds.count s) bd) (ds ++ [s]) (trKn σ kl) (ds.length + 1) = _
    rw [trSn, key ds.length (Nat.le_refl _)]
    have hg : (ds ++ [s]).getD ds.length 0 = s := by rw [List.getD_eq_getElem?_getD]; simp
    have ht : (ds ++ [s]).take ds.length = ds := by simp
    rw [hg, ht]
    refine cit_F (fun z => z ?_)
    show σ 249 (mEv σ s (ds.count s)) = 0
    unfold mEv
    rw [r2, fN_nI (by omega)]
    exact hq
  exact congrArg (trE (mA σ) (σ 238) 1001) e1
theorem mtF_ok {σ : kS} {n b R r : Nat} (h : mTb σ n b) (hR : mRo σ n R) (hr : r < R) : ∀ (f p t : Nat) (a a' : Nat → Int32), p < n → t < n → tgd (σ 233) (σ 234) (σ 235) t = true → (∀ u ∈ tvs (σ 233) (σ 234) (σ 235) p, σ 239 u = nI r) → (∀ k, k < 6 → ¬ a k < 0 → mVz σ n r k (a k)) → mtF σ f p t a = some a' →
    (∀ k, ¬ a k < 0 → a' k = a k) ∧ (∀ k, k < 6 → ¬ a' k < 0 → mVz σ n r k (a' k)) ∧ (∀ u ∈ tvs (σ 233) (σ 234) (σ 235) p, ∀ k, σ 241 u = nI k → k < 6 → ¬ a' k < 0) ∧ ∀ k, k < 6 → (∀ u ∈ tvs (σ 233) (σ 234) (σ 235) p, σ 241 u ≠ nI k) → a' k = a k := by
  have hn := h.1
  have hV := mTb_num h
  intro f
  induction f with
  | zero => intro p t a a' _ _ _ _ _ hm; cases hm
  | succ f ih =>
    intro p t a a' hp ht hg hof ha hm
    rw [mtF] at hm
    by_cases q2 : tgd (σ 233) (σ 234) (σ 235) p = true
    · rw [if_pos q2] at hm
      split at hm
      · cases hm
        have e := (tgd_tvs hV p hp).mp q2
        refine ⟨fun _ _ => rfl, ha, fun u hu => ?_, fun _ _ _ => rfl⟩
        rw [e] at hu
        cases hu
      · cases hm
    · rw [if_neg q2] at hm
      by_cases q3 : σ 233 p = nI 3
      · rw [if_pos q3] at hm
        have hvs : tvs (σ 233) (σ 234) (σ 235) p = [p] := by
          unfold tvs
          rw [tA_0 q3 (by decide), if_pos q3]
        obtain ⟨k, so, u1, k6, kv, vv, kk, -, so3, hso⟩ := mRo_var h hR hr hp hof (by rw [hvs]; exact List.mem_singleton.mpr rfl : p ∈ _)
        rw [kk, fN_nI (by omega)] at hm
        split at hm
        · next q4 =>
          split at hm
          · cases hm
            refine ⟨fun _ _ => rfl, ha, fun u hu k' hk' hk6 => ?_, fun _ _ _ => rfl⟩
            rw [hvs, List.mem_singleton] at hu
            subst hu
            obtain rfl : k = k' := nI_inj (kk.symm.trans hk')
            exact q4
          · cases hm
        · next q4 =>
          have q4 : a k < 0 := Classical.not_not.mp q4
          split at hm
          · cases hm
          · next q5 =>
            cases hm
            refine ⟨fun k' hk' => ?_, fun k' hk' hne => ?_, fun u hu k' hk' hk6 => ?_, fun k' hk' hno => ?_⟩
            · refine pk_un (fun e => ?_)
              rw [e] at hk'
              exact hk' q4
            · by_cases e : k' = k
              · subst e
                rw [pk_us]
                refine ⟨t, ht, rfl, hg, ?_⟩
                rw [vv, fN_nI (by omega)]
                by_cases e3 : σ 240 p = nI 3
                · exact Or.inl e3
                · exact Or.inr (Classical.byContradiction (fun hh => q5 ⟨e3, fun e => hh e.symm⟩))
              · rw [pk_un e] at hne ⊢
                exact ha k' hk' hne
            · rw [hvs, List.mem_singleton] at hu
              subst hu
              obtain rfl : k = k' := nI_inj (kk.symm.trans hk')
              rw [pk_us]
              exact nI_pos (by omega)
            · refine pk_un (fun e => hno p (by rw [hvs]; exact List.mem_singleton.mpr rfl) ?_)
              rw [e]
              exact kk
      · rw [if_neg q3] at hm
        split at hm
        · cases hm
        · next q4 =>
          have q4 : σ 233 p = σ 233 t := Classical.not_not.mp q4
          rcases (hV p hp).2 with ⟨k, h3, hk, -, -⟩ | ⟨k, x, y, h3, hk, hx, hy, h4, h5, h6, h7⟩ | ⟨k, x, h3, hk, hx, hy, h4, h6⟩
          · exfalso
            rw [tgd_0 hk h3] at q2
            exact q3 (by rw [hk, Decidable.of_not_not (fun e => q2 (decide_eq_true e))])
          · obtain ⟨zx, zy, hzx, hzy, hz6, hz7, hgz⟩ : ∃ zx zy, σ 234 t = nI zx ∧ σ 235 t = nI zy ∧ zx < n ∧ zy < n ∧ (tgd (σ 233) (σ 234) (σ 235) zx = true ∧ tgd (σ 233) (σ 234) (σ 235) zy = true) := by
              rcases (hV t ht).2 with ⟨k', h3', hk', -, -⟩ | ⟨k', x', y', h3', hk', hx', hy', h4', h5', h6', h7'⟩ | ⟨k', x', h3', hk', hx', hy', h4', h6'⟩
              · have := nI_inj (hk.symm.trans (q4.trans hk'))
                omega
              · refine ⟨x', y', hx', hy', h6', h7', ?_⟩
                rw [tgd_2 hV hk' hx' hy' (by omega) (by omega) h4' h5' h6' h7', Bool.and_eq_true] at hg
                exact hg
              · have := nI_inj (hk.symm.trans (q4.trans hk'))
                omega
            have evs : tvs (σ 233) (σ 234) (σ 235) p = tvs (σ 233) (σ 234) (σ 235) x ++ tvs (σ 233) (σ 234) (σ 235) y := tA_2 hV hk hx hy (by omega) (by omega) h4 h5 h6 h7
            have hy1 : nI y ≠ -1 := nI_m1 (by omega)
            simp only [hx, hy, hzx, hzy, if_neg hy1, fN_nI (show x < 2147483648 by omega), fN_nI (show y < 2147483648 by omega), fN_nI (show zx < 2147483648 by omega), fN_nI (show zy < 2147483648 by omega)] at hm
            obtain ⟨a1, m1, m2⟩ := Option.bind_eq_some_iff.mp hm
            obtain ⟨x1, x2, x3, x4⟩ := ih x zx a a1 h6 hz6 hgz.1 (fun u hu => hof u (by rw [evs]; exact List.mem_append_left _ hu)) ha m1
            obtain ⟨y1, y2, y3, y4⟩ := ih y zy a1 a' h7 hz7 hgz.2 (fun u hu => hof u (by rw [evs]; exact List.mem_append_right _ hu)) x2 m2
            rw [evs]
            refine ⟨fun k hk => ?_, y2, fun u hu k hk hk6 => ?_, fun k hk hno => ?_⟩
            · have e1 := x1 k hk
              rw [y1 k (by rw [e1]; exact hk), e1]
            · rcases List.mem_append.mp hu with hu | hu
              · have := x3 u hu k hk hk6
                rw [y1 k this]
                exact this
              · exact y3 u hu k hk hk6
            · rw [y4 k hk (fun u hu => hno u (List.mem_append_right _ hu)), x4 k hk (fun u hu => hno u (List.mem_append_left _ hu))]
          · obtain ⟨zx, hzx, hz6, hgz⟩ : ∃ zx, σ 234 t = nI zx ∧ zx < n ∧ tgd (σ 233) (σ 234) (σ 235) zx = true := by
              rcases (hV t ht).2 with ⟨k', h3', hk', -, -⟩ | ⟨k', x', y', h3', hk', hx', hy', h4', h5', h6', h7'⟩ | ⟨k', x', h3', hk', hx', hy', h4', h6'⟩
              · have := nI_inj (hk.symm.trans (q4.trans hk'))
                omega
              · have := nI_inj (hk.symm.trans (q4.trans hk'))
                omega
              · refine ⟨x', hx', h6', ?_⟩
                rw [tgd_1 hV hk' hx' hy' (by omega) (by omega) h4' h6'] at hg
                exact hg
            have evs : tvs (σ 233) (σ 234) (σ 235) p = tvs (σ 233) (σ 234) (σ 235) x ++ [] := tA_1 hV hk hx hy (by omega) (by omega) h4 h6
            rw [List.append_nil] at evs
            simp only [hx, hy, hzx, fN_nI (show x < 2147483648 by omega), fN_nI (show zx < 2147483648 by omega), if_true] at hm
            obtain ⟨a1, m1, m2⟩ := Option.bind_eq_some_iff.mp hm
            cases m2
            rw [evs]
            exact ih x zx a a' h6 hz6 hgz (fun u hu => hof u (by rw [evs]; exact hu)) ha m1
end
section
/-! the reference: receive, walked -/
theorem mFr_bdS (σ : kS) (n : Nat) (W X A : Nat → Int32) : mFr σ (bdS σ W X A) n := by
  refine ⟨fun c hc => ?_, fun j hj => rfl, fun u hu => ⟨rfl, rfl, rfl⟩⟩
  simp only [rowC, List.mem_cons, List.not_mem_nil, or_false, not_or] at hc
  simp [bdS, va_up, hc]
end
section
/-! the reference: undo, forget -/
theorem bm_bit : ∀ m, m < 64 → ∀ o, o < 6 → (nI m >>> (nI o &&& 31)) &&& Int32.ofInt 1 = nI (m / 2 ^ o % 2) := by decide +kernel
/-- what forget leaves in the object -/
def fgO (o : Nat → Int32) : Nat → Int32 := upd (upd (upd (upd (upd o 69 0) 70 0) 71 0) 72 (-6)) 47 0
set_option maxRecDepth 100000 in
set_option maxHeartbeats 4000000 in
theorem mr_forget (L : Nat) (xs : Nat → Int32) (d : Nat) (σ : kS) : kXM kT L xs (d + 1) 209 [.ref 232] σ (fun r σ' => r = none ∧ σ' = va_up σ 232 (fgO (σ 232))) := by
  unfold kXM
  repeat refine kX_one rfl ?_
  refine kX_st (va_up σ 232 (fgO (σ 232))) ?_ ?_
  · funext c; unfold fgO; first
      | ((repeat (refine va_case ?_ ?_; (· (intro h; first | (subst h; rfl) | (unfold va_up; repeat' split; (all_goals first | rfl | omega | (subst_vars; rfl) | (funext j; unfold upd; repeat' split; all_goals first | rfl | omega | (subst_vars; rfl)))))); intro h)); (repeat (refine va_case2 ?_ ?_; (· (intro h; first | exact absurd h (by assumption) | (subst h; rfl) | (subst h; funext j; unfold upd; repeat' split; (all_goals first | rfl | omega | (subst_vars; rfl))))); intro h)); rfl)
      | (unfold va_up; repeat' split
         all_goals first | rfl | omega | (subst_vars; rfl) | (funext j; unfold upd; repeat' split; all_goals first | rfl | omega | (subst_vars; rfl)))
  · refine kX_ret (i := .return_) (len := 1) rfl (Or.inr rfl) rfl (⟨rfl, rfl⟩)
end
section
/-! the reference: one TERM more, the rest as it was -/
def rowT : List Nat := 9 :: rowJ
/-- nothing has changed but TERMS from n on, the row and what it is made of -/
def mGr (σ τ : kS) (n : Nat) : Prop := (∀ c, c ∉ rowC → τ c = σ c) ∧ (∀ j, j ∉ rowT → τ 232 j = σ 232 j) ∧ ∀ u, u < n → τ 233 u = σ 233 u ∧ τ 234 u = σ 234 u ∧ τ 235 u = σ 235 u
theorem mGr_all {σ τ : kS} {n b t : Nat} (h : mTb σ n b) (hF : mGr σ τ n) (ht : t < n) : tvl (τ 233) (τ 234) (τ 235) t = tvl (σ 233) (σ 234) (σ 235) t ∧ tgd (τ 233) (τ 234) (τ 235) t = tgd (σ 233) (σ 234) (σ 235) t ∧ tvs (τ 233) (τ 234) (τ 235) t = tvs (σ 233) (σ 234) (σ 235) t := by
  have h200 := h.1
  have hF2 : ∀ u, u < n → τ 233 u = σ 233 u ∧ τ 234 u = σ 234 u ∧ τ 235 u = σ 235 u := fun u hu => hF.2.2 u (by omega)
  refine ⟨tA_congr (mTb_num h) (fun u hu => ⟨(hF2 u hu).1, (hF2 u hu).2.1, (hF2 u hu).2.2, rfl⟩) t ht, tA_congr (mTb_num h) (fun u hu => ⟨(hF2 u hu).1, (hF2 u hu).2.1, (hF2 u hu).2.2, by rw [(hF2 u hu).1]⟩) t ht, tA_congr (mTb_num h) (fun u hu => ⟨(hF2 u hu).1, (hF2 u hu).2.1, (hF2 u hu).2.2, by rw [(hF2 u hu).1]⟩) t ht⟩
theorem mGr_St {σ τ : kS} {n b s t : Nat} (h : mTb σ n b) (hF : mGr σ τ n) (ht : t < n) (hs : mSt σ n s t) : mSt τ n s t := by
  intro u hu
  rw [(mGr_all h hF ht).2.2] at hu
  obtain ⟨p, z, h1, h2, h3, h4, h5, h6⟩ := hs u hu
  refine ⟨p, z, h1, h2, ?_, ?_, (mGr_all h hF h2).2.1.trans h5, ?_⟩
  · rw [hF.1 241 (by decide)]
    exact h3
  · rw [hF.1 265 (by decide)]
    exact h4
  · rw [hF.1 240 (by decide), (hF.2.2 z (by have := h.1; omega)).1]
    exact h6
theorem mGr_Ro {σ τ : kS} {n b R : Nat} (h : mTb σ n b) (hF : mGr σ τ n) (hR : mRo σ n R) : mRo τ n R := by
  obtain ⟨h1, h2, h3, h4, h5, h6⟩ := hR
  have c := fun c (hc : c ∉ rowC) => hF.1 c hc
  refine ⟨h1, (hF.2.1 _ (by decide)).trans h2, ?_, ?_, ?_, ?_⟩
  · rw [c 244 (by decide), c 247 (by decide)]
    exact h3
  · rw [c 244 (by decide), c 245 (by decide), c 239 (by decide), c 241 (by decide), c 240 (by decide), c 246 (by decide)]
    intro r k hr hk
    obtain ⟨t, so, as, a1, a2, a3, a4⟩ := h4 r k hr hk
    exact ⟨t, so, as, a1, a2, ((hF.2.2 t (by have := h.1; omega)).1).trans a3, a4⟩
  · rw [c 244 (by decide), c 245 (by decide)]
    intro t ht hk
    exact h5 t ht ((hF.2.2 t (by have := h.1; omega)).1.symm.trans hk)
  · rw [c 247 (by decide), c 248 (by decide), c 239 (by decide), c 249 (by decide), c 246 (by decide), c 241 (by decide)]
    intro r e hr he
    obtain ⟨t, a1, a2, a3, a4⟩ := h6 r e hr he
    refine ⟨t, a1, a2, ?_, ?_⟩
    · rw [(mGr_all h hF a1).2.2]
      exact a3
    · rw [(mGr_all h hF a1).2.2]
      intro hs u hu ha
      obtain ⟨e', b1, b2, b3⟩ := a4 hs u hu ha
      refine ⟨e', b1, b2, ?_⟩
      obtain ⟨t', d1, d2, -⟩ := h6 r e' hr (by omega)
      rw [d2, fN_nI (by have := h.1; omega)] at b3 ⊢
      rw [(mGr_all h hF d1).2.2]
      exact b3
theorem mGr_Sn {σ τ : kS} {n b R s dn : Nat} (h : mTb σ n b) (hR : mRo σ n R) (hF : mGr σ τ n) (hS : mSn σ n R s dn) : mSn τ n R s dn := by
  obtain ⟨r, h1, h2, h3, h4, h5, h6, h7⟩ := hS
  have c := fun c (hc : c ∉ rowC) => hF.1 c hc
  refine ⟨r, h1, ?_, ?_, ?_, fun k hk => ?_, fun e he => ?_, ?_⟩
  · rw [c 255 (by decide)]; exact h2
  · rw [c 264 (by decide)]; exact h3
  · rw [c 247 (by decide)]; exact h4
  · have := h5 k hk
    unfold mVk at this ⊢
    rw [c 265 (by decide), c 244 (by decide), c 246 (by decide), c 240 (by decide), c 245 (by decide)]
    rcases this with q | ⟨z, q1, q2, q3, q4, q5⟩
    · exact Or.inl q
    · refine Or.inr ⟨z, q1, q2, (mGr_all h hF q1).2.1.trans q3, q4, ?_⟩
      rw [(hF.2.2 z (by have := h.1; omega)).1]
      exact q5
  · rw [c 248 (by decide)]
    obtain ⟨t, d1, d2, -⟩ := hR.2.2.2.2.2 r e h1 (by omega)
    have := h6 e he
    rw [d2, fN_nI (by have := h.1; omega)] at this ⊢
    exact mGr_St h hF d1 this
  · rw [c 244 (by decide), c 246 (by decide), c 265 (by decide), c 249 (by decide), c 245 (by decide), c 248 (by decide)]
    intro k hk ha hv
    obtain ⟨e, e1, e2, e3⟩ := h7 k hk ha hv
    obtain ⟨t, d1, d2, -⟩ := hR.2.2.2.2.2 r e h1 (by omega)
    refine ⟨e, e1, e2, ?_⟩
    rw [d2, fN_nI (by have := h.1; omega)] at e3 ⊢
    rw [(mGr_all h hF d1).2.2]
    exact e3
theorem mGr_Rn {σ τ : kS} {n b R S : Nat} {ds : List Nat} (h : mTb σ n b) (hR : mRo σ n R) (hF : mGr σ τ n) (hS : mRn σ n R S ds) : mRn τ n R S ds := by
  obtain ⟨h1, h2, h3, h4⟩ := hS
  refine ⟨(hF.2.1 _ (by decide)).trans h1, ?_, h3, fun s hs => mGr_Sn h hR hF (h4 s hs)⟩
  rw [hF.1 274 (by decide)]
  exact h2
theorem mGr_Se {σ τ : kS} {n b R S : Nat} (h : mTb σ n b) (hF : mGr σ τ n) (hS : mSe σ n R S) : mSe τ n R S := by
  obtain ⟨h1, h2, h3⟩ := hS
  have c := fun c (hc : c ∉ rowC) => hF.1 c hc
  refine ⟨h1, (hF.2.1 _ (by decide)).trans h2, ?_⟩
  rw [c 255 (by decide), c 250 (by decide), c 244 (by decide), c 246 (by decide), c 256 (by decide), c 240 (by decide), c 245 (by decide)]
  intro s hs
  obtain ⟨r, a1, a2, a3, a4⟩ := h3 s hs
  refine ⟨r, a1, a2, a3, fun k hk => ?_⟩
  obtain ⟨as, b1, b2⟩ := a4 k hk
  refine ⟨as, b1, ?_⟩
  rcases b2 with b2 | ⟨b2, z, b3, b4, b5⟩
  · exact Or.inl b2
  · exact Or.inr ⟨b2, z, b3, b4, (hF.2.2 z (by have := h.1; omega)).1.trans b5⟩
theorem mGr_Kn {σ τ : kS} {n b : Nat} {kl : List Nat} (h : mTb σ n b) (hF : mGr σ τ n) (hK : mKn σ n kl) : mKn τ n kl := by
  obtain ⟨h1, h2, h3, h4⟩ := hK
  refine ⟨(hF.2.1 _ (by decide)).trans h1, h2, ?_, fun t ht => ⟨(h4 t ht).1, (mGr_all h hF (h4 t ht).1).2.1.trans (h4 t ht).2⟩⟩
  rw [hF.1 254 (by decide)]
  exact h3
theorem mGr_Cl {σ τ : kS} {n R C : Nat} (hF : mGr σ τ n) (hC : mCl σ R C) : mCl τ R C := by
  unfold mCl
  rw [hF.1 258 (by decide), hF.1 259 (by decide), hF.1 257 (by decide), hF.1 244 (by decide), hF.1 260 (by decide), hF.1 261 (by decide), hF.1 262 (by decide), hF.1 263 (by decide)]
  exact ⟨hC.1, (hF.2.1 _ (by decide)).trans hC.2.1, hC.2.2⟩
theorem mGr_bdv {σ τ : kS} {n b R r dn k : Nat} (h : mTb σ n b) (hR : mRo σ n R) (hF : mGr σ τ n) (hr : r < R) (hdn : dn ≤ fN (σ 247 r)) : bdv τ r dn k ↔ bdv σ r dn k := by
  have hn := h.1
  have c := fun c (hc : c ∉ rowC) => hF.1 c hc
  unfold bdv
  rw [c 244 (by decide), c 246 (by decide), c 249 (by decide), c 245 (by decide), c 248 (by decide)]
  refine and_congr_right (fun _ => or_congr_right ?_)
  constructor
  · rintro ⟨e, e1, e2, e3⟩
    obtain ⟨t, t1, t2, -⟩ := hR.2.2.2.2.2 r e hr (by omega)
    refine ⟨e, e1, e2, ?_⟩
    rw [t2, fN_nI (by omega)] at e3 ⊢
    rw [(mGr_all h hF t1).2.2] at e3
    exact e3
  · rintro ⟨e, e1, e2, e3⟩
    obtain ⟨t, t1, t2, -⟩ := hR.2.2.2.2.2 r e hr (by omega)
    refine ⟨e, e1, e2, ?_⟩
    rw [t2, fN_nI (by omega)] at e3 ⊢
    rw [(mGr_all h hF t1).2.2]
    exact e3
theorem mGr_Vz {σ τ : kS} {n b r k : Nat} {x : Int32} (h : mTb σ n b) (hF : mGr σ τ n) (hz : mVz σ n r k x) : mVz τ n r k x := by
  obtain ⟨z, z1, z2, z3, z4⟩ := hz
  refine ⟨z, z1, z2, (mGr_all h hF z1).2.1.trans z3, ?_⟩
  rw [hF.1 240 (by decide), hF.1 245 (by decide), (hF.2.2 z (by have := h.1; omega)).1]
  exact z4
theorem mGr_Bi {σ τ : kS} {n b R S : Nat} {ds : List Nat} (h : mTb σ n b) (hR : mRo σ n R) (hF : mGr σ τ n) (hS : mRn σ n R S ds) (hB : mBi σ ds) : mBi τ ds := by
  have hn := h.1
  have hR4 := hR.1
  intro k hk
  obtain ⟨m, m1, m2, m3⟩ := hB k hk
  obtain ⟨r, r1, r2, r3, r4, -⟩ := hS.2.2.2 _ (hS.2.2.1 _ (List.getElem_mem hk))
  have hcnt : (ds.take k).count ds[k] < ds.count ds[k] := by
    have := count_take_le ds ds[k] (k + 1)
    rw [List.take_succ_eq_append_getElem hk, List.count_append] at this
    simp at this
    omega
  have hfr : fN (σ 255 ds[k]) = r := by rw [r2]; exact fN_nI (by omega)
  refine ⟨m, m1, by rw [hF.1 275 (by decide)]; exact m2, fun p hp => ?_⟩
  rw [m3 p hp, hF.1 255 (by decide), hfr]
  unfold nbv
  rw [mGr_bdv h hR hF r1 (by omega), mGr_bdv h hR hF r1 (by omega)]
theorem mGr_Ak {σ τ : kS} {n b R S : Nat} (h : mTb σ n b) (hR : mRo σ n R) (hSe : mSe σ n R S) (hF : mGr σ τ n) (hA : mAk σ n R S) : mAk τ n R S := by
  have hn := h.1
  have hR4 := hR.1
  have c := fun c (hc : c ∉ rowC) => hF.1 c hc
  rcases hA with hA | ⟨as, fin, a0, a1, a2, a3, a4⟩
  · exact Or.inl ((hF.2.1 _ (by decide)).trans hA)
  · refine Or.inr ⟨as, fin, a0, (hF.2.1 _ (by decide)).trans a1, by rw [c 288 (by decide)]; exact a2, ?_, ?_⟩
    · rw [c 247 (by decide), c 255 (by decide), c 246 (by decide), c 256 (by decide)]
      intro s hs
      obtain ⟨b1, b2, b3⟩ := a3 s hs
      obtain ⟨r, r1, r2, -⟩ := hSe.2.2 s b1
      have hfr : fN (σ 255 s) = r := by rw [r2]; exact fN_nI (by omega)
      refine ⟨b1, b2, fun k hk hb => ?_⟩
      rw [hfr] at hb b2 b3 ⊢
      rw [mGr_bdv h hR hF r1 b2] at hb
      obtain ⟨c1, c2⟩ := b3 k hk hb
      exact ⟨mGr_Vz h hF c1, c2⟩
    · rw [c 289 (by decide), c 285 (by decide), c 255 (by decide)]
      intro i hi
      obtain ⟨st, s1, s2, s3⟩ := a4 i hi
      obtain ⟨b1, b2, -⟩ := a3 _ (List.getElem_mem hi)
      obtain ⟨r, r1, r2, -⟩ := hSe.2.2 _ b1
      have hfr : fN (σ 255 as[i]) = r := by rw [r2]; exact fN_nI (by omega)
      have hcnt : (as.take i).count as[i] + 1 ≤ as.count as[i] := by
        have := count_take_le as as[i] (i + 1)
        rw [List.take_succ_eq_append_getElem hi, List.count_append] at this
        simp at this
        omega
      refine ⟨st, s1, s2, fun k hk => ?_⟩
      rw [s3 k hk, hfr]
      rw [hfr] at b2
      rw [propext (mGr_bdv h hR hF r1 (by omega))]
theorem mGr_new {σ τ : kS} {n k : Nat} {a c : Int32} (h : mNw σ τ n k a c) : mGr σ τ n := by
  obtain ⟨z, g, nx, hd, jd, rfl, -⟩ := h
  refine ⟨fun c hc => ?_, fun j hj => ?_, fun u hu => ⟨pk_un (by omega), pk_un (by omega), pk_un (by omega)⟩⟩
  · simp only [rowC, List.mem_cons, List.not_mem_nil, or_false, not_or] at hc
    simp [mU, va_up, hc]
  · simp only [rowT, rowJ, List.mem_cons, List.not_mem_nil, or_false, not_or] at hj
    show mO (σ 232) n jd j = _
    unfold mO
    rw [pk_un hj.1, pk_un hj.2.2.2.2.2.1, pk_un hj.2.2.1, pk_un hj.2.1]
/-- more TERMS -/
theorem mSt_up {σ : kS} {n n' s t : Nat} (hn : n ≤ n') (h : mSt σ n s t) : mSt σ n' s t := fun u hu => by
  obtain ⟨p, z, h1, h2, h3⟩ := h u hu
  exact ⟨p, z, h1, by omega, h3⟩
theorem mRo_up {σ : kS} {n n' R : Nat} (hn : n ≤ n') (hk : ∀ t, n ≤ t → t < n' → σ 233 t ≠ nI 3) (h : mRo σ n R) : mRo σ n' R := by
  obtain ⟨h1, h2, h3, h4, h5, h6⟩ := h
  refine ⟨h1, h2, h3, fun r k hr hkk => ?_, fun t ht ht3 => ?_, fun r e hr he => ?_⟩
  · obtain ⟨t, so, as, a1, a2⟩ := h4 r k hr hkk
    exact ⟨t, so, as, by omega, a2⟩
  · refine h5 t (Nat.not_le.mp (fun hh => hk t hh ht ht3)) ht3
  · obtain ⟨t, a1, a2⟩ := h6 r e hr he
    exact ⟨t, by omega, a2⟩
theorem mVz_up {σ : kS} {n n' r k : Nat} {x : Int32} (hn : n ≤ n') (h : mVz σ n r k x) : mVz σ n' r k x := by
  obtain ⟨z, z1, z2⟩ := h
  exact ⟨z, by omega, z2⟩
theorem mSn_up {σ : kS} {n n' R s dn : Nat} (hn : n ≤ n') (h : mSn σ n R s dn) : mSn σ n' R s dn := by
  obtain ⟨r, h1, h2, h3, h4, h5, h6, h7⟩ := h
  refine ⟨r, h1, h2, h3, h4, fun k hk => ?_, fun e he => mSt_up hn (h6 e he), h7⟩
  rcases h5 k hk with q | ⟨z, q1, q2⟩
  · exact Or.inl q
  · exact Or.inr ⟨z, by omega, q2⟩
theorem mRn_up {σ : kS} {n n' R S : Nat} {ds : List Nat} (hn : n ≤ n') (h : mRn σ n R S ds) : mRn σ n' R S ds := ⟨h.1, h.2.1, h.2.2.1, fun s hs => mSn_up hn (h.2.2.2 s hs)⟩
theorem mSe_up {σ : kS} {n n' R S : Nat} (hn : n ≤ n') (h : mSe σ n R S) : mSe σ n' R S := by
  obtain ⟨h1, h2, h3⟩ := h
  refine ⟨h1, h2, fun s hs => ?_⟩
  obtain ⟨r, a1, a2, a3, a4⟩ := h3 s hs
  refine ⟨r, a1, a2, a3, fun k hk => ?_⟩
  obtain ⟨as, b1, b2⟩ := a4 k hk
  refine ⟨as, b1, ?_⟩
  rcases b2 with b2 | ⟨b2, z, b3, b4⟩
  · exact Or.inl b2
  · exact Or.inr ⟨b2, z, by omega, b4⟩
theorem mKn_up {σ : kS} {n n' : Nat} {kl : List Nat} (hn : n ≤ n') (h : mKn σ n kl) : mKn σ n' kl := ⟨h.1, h.2.1, h.2.2.1, fun t ht => ⟨by have := (h.2.2.2 t ht).1; omega, (h.2.2.2 t ht).2⟩⟩
theorem mAk_up {σ : kS} {n n' R S : Nat} (hn : n ≤ n') (h : mAk σ n R S) : mAk σ n' R S := by
  rcases h with h | ⟨as, fin, a0, a1, a2, a3, a4⟩
  · exact Or.inl h
  · refine Or.inr ⟨as, fin, a0, a1, a2, fun s hs => ?_, a4⟩
    obtain ⟨b1, b2, b3⟩ := a3 s hs
    exact ⟨b1, b2, fun k hk hb => ⟨mVz_up hn (b3 k hk hb).1, (b3 k hk hb).2⟩⟩
/-- all stays, with more TERMS, none of them a VARIABLE; the row is gone -/
theorem mI_gr {σ τ : kS} {n n' b R S C : Nat} {kl : List Nat} (h : mI σ n b R S C kl) (hG : mGr σ τ n) (hn : n ≤ n') (hk : ∀ t, n ≤ t → t < n' → τ 233 t ≠ nI 3) (hT : mTb τ n' 200) (hr : τ 232 47 = 0) : mI τ n' 200 R S C kl := by
  obtain ⟨h1, h2, h3, h4, h5, h6, h7⟩ := h
  refine ⟨hT, mRo_up hn hk (mGr_Ro h1 hG h2), mSe_up hn (mGr_Se h1 hG h3), mKn_up hn (mGr_Kn h1 hG h4), mGr_Cl hG h5, ?_, mAk_up hn (mGr_Ak h1 h2 h3 hG h7)⟩
  rcases h6 with h6 | ⟨h6, ds, g1, g2, g3⟩
  · exact Or.inl ((hG.2.1 _ (by decide)).trans h6)
  · exact Or.inr ⟨(hG.2.1 _ (by decide)).trans h6, ds, mRn_up hn (mGr_Rn h1 h2 hG g1), mGr_Bi h1 h2 hG g1 g2, Or.inl hr⟩
theorem mLow_gr {σ τ : kS} {n : Nat} (h : mGr σ τ n) : mLow σ τ := fun c hc => h.1 c (fun q => by
  simp only [rowC, List.mem_cons, List.not_mem_nil, or_false] at q
  omega)
theorem mI_new {σ τ : kS} {n b R S C k : Nat} {kl : List Nat} {a c : Int32} (h : mI σ n b R S C kl) (hN : mNw σ τ n k a c) (hk : k ≠ 3) (hk9 : k ≤ 9) : mI τ (n + 1) 200 R S C kl := by
  have hG := mGr_new hN
  obtain ⟨z, g, nx, hd, jd, rfl, hT⟩ := hN
  refine mI_gr h hG (by omega) (fun t h1 h2 => ?_) hT rfl
  obtain rfl : t = n := by omega
  show upd (σ 233) t (nI k) t ≠ nI 3
  rw [pk_us]
  exact nI_ne hk
theorem mI_rs {σ τ : kS} {n b R S C : Nat} {kl : List Nat} (h : mI σ n b R S C kl) (hN : mRs σ τ n) : mGr σ τ n ∧ mI τ n 200 R S C kl := by
  obtain ⟨hd, jd, rfl, hT⟩ := hN
  have hG : mGr σ (mU σ (σ 233) (σ 234) (σ 235) (σ 236) (σ 237) (σ 243) hd (mO0 (σ 232) jd)) n := by
    refine ⟨fun c hc => ?_, fun j hj => ?_, fun u hu => ⟨rfl, rfl, rfl⟩⟩
    · simp only [rowC, List.mem_cons, List.not_mem_nil, or_false, not_or] at hc
      simp [mU, va_up, hc]
    · simp only [rowT, rowJ, List.mem_cons, List.not_mem_nil, or_false, not_or] at hj
      show mO0 (σ 232) jd j = _
      unfold mO0
      rw [pk_un hj.2.2.2.2.2.1, pk_un hj.2.2.1, pk_un hj.2.1]
  exact ⟨hG, mI_gr h hG (Nat.le_refl _) (fun t h1 h2 => by omega) hT rfl⟩
end
section
/-! the reference: what is asked from outside about TERMS and ROLES -/
theorem in_R {x : Int32} {lo hi : Nat} (hh : hi < 1000) (hl : lo < 1000) (h1 : ¬ x.toInt64 < (nI lo).toInt64) (h2 : ¬ (nI hi).toInt64 < x.toInt64) : ∃ k, lo ≤ k ∧ k ≤ hi ∧ x = nI k := by
  rw [i64_lt] at h1 h2
  rw [Int32.lt_iff_toInt_lt, nI_toInt (by omega)] at h1 h2
  have hx : ¬ x < 0 := fun h => by
    rw [Int32.lt_iff_toInt_lt] at h
    have : (0 : Int32).toInt = 0 := rfl
    omega
  obtain ⟨j, hj, rfl⟩ := nI_of hx
  rw [nI_toInt hj] at h1 h2
  exact ⟨j, by omega, by omega, rfl⟩
theorem kXM_mono {T : List jC} {L : Nat} {xs : Nat → Int32} {d y : Nat} {as : List Value} {σ : kS} {P Q : Option Value → kS → Prop} (h : kXM T L xs d y as σ P) (i : ∀ r σ', P r σ' → Q r σ') : kXM T L xs d y as σ Q := fun hh e => by
  obtain ⟨r, σ', h', a, b, c⟩ := h hh e
  exact ⟨r, σ', h', a, b, i r σ' c⟩
theorem mI_hon {σ : kS} {n b R S C : Nat} {kl : List Nat} {f : Nat → Int32} (h : mI σ n b R S C kl) (hr : σ 232 47 = 0) : mI (va_up σ 238 f) n b R S C kl := by
  obtain ⟨h1, h2, h3, h4, h5, h6, h7⟩ := h
  refine ⟨h1, h2, h3, h4, h5, ?_, h7⟩
  rcases h6 with h6 | ⟨h6, ds, g1, g2, g3⟩
  · exact Or.inl h6
  · exact Or.inr ⟨h6, ds, g1, g2, Or.inl hr⟩
theorem mNw_rit {σ τ : kS} {n k : Nat} {a c : Int32} (h : mNw σ τ n k a c) : τ 232 47 = 0 := by
  obtain ⟨z, g, nx, hd, jd, rfl, -⟩ := h
  rfl
end
section
/-! the reference: ROLES change, but none that has a session -/
def roF (σ τ : kS) : Prop := ∃ VS V TA E ET SE CL OR SO ON x, τ = va_up (va_up (va_up (va_up (va_up (va_up (va_up (va_up (va_up (va_up (va_up σ 244 VS) 245 V) 246 TA) 247 E) 248 ET) 249 SE) 250 CL) 239 OR) 240 SO) 241 ON) 232 (upd (σ 232) 13 x)
/-- the role r is as it was -/
def roO (σ τ : kS) (r : Nat) : Prop := τ 244 r = σ 244 r ∧ τ 247 r = σ 247 r ∧ τ 250 r = σ 250 r ∧ ∀ k, k < 6 → τ 245 (6 * r + k) = σ 245 (6 * r + k) ∧ τ 246 (6 * r + k) = σ 246 (6 * r + k) ∧ τ 248 (6 * r + k) = σ 248 (6 * r + k) ∧ τ 249 (6 * r + k) = σ 249 (6 * r + k)
def roV (σ τ : kS) (n : Nat) : Prop := ∀ t, t < n → τ 240 t = σ 240 t ∧ τ 241 t = σ 241 t
theorem ro_bdv {σ τ : kS} {r dn k : Nat} (hF : roF σ τ) (hO : roO σ τ r) (hv : fN (σ 244 r) ≤ 6) (hdn : dn ≤ 6) : bdv τ r dn k ↔ bdv σ r dn k := by
  obtain ⟨o1, o2, o3, o4⟩ := hO
  have hk : τ 233 = σ 233 ∧ τ 234 = σ 234 ∧ τ 235 = σ 235 := by
    obtain ⟨VS, V, TA, E, ET, SE, CL, OR, SO, ON, x, rfl⟩ := hF
    exact ⟨rfl, rfl, rfl⟩
  unfold bdv
  rw [o1, hk.1, hk.2.1, hk.2.2]
  refine and_congr_right (fun q => ?_)
  rw [(o4 k (by omega)).1, (o4 k (by omega)).2.1]
  refine or_congr_right ?_
  constructor
  · rintro ⟨e, e1, e2, e3⟩
    rw [(o4 e (by omega)).2.2.1] at e3
    rw [(o4 e (by omega)).2.2.2] at e2
    exact ⟨e, e1, e2, e3⟩
  · rintro ⟨e, e1, e2, e3⟩
    rw [← (o4 e (by omega)).2.2.1] at e3
    rw [← (o4 e (by omega)).2.2.2] at e2
    exact ⟨e, e1, e2, e3⟩
/-- what stays besides -/
theorem ro_c {σ τ : kS} (hF : roF σ τ) : τ 233 = σ 233 ∧ τ 234 = σ 234 ∧ τ 235 = σ 235 ∧ τ 265 = σ 265 ∧ τ 264 = σ 264 ∧ τ 255 = σ 255 ∧ τ 274 = σ 274 ∧ τ 275 = σ 275 ∧ τ 256 = σ 256 := by
  obtain ⟨VS, V, TA, E, ET, SE, CL, OR, SO, ON, x, rfl⟩ := hF
  exact ⟨rfl, rfl, rfl, rfl, rfl, rfl, rfl, rfl, rfl⟩
theorem ro_f {σ τ : kS} (hF : roF σ τ) {j : Nat} (hj : j ≠ 13) : τ 232 j = σ 232 j := by
  obtain ⟨VS, V, TA, E, ET, SE, CL, OR, SO, ON, x, rfl⟩ := hF
  exact pk_un hj
theorem ro_Vz {σ τ : kS} {n R r k : Nat} {x : Int32} (hn : n ≤ 200) (hR : mRo σ n R) (hF : roF σ τ) (hO : roO σ τ r) (hV : roV σ τ n) (hr : r < R) (hk : k < fN (σ 244 r)) (hk6 : k < 6) (hz : mVz σ n r k x) : mVz τ n r k x := by
  obtain ⟨z, z1, z2, z3, z4⟩ := hz
  obtain ⟨c1, c2, c3, -⟩ := ro_c hF
  obtain ⟨t, so, as, t1, t2, -⟩ := hR.2.2.2.1 r k hr hk
  refine ⟨z, z1, z2, by rw [c1, c2, c3]; exact z3, ?_⟩
  rw [(hO.2.2.2 k hk6).1, c1]
  rw [t2, fN_nI (by omega)] at z4 ⊢
  rw [(hV t t1).1]
  exact z4
theorem ro_Sn {σ τ : kS} {n n1 b R R' s dn : Nat} (h : mTb σ n1 b) (hn1 : n ≤ n1) (hR : mRo σ n R) (hRR : R ≤ R') (hF : roF σ τ) (hO : roO σ τ (fN (σ 255 s))) (hV : roV σ τ n) (hS : mSn σ n R s dn) : mSn τ n R' s dn := by
  have hn := h.1
  obtain ⟨r, h1, h2, h3, h4, h5, h6, h7⟩ := hS
  have hR4 := hR.1
  rw [h2, fN_nI (by omega)] at hO
  obtain ⟨⟨v, hv6, hv⟩, ev, he6, hev⟩ := hR.2.2.1 r h1
  have hfv : fN (σ 244 r) = v := by rw [hv]; exact fN_nI (by omega)
  have hfe : fN (σ 247 r) = ev := by rw [hev]; exact fN_nI (by omega)
  obtain ⟨c1, c2, c3, c4, c5, c6, -⟩ := ro_c hF
  refine ⟨r, by omega, by rw [c6]; exact h2, by rw [c5]; exact h3, by rw [hO.2.1]; exact h4, fun k hk => ?_, fun e he => ?_, ?_⟩
  · have := h5 k hk
    unfold mVk at this ⊢
    rw [c4, hO.1, (hO.2.2.2 k hk).2.1, c1, c2, c3, (hO.2.2.2 k hk).1]
    rcases this with q | ⟨z, q1, q2, q3, q4, q5⟩
    · exact Or.inl q
    · obtain ⟨t, so, as, t1, t2, -⟩ := hR.2.2.2.1 r k h1 q4
      refine Or.inr ⟨z, q1, q2, q3, q4, ?_⟩
      rw [t2, fN_nI (by omega)] at q5 ⊢
      rw [(hV t t1).1]
      exact q5
  · obtain ⟨t, t1, t2, -⟩ := hR.2.2.2.2.2 r e h1 (by omega)
    have := h6 e he
    rw [(hO.2.2.2 e (by omega)).2.2.1]
    rw [t2, fN_nI (by omega)] at this ⊢
    intro u hu
    rw [c1, c2, c3] at hu ⊢
    obtain ⟨p, z, p1, p2, p3, p4, p5, p6⟩ := this u hu
    have hu2 := (tvs_mem (mTb_num h) t (by omega) u hu).2.2
    refine ⟨p, z, p1, p2, (hV u (by omega)).2.trans p3, by rw [c4]; exact p4, p5, ?_⟩
    rw [(hV u (by omega)).1]
    exact p6
  · rw [hO.1, c1, c2, c3, c4]
    intro k hk ha hv'
    rw [(hO.2.2.2 k (by omega)).2.1] at ha
    obtain ⟨e, e1, e2, e3⟩ := h7 k hk ha hv'
    exact ⟨e, e1, (hO.2.2.2 e (by omega)).2.2.2.trans e2, by rw [(hO.2.2.2 e (by omega)).2.2.1, (hO.2.2.2 k (by omega)).1]; exact e3⟩
theorem ro_Rn {σ τ : kS} {n n1 b R R' S : Nat} {ds : List Nat} (h : mTb σ n1 b) (hn1 : n ≤ n1) (hR : mRo σ n R) (hRR : R ≤ R') (hF : roF σ τ) (hO : ∀ s, s < S → roO σ τ (fN (σ 255 s))) (hV : roV σ τ n) (hS : mRn σ n R S ds) : mRn τ n R' S ds := by
  obtain ⟨h1, h2, h3, h4⟩ := hS
  refine ⟨(ro_f hF (by decide)).trans h1, ?_, h3, fun s hs => ro_Sn h hn1 hR hRR hF (hO s hs) hV (h4 s hs)⟩
  rw [(ro_c hF).2.2.2.2.2.2.1]
  exact h2
theorem ro_Bi {σ τ : kS} {n R S : Nat} {ds : List Nat} (hR : mRo σ n R) (hF : roF σ τ) (hO : ∀ s, s < S → roO σ τ (fN (σ 255 s))) (hS : mRn σ n R S ds) (hB : mBi σ ds) : mBi τ ds := by
  have hR4 := hR.1
  intro k hk
  obtain ⟨m, m1, m2, m3⟩ := hB k hk
  have hs := hS.2.2.1 _ (List.getElem_mem hk)
  obtain ⟨r, r1, r2, r3, r4, -⟩ := hS.2.2.2 _ hs
  obtain ⟨⟨v, hv6, hv⟩, ev, he6, hev⟩ := hR.2.2.1 r r1
  have hfv : fN (σ 244 r) = v := by rw [hv]; exact fN_nI (by omega)
  have hfe : fN (σ 247 r) = ev := by rw [hev]; exact fN_nI (by omega)
  have hcnt : (ds.take k).count ds[k] < ds.count ds[k] := by
    have := count_take_le ds ds[k] (k + 1)
    rw [List.take_succ_eq_append_getElem hk, List.count_append] at this
    simp at this
    omega
  have hfr : fN (σ 255 ds[k]) = r := by rw [r2]; exact fN_nI (by omega)
  have hO := hO _ hs
  rw [hfr] at hO
  obtain ⟨c1, c2, c3, c4, c5, c6, c7, c8, -⟩ := ro_c hF
  refine ⟨m, m1, by rw [c8]; exact m2, fun p hp => ?_⟩
  rw [m3 p hp, c6, hfr]
  unfold nbv
  rw [ro_bdv hF hO (by omega) (by omega), ro_bdv hF hO (by omega) (by omega)]
theorem ro_Se {σ τ : kS} {n R R' S : Nat} (hn : n ≤ 200) (hR : mRo σ n R) (hRR : R ≤ R') (hF : roF σ τ) (hO : ∀ s, s < S → roO σ τ (fN (σ 255 s))) (hV : roV σ τ n) (hS : mSe σ n R S) : mSe τ n R' S := by
  have hR4 := hR.1
  obtain ⟨h1, h2, h3⟩ := hS
  obtain ⟨c1, c2, c3, c4, c5, c6, c7, c8, c9⟩ := ro_c hF
  refine ⟨h1, (ro_f hF (by decide)).trans h2, fun s hs => ?_⟩
  obtain ⟨r, a1, a2, a3, a4⟩ := h3 s hs
  have hO := hO s hs
  rw [a2, fN_nI (by omega)] at hO
  obtain ⟨⟨v, hv6, hv⟩, -⟩ := hR.2.2.1 r a1
  have hfv : fN (σ 244 r) = v := by rw [hv]; exact fN_nI (by omega)
  refine ⟨r, by omega, by rw [c6]; exact a2, by rw [hO.2.2.1]; exact a3, ?_⟩
  rw [hO.1, c1, c9]
  intro k hk
  obtain ⟨as, b1, b2⟩ := a4 k hk
  obtain ⟨t, so, as', t1, t2, -⟩ := hR.2.2.2.1 r k a1 hk
  refine ⟨as, (hO.2.2.2 k (by omega)).2.1.trans b1, ?_⟩
  rw [(hO.2.2.2 k (by omega)).1]
  rw [t2, fN_nI (by omega)] at b2 ⊢
  rw [(hV t t1).1]
  exact b2
theorem ro_Ak {σ τ : kS} {n R R' S : Nat} (hn : n ≤ 200) (hR : mRo σ n R) (hSe : mSe σ n R S) (hF : roF σ τ) (hO : ∀ s, s < S → roO σ τ (fN (σ 255 s))) (hV : roV σ τ n) (hA : mAk σ n R S) : mAk τ n R' S := by
  have hR4 := hR.1
  obtain ⟨c1, c2, c3, c4, c5, c6, c7, c8, c9⟩ := ro_c hF
  have ca : τ 288 = σ 288 ∧ τ 289 = σ 289 ∧ τ 285 = σ 285 := by
    obtain ⟨VS, V, TA, E, ET, SE, CL, OR, SO, ON, x, rfl⟩ := hF
    exact ⟨rfl, rfl, rfl⟩
  rcases hA with hA | ⟨as, fin, a0, a1, a2, a3, a4⟩
  · exact Or.inl ((ro_f hF (by decide)).trans hA)
  · refine Or.inr ⟨as, fin, a0, (ro_f hF (by decide)).trans a1, by rw [ca.1]; exact a2, ?_, ?_⟩
    · rw [c6, c9]
      intro s hs
      obtain ⟨b1, b2, b3⟩ := a3 s hs
      obtain ⟨r, r1, r2, -⟩ := hSe.2.2 s b1
      have hfr : fN (σ 255 s) = r := by rw [r2]; exact fN_nI (by omega)
      have hO := hO s b1
      obtain ⟨⟨v, hv6, hv⟩, ev, he6, hev⟩ := hR.2.2.1 r r1
      have hfv : fN (σ 244 r) = v := by rw [hv]; exact fN_nI (by omega)
      have hfe : fN (σ 247 r) = ev := by rw [hev]; exact fN_nI (by omega)
      rw [hfr] at b2 b3 hO ⊢
      refine ⟨b1, by rw [hO.2.1]; exact b2, fun k hk hb => ?_⟩
      rw [ro_bdv hF hO (by omega) (by omega)] at hb
      obtain ⟨d1, d2⟩ := b3 k hk hb
      rw [(hO.2.2.2 k hk).2.1]
      exact ⟨ro_Vz hn hR hF hO hV r1 hb.1 hk d1, d2⟩
    · rw [ca.2.1, ca.2.2, c6]
      intro i hi
      obtain ⟨st, s1, s2, s3⟩ := a4 i hi
      obtain ⟨b1, b2, -⟩ := a3 _ (List.getElem_mem hi)
      obtain ⟨r, r1, r2, -⟩ := hSe.2.2 _ b1
      have hfr : fN (σ 255 as[i]) = r := by rw [r2]; exact fN_nI (by omega)
      have hO := hO _ b1
      obtain ⟨⟨v, hv6, hv⟩, ev, he6, hev⟩ := hR.2.2.1 r r1
      have hfv : fN (σ 244 r) = v := by rw [hv]; exact fN_nI (by omega)
      have hfe : fN (σ 247 r) = ev := by rw [hev]; exact fN_nI (by omega)
      have hcnt : (as.take i).count as[i] + 1 ≤ as.count as[i] := by
        have := count_take_le as as[i] (i + 1)
        rw [List.take_succ_eq_append_getElem hi, List.count_append] at this
        simp at this
        omega
      refine ⟨st, s1, s2, fun k hk => ?_⟩
      rw [hfr] at b2 hO
      rw [s3 k hk, hfr]
      rw [propext (ro_bdv hF hO (by omega) (by omega))]
theorem ro_Cl {σ τ : kS} {R R' C : Nat} (hRR : R ≤ R') (hF : roF σ τ) (hv : ∀ r, r < R → fN (σ 244 r) ≤ fN (τ 244 r)) (hC : mCl σ R C) : mCl τ R' C := by
  obtain ⟨h1, h2, h3⟩ := hC
  have ca : τ 258 = σ 258 ∧ τ 259 = σ 259 ∧ τ 257 = σ 257 ∧ τ 260 = σ 260 ∧ τ 261 = σ 261 ∧ τ 262 = σ 262 ∧ τ 263 = σ 263 := by
    obtain ⟨VS, V, TA, E, ET, SE, CL, OR, SO, ON, x, rfl⟩ := hF
    exact ⟨rfl, rfl, rfl, rfl, rfl, rfl, rfl⟩
  obtain ⟨d1, d2, d3, d4, d5, d6, d7⟩ := ca
  refine ⟨h1, (ro_f hF (by decide)).trans h2, ?_⟩
  rw [d1, d2, d3, d4, d5, d6, d7]
  intro c hc
  obtain ⟨b, a, nn, j, b1, b2, b3, b4, b5, b6, b7, b8, b9, b10⟩ := h3 c hc
  refine ⟨b, a, nn, j, by omega, b2, b3, fun q => Nat.lt_of_lt_of_le (b4 q) (hv b b1), fun q => by have := b5 q; omega, b6, b7, b8, b9, fun k hk => ?_⟩
  obtain ⟨x, y, x1, x2, x3, x4⟩ := b10 k hk
  exact ⟨x, y, Nat.lt_of_lt_of_le x1 (hv b b1), Nat.lt_of_lt_of_le x2 (hv a x3), by omega, x4⟩
end
section
/-! the reference: ROLES change, the row stays -/
theorem ro_tin {σ τ : kS} {n n1 b s t : Nat} (h : mTb σ n1 b) (hn1 : n ≤ n1) (hF : roF σ τ) (hV : roV σ τ n) (ht : t < n) : tin τ s t = tin σ s t := by
  obtain ⟨c1, c2, c3, c4, -⟩ := ro_c hF
  unfold tin
  rw [c1, c2, c3]
  have hU : ∀ u, u < n → u < 100000 ∧ tOk (fun u => u < n) (mAG σ n1) (σ 233) (σ 234) (σ 235) u := fun u hu => by
    have hq := mTb_num h u (by omega)
    exact ⟨hq.1, tOk_mono (fun x hx _ => by omega) (fun _ _ q => q) rfl rfl rfl hq.2⟩
  refine tA_congr hU (fun u hu => ⟨rfl, rfl, rfl, ?_⟩) t ht
  unfold mVl
  rw [c4, (hV u hu).2]
theorem ro_trSn {σ τ : kS} {n n1 b R S : Nat} {ds : List Nat} (h : mTb σ n1 b) (hn1 : n ≤ n1) (hR : mRo σ n R) (hF : roF σ τ) (hO : ∀ s, s < S → roO σ τ (fN (σ 255 s))) (hV : roV σ τ n) (hS : mRn σ n R S ds) (tr : trT) : ∀ k, k ≤ ds.length → trSn τ ds tr k = trSn σ ds tr k
  | 0, _ => rfl
  | k + 1, hk => by
    have hn := h.1
    have hR4 := hR.1
    have ih := ro_trSn h hn1 hR hF hO hV hS tr k (by omega)
    have hkl : k < ds.length := hk
    have hgd : ds.getD k 0 = ds[k] := by rw [List.getD_eq_getElem?_getD, List.getElem?_eq_getElem hkl]; rfl
    have hs := hS.2.2.1 _ (List.getElem_mem hkl)
    obtain ⟨r, r1, r2, r3, r4, r5, r6, -⟩ := hS.2.2.2 _ hs
    obtain ⟨-, ev, he6, hev⟩ := hR.2.2.1 r r1
    have hfe : fN (σ 247 r) = ev := by rw [hev]; exact fN_nI (by omega)
    have hcnt : (ds.take k).count ds[k] < ds.count ds[k] := by
      have := count_take_le ds ds[k] (k + 1)
      rw [List.take_succ_eq_append_getElem hkl, List.count_append] at this
      simp at this
      omega
    have hO := hO _ hs
    rw [r2, fN_nI (by omega)] at hO
    obtain ⟨c1, c2, c3, c4, c5, c6, -⟩ := ro_c hF
    have hmev : mEv τ ds[k] ((ds.take k).count ds[k]) = mEv σ ds[k] ((ds.take k).count ds[k]) := by
      unfold mEv
      rw [c6]
    have hmev2 : mEv σ ds[k] ((ds.take k).count ds[k]) = 6 * r + (ds.take k).count ds[k] := by
      unfold mEv
      rw [r2, fN_nI (by omega)]
    obtain ⟨t, t1, t2, -⟩ := hR.2.2.2.2.2 r ((ds.take k).count ds[k]) r1 (by omega)
    have ho := hO.2.2.2 ((ds.take k).count ds[k]) (by omega)
    rw [trSn, trSn, hgd, ih, hmev, hmev2, ho.2.2.2, ho.2.2.1, t2, fN_nI (by omega), ro_tin h hn1 hF hV t1]
theorem ro_trRun {σ τ : kS} {n n1 b R S : Nat} {kl ds : List Nat} (h : mTb σ n1 b) (hn1 : n ≤ n1) (hR : mRo σ n R) (hF : roF σ τ) (hO : ∀ s, s < S → roO σ τ (fN (σ 255 s))) (hV : roV σ τ n) (hS : mRn σ n R S ds) : trRun τ kl ds = trRun σ kl ds := by
  have e := ro_trSn h hn1 hR hF hO hV hS (trKn σ kl) ds.length (Nat.le_refl _)
  obtain ⟨VS, V, TA, E, ET, SE, CL, OR, SO, ON, x, rfl⟩ := hF
  unfold trRun
  rw [← e]
  rfl
theorem ro_Rt {σ τ : kS} {n b R S : Nat} {kl ds : List Nat} (h : mTb σ n b) (hR : mRo σ n R) (hF : roF σ τ) (hO : ∀ s, s < S → roO σ τ (fN (σ 255 s))) (hV : roV σ τ n) (hS : mRn σ n R S ds) (ht : mRt σ n b kl ds) : mRt τ n b kl ds := by
  have e := ro_trRun (kl := kl) h (Nat.le_refl n) hR hF hO hV hS
  obtain ⟨VS, V, TA, E, ET, SE, CL, OR, SO, ON, x, rfl⟩ := hF
  rcases ht with ht | ⟨ht, hb, l, l1, l2, l3⟩
  · exact Or.inl ht
  · refine Or.inr ⟨ht, hb, l, l1, l2, ?_⟩
    rw [e, ← l3]
    rfl
/-- TERMS as they were, ROLES changed -/
theorem mI_ro {σ τ : kS} {n b R R' S C : Nat} {kl : List Nat} (h : mI σ n b R S C kl) (hRR : R ≤ R') (hF : roF σ τ) (hO : ∀ s, s < S → roO σ τ (fN (σ 255 s))) (hV : roV σ τ n) (hT : mTb τ n b) (hRo : mRo τ n R') (hv : ∀ r, r < R → fN (σ 244 r) ≤ fN (τ 244 r)) : mI τ n b R' S C kl := by
  obtain ⟨h1, h2, h3, h4, h5, h6, h7⟩ := h
  have hn := h1.1
  refine ⟨hT, hRo, ro_Se hn h2 hRR hF hO hV h3, ?_, ro_Cl hRR hF hv h5, ?_, ro_Ak hn h2 h3 hF hO hV h7⟩
  · obtain ⟨VS, V, TA, E, ET, SE, CL, OR, SO, ON, x, rfl⟩ := hF
    exact h4
  · rcases h6 with h6 | ⟨h6, ds, g1, g2, g3⟩
    · exact Or.inl ((ro_f hF (by decide)).trans h6)
    · exact Or.inr ⟨(ro_f hF (by decide)).trans h6, ds, ro_Rn h1 (Nat.le_refl n) h2 hRR hF hO hV g1, ro_Bi h2 hF hO g1 g2, ro_Rt h1 h2 hF hO hV g1 g3⟩
/-- role: what it leaves -/
theorem mRo_role {σ : kS} {n R : Nat} {CL : Nat → Int32} (hR : mRo σ n R) (hR3 : R < 4) : mRo (va_up (va_up (va_up (va_up σ 244 (upd (σ 244) R 0)) 247 (upd (σ 247) R 0)) 250 CL) 232 (upd (σ 232) 13 (nI (R + 1)))) n (R + 1) := by
  obtain ⟨h1, h2, h3, h4, h5, h6⟩ := hR
  have hvn : ∀ r, r < R → upd (σ 244) R 0 r = σ 244 r := fun r hr => pk_un (by omega)
  have hen : ∀ r, r < R → upd (σ 247) R 0 r = σ 247 r := fun r hr => pk_un (by omega)
  have f0 : fN 0 = 0 := rfl
  refine ⟨by omega, rfl, fun r hr => ?_, fun r k hr hk => ?_, fun t ht hk => ?_, fun r e hr he => ?_⟩
  · show (∃ v, v ≤ 6 ∧ upd (σ 244) R 0 r = nI v) ∧ ∃ e, e ≤ 6 ∧ upd (σ 247) R 0 r = nI e
    by_cases hrR : r = R
    · subst hrR
      rw [pk_us, pk_us]
      exact ⟨⟨0, by omega, rfl⟩, 0, by omega, rfl⟩
    · rw [hvn r (by omega), hen r (by omega)]
      exact h3 r (by omega)
  · change k < fN (upd (σ 244) R 0 r) at hk
    by_cases hrR : r = R
    · subst hrR
      rw [pk_us, f0] at hk
      omega
    · rw [hvn r (by omega)] at hk
      exact h4 r k (by omega) hk
  · obtain ⟨r, k, r1, k1, k2⟩ := h5 t ht hk
    refine ⟨r, k, by omega, ?_, k2⟩
    show k < fN (upd (σ 244) R 0 r)
    rw [hvn r r1]
    exact k1
  · change e < fN (upd (σ 247) R 0 r) at he
    by_cases hrR : r = R
    · subst hrR
      rw [pk_us, f0] at he
      omega
    · rw [hen r (by omega)] at he
      exact h6 r e (by omega) he
end
section
/-! the reference: one VARIABLE more -/
theorem mI_var {σ σ1 ρ : kS} {n b R S C : Nat} {kl : List Nat} (h : mI σ n b R S C kl) (hG : mGr σ σ1 n) (hr0 : ρ 232 47 = 0) (hF : roF σ1 ρ) (hO : ∀ s, s < S → roO σ1 ρ (fN (σ1 255 s))) (hV : roV σ1 ρ n) (hT1 : mTb σ1 (n + 1) 200) (hT : mTb ρ (n + 1) 200) (hRo : mRo ρ (n + 1) R) (hv : ∀ r, r < R → fN (σ1 244 r) ≤ fN (ρ 244 r)) : mI ρ (n + 1) 200 R S C kl := by
  obtain ⟨h1, h2, h3, h4, h5, h6, h7⟩ := h
  have hn := h1.1
  have hR1 := mGr_Ro h1 hG h2
  have hS1 := mGr_Se h1 hG h3
  have hn1 : n ≤ n + 1 := by omega
  refine ⟨hT, hRo, mSe_up hn1 (ro_Se hn hR1 (Nat.le_refl R) hF hO hV hS1), ?_, ro_Cl (Nat.le_refl R) hF hv (mGr_Cl hG h5), ?_, mAk_up hn1 (ro_Ak hn hR1 hS1 hF hO hV (mGr_Ak h1 h2 h3 hG h7))⟩
  · have := mKn_up hn1 (mGr_Kn h1 hG h4)
    obtain ⟨VS, V, TA, E, ET, SE, CL, OR, SO, ON, x, rfl⟩ := hF
    exact this
  · rcases h6 with h6 | ⟨h6, ds, g1, g2, g3⟩
    · exact Or.inl ((ro_f hF (by decide)).trans ((hG.2.1 _ (by decide)).trans h6))
    · have g1' := mGr_Rn h1 h2 hG g1
      exact Or.inr ⟨(ro_f hF (by decide)).trans ((hG.2.1 _ (by decide)).trans h6), ds, mRn_up hn1 (ro_Rn hT1 hn1 hR1 (Nat.le_refl R) hF hO hV g1'), ro_Bi hR1 hF hO g1' (mGr_Bi h1 h2 hG g1 g2), Or.inl hr0⟩
def vaS (σ : kS) (n r v : Nat) (so as : Int32) : kS := va_up (va_up (va_up (va_up (va_up (va_up σ 239 (upd (σ 239) n (nI r))) 240 (upd (σ 240) n so)) 241 (upd (σ 241) n (nI v))) 245 (upd (σ 245) (6 * r + v) (nI n))) 246 (upd (σ 246) (6 * r + v) as)) 244 (upd (σ 244) r (nI (v + 1)))
theorem mTb_va {σ : kS} {n r v : Nat} {so as : Int32} (h : mTb σ (n + 1) 200) (hn : n < 200) : mTb (vaS σ n r v so as) (n + 1) 200 := by
  obtain ⟨h1, h2, h3, h4, h5, h6, h7⟩ := h
  refine ⟨h1, h2, h3, h4, h5, ⟨fun t ht => ?_, h6.2⟩, h7⟩
  have q := h6.1 t ht
  refine ⟨q.1, tOk_mono (fun _ _ p => p) (fun y hy p => ?_) rfl rfl rfl q.2⟩
  refine ⟨p.1, p.2.elim Or.inl (fun z => Or.inr ⟨z.1, ?_⟩)⟩
  show upd (σ 240) n so y = nI 0
  have ht' : t < n + 1 := by unfold mv at ht; omega
  rw [pk_un (by omega)]
  exact z.2
theorem roF_va (σ : kS) (n r v : Nat) (so as : Int32) : roF σ (vaS σ n r v so as) := by
  refine ⟨upd (σ 244) r (nI (v + 1)), upd (σ 245) (6 * r + v) (nI n), upd (σ 246) (6 * r + v) as, σ 247, σ 248, σ 249, σ 250, upd (σ 239) n (nI r), upd (σ 240) n so, upd (σ 241) n (nI v), σ 232 13, ?_⟩
  funext c; unfold vaS; first
    | ((repeat (refine va_case ?_ ?_; (· (intro h; first | (subst h; rfl) | (unfold va_up; repeat' split; (all_goals first | rfl | omega | (subst_vars; rfl) | (funext j; unfold upd; repeat' split; all_goals first | rfl | omega | (subst_vars; rfl)))))); intro h)); (repeat (refine va_case2 ?_ ?_; (· (intro h; first | exact absurd h (by assumption) | (subst h; rfl) | (subst h; funext j; unfold upd; repeat' split; (all_goals first | rfl | omega | (subst_vars; rfl))))); intro h)); rfl)
    | (unfold va_up; repeat' split
       all_goals first | rfl | omega | (subst_vars; rfl) | (funext j; unfold upd; repeat' split; all_goals first | rfl | omega | (subst_vars; rfl)))
theorem mRo_va {σ : kS} {n b r v R so as : Nat} (hT : mTb σ (n + 1) b) (hR : mRo σ n R) (hn : n < 200) (hk : σ 233 n = nI 3) (hr : r < R) (hv : σ 244 r = nI v) (hv6 : v < 6) (hso : so ≤ 3) (has : as ≤ 2) (h0 : as = 0 → so = 0) (h01 : as = 1 → so = 1 ∨ so = 2) : mRo (vaS σ n r v (nI so) (nI as)) (n + 1) R := by
  obtain ⟨h1, h2, h3, h4, h5, h6⟩ := hR
  have hvn : ∀ r', r' ≠ r → upd (σ 244) r (nI (v + 1)) r' = σ 244 r' := fun r' q => pk_un q
  have hfv : fN (σ 244 r) = v := by rw [hv]; exact fN_nI (by omega)
  have hfv1 : fN (nI (v + 1)) = v + 1 := fN_nI (by omega)
  have hidx : ∀ r' k, r' < R → k < fN (σ 244 r') → 6 * r' + k ≠ 6 * r + v := fun r' k hr' hk' e => by
    obtain ⟨⟨w, hw6, hw⟩, -⟩ := h3 r' hr'
    rw [hw, fN_nI (by omega)] at hk'
    have : r' = r := by omega
    subst this
    have : w = v := nI_inj (hw.symm.trans hv)
    omega
  have hold : ∀ r' k, r' < R → k < fN (σ 244 r') → ∃ t so' as', t < n + 1 ∧ upd (σ 245) (6 * r + v) (nI n) (6 * r' + k) = nI t ∧ σ 233 t = nI 3 ∧ upd (σ 239) n (nI r) t = nI r' ∧ upd (σ 241) n (nI v) t = nI k ∧ so' ≤ 3 ∧ upd (σ 240) n (nI so) t = nI so' ∧ as' ≤ 2 ∧ upd (σ 246) (6 * r + v) (nI as) (6 * r' + k) = nI as' ∧ (as' = 0 → so' = 0) ∧ (as' = 1 → so' = 1 ∨ so' = 2) := fun r' k hr' hk' => by
    obtain ⟨t, so, as, a1, a2, a3, a4, a5, a6, a7, a8, a9⟩ := h4 r' k hr' hk'
    refine ⟨t, so, as, by omega, ?_, a3, ?_, ?_, a6, ?_, a8, ?_, a9.2⟩
    · rw [pk_un (hidx r' k hr' hk')]; exact a2
    · rw [pk_un (by omega)]; exact a4
    · rw [pk_un (by omega)]; exact a5
    · rw [pk_un (by omega)]; exact a7
    · rw [pk_un (hidx r' k hr' hk')]; exact a9.1
  refine ⟨h1, h2, fun r' hr' => ⟨?_, (h3 r' hr').2⟩, fun r' k hr' hk' => ?_, fun t ht hkt => ?_, fun r' e hr' he => ?_⟩
  · show ∃ w, w ≤ 6 ∧ upd (σ 244) r (nI (v + 1)) r' = nI w
    by_cases e : r' = r
    · subst e
      rw [pk_us]
      exact ⟨v + 1, by omega, rfl⟩
    · rw [hvn r' e]
      exact (h3 r' hr').1
  · change k < fN (upd (σ 244) r (nI (v + 1)) r') at hk'
    by_cases e : r' = r ∧ k = v
    · obtain ⟨rfl, rfl⟩ := e
      exact ⟨n, so, as, by omega, pk_us, hk, pk_us, pk_us, hso, pk_us, has, pk_us, h0, h01⟩
    · refine hold r' k hr' ?_
      by_cases e2 : r' = r
      · subst e2
        rw [pk_us, hfv1] at hk'
        rw [hfv]
        omega
      · rw [hvn r' e2] at hk'
        exact hk'
  · by_cases e : t = n
    · subst e
      refine ⟨r, v, hr, ?_, pk_us⟩
      show v < fN (upd (σ 244) r (nI (v + 1)) r)
      rw [pk_us, hfv1]
      omega
    · obtain ⟨r', k, a1, a2, a3⟩ := h5 t (by omega) hkt
      refine ⟨r', k, a1, ?_, ?_⟩
      · show k < fN (upd (σ 244) r (nI (v + 1)) r')
        by_cases e2 : r' = r
        · subst e2
          rw [pk_us, hfv1]
          rw [hfv] at a2
          omega
        · rw [hvn r' e2]
          exact a2
      · show upd (σ 245) (6 * r + v) (nI n) (6 * r' + k) = nI t
        rw [pk_un (hidx r' k a1 a2)]
        exact a3
  · obtain ⟨t, t1, t2, t3, t4⟩ := h6 r' e hr' he
    have hlt : ∀ u ∈ tvs (σ 233) (σ 234) (σ 235) t, u < n := fun u hu => by
      have := (tvs_mem (mTb_num hT) t (by omega) u hu).2.2
      omega
    refine ⟨t, by omega, t2, fun u hu => ?_, fun hs u hu ha => ?_⟩
    · show upd (σ 239) n (nI r) u = nI r'
      have := hlt u hu
      rw [pk_un (by omega)]
      exact t3 u hu
    · change upd (σ 246) (6 * r + v) (nI as) (6 * r' + fN (upd (σ 241) n (nI v) u)) = nI 2 at ha
      have hun := hlt u hu
      rw [show upd (σ 241) n (nI v) u = σ 241 u from pk_un (by omega)] at ha
      obtain ⟨r2, k, a1, a2, a3⟩ := h5 u hun (tvs_mem (mTb_num hT) t (by omega) u hu).2.1
      obtain ⟨t', so', as', b1, b2, b3, b4, b5, -⟩ := h4 r2 k a1 a2
      obtain rfl : u = t' := nI_inj (a3.symm.trans b2)
      obtain rfl : r2 = r' := nI_inj (b4.symm.trans (t3 u hu))
      obtain ⟨⟨w, hw6, hw⟩, -⟩ := h3 r2 a1
      have hk6 : k < 6 := by rw [hw, fN_nI (by omega)] at a2; omega
      have e5 : fN (σ 241 u) = k := by rw [b5]; exact fN_nI (by omega)
      rw [e5, pk_un (hidx r2 k a1 a2)] at ha
      exact t4 hs u hu (by rw [e5]; exact ha)
end
section
/-! the reference: isReceived, event -/
set_option maxRecDepth 100000 in
set_option maxHeartbeats 4000000 in
theorem mr_rc_in (L : Nat) (xs : Nat → Int32) (d : Nat) (σ : kS) (W ST : Nat → Int32) (acc : List Nat) (e r t : Nat) (hl : lst ST acc) (ha : acc.length ≤ 24) (ht : t < 1000) (h1000 : ∀ x ∈ acc, x < 1000) (Q : Option Value → kS → Prop)
    (he : kX kT L xs (d + 1) 165 90 [(3, .int (isB (t ∈ acc))), (4, .int (nI e)), (0, .ref 232), (1, .int (nI r)), (2, .int (nI t))] [] (fvS σ W ST (nI acc.length)) Q) :
    ∀ k : Nat, k ≤ acc.length → kX kT L xs (d + 1) 165 54 [(5, .int (nI k)), (3, .int (isB (∃ i, i < k ∧ acc[i]? = some t))), (4, .int (nI e)), (0, .ref 232), (1, .int (nI r)), (2, .int (nI t))] [] (fvS σ W ST (nI acc.length)) Q := by
  refine kX_while (fun k : Nat => [(5, .int (nI k)), (3, .int (isB (∃ i, i < k ∧ acc[i]? = some t))), (4, .int (nI e)), (0, .ref 232), (1, .int (nI r)), (2, .int (nI t))]) (fun _ => fvS σ W ST (nI acc.length)) _ (fun k => acc.length - k) ?_
  intro k hk ih
  iterate 3 (refine kX_one rfl ?_)
  repeat refine kX_one rfl ?_
  refine kX_if (fun q => ?_) (fun q => ?_)
  · have q := qge q k acc.length
    have e : isB (∃ i, i < k ∧ acc[i]? = some t) = isB (t ∈ acc) := by
      have : (∃ i, i < k ∧ acc[i]? = some t) ↔ t ∈ acc := by
        rw [List.mem_iff_getElem?]
        exact ⟨fun ⟨i, _, h⟩ => ⟨i, h⟩, fun ⟨i, h⟩ => ⟨i, by have := (List.getElem?_eq_some_iff.mp h).1; omega, h⟩⟩
      rw [propext this]
    rw [e]
    refine kX_lv ([(3, .int (isB (t ∈ acc))), (4, .int (nI _)), (0, .ref 232), (1, .int (nI r)), (2, .int (nI t))]) rfl rfl rfl ?_
    exact he
  · have q := qgeF q k acc.length
    have hgo : ∀ v : Int32, v = isB (∃ i, i < k + 1 ∧ acc[i]? = some t) → kX kT L xs (d + 1) 165 83 [(5, .int (nI k)), (3, .int (isB (∃ i, i < k ∧ acc[i]? = some t))), (4, .int (nI e)), (0, .ref 232), (1, .int (nI r)), (2, .int (nI t))] [.int v] (fvS σ W ST (nI acc.length)) Q := by
      intro v hv
      subst hv
      iterate 3 (refine kX_one rfl ?_)
      have := ih (k + 1) q (by omega)
      rw [← nI_1] at this
      refine kX_lv _ rfl rfl rfl this
    iterate 1 (refine kX_one rfl ?_)
    repeat refine kX_one rfl ?_
    refine kX_if (fun q2 => ?_) (fun q2 => ?_)
    · have q2 := isB_ne.mp (qne q2)
      obtain ⟨i, hi, hi2⟩ := q2
      iterate 2 (refine kX_one rfl ?_)
      exact hgo _ (isB_T ⟨i, by omega, hi2⟩).symm
    · have q2 : ¬ ∃ i, i < k ∧ acc[i]? = some t := fun h => isB_ne.mpr h (qneF q2)
      repeat refine kX_one rfl ?_
      refine kX_ialdN rfl rfl (by decide) (k) (by first | rfl | decide) (by omega) ?_
      iterate 1 (refine kX_one rfl ?_)
      have hk2 : ST k = nI acc[k] := hl k q
      have hlt := h1000 acc[k] (List.getElem_mem q)
      repeat refine kX_one rfl ?_
      refine kX_if (fun q3 => ?_) (fun q3 => ?_)
      · have q3 : ST k ≠ nI t := qne q3
        iterate 1 (refine kX_one rfl ?_)
        refine hgo _ (isB_F ?_).symm
        rintro ⟨i, hi, hi2⟩
        by_cases e : i = k
        · subst e
          rw [List.getElem?_eq_getElem q] at hi2
          rw [hk2, Option.some.inj hi2] at q3
          exact q3 rfl
        · exact q2 ⟨i, by omega, hi2⟩
      · have q3 : ST k = nI t := qneF q3
        iterate 2 (refine kX_one rfl ?_)
        refine hgo _ (isB_T ⟨k, by omega, ?_⟩).symm
        rw [List.getElem?_eq_getElem q]
        exact congrArg some (nI_inj (hk2.symm.trans q3))
theorem ddl_mem {x : Nat} : ∀ (l acc : List Nat), x ∈ ddl acc l ↔ x ∈ acc ∨ x ∈ l
  | [], acc => by simp [ddl]
  | a :: l, acc => by
    rw [ddl_cons, ddl_mem l]
    by_cases h : a ∈ acc
    · rw [if_pos h, List.mem_cons]
      constructor
      · rintro (q | q)
        · exact Or.inl q
        · exact Or.inr (Or.inr q)
      · rintro (q | q | q)
        · exact Or.inl q
        · subst q
          exact Or.inl h
        · exact Or.inr q
    · rw [if_neg h, List.mem_append, List.mem_singleton, List.mem_cons]
      exact ⟨fun q => q.elim (fun q => q.elim Or.inl (fun q => Or.inr (Or.inl q))) (fun q => Or.inr (Or.inr q)), fun q => q.elim (fun q => Or.inl (Or.inl q)) (fun q => q.elim (fun q => Or.inl (Or.inr q)) Or.inr)⟩
/-- the VARIABLE u comes in one of the first e EVENTS of the role r that receive -/
def rcv (σ : kS) (r e u : Nat) : Prop := ∃ e', e' < e ∧ σ 249 (6 * r + e') = 0 ∧ u ∈ tvs (σ 233) (σ 234) (σ 235) (fN (σ 248 (6 * r + e')))
theorem mTb_fv {σ : kS} {n b : Nat} {W ST : Nat → Int32} {m : Int32} (h : mTb σ n b) : mTb (fvS σ W ST m) n b := h
set_option maxRecDepth 100000 in
set_option maxHeartbeats 4000000 in
theorem mr_isReceived (L : Nat) (xs : Nat → Int32) (d : Nat) (σ : kS) (n b R r u : Nat) (h : mTb σ n b) (hR : mRo σ n R) (hr : r < R) (hu : u < n) : kXM kT L xs (d + 2) 165 [.ref 232, .int (nI r), .int (nI u)] σ (fun x σ' => x = some (.int (isB (rcv σ r (fN (σ 247 r)) u))) ∧ ∃ W ST m, σ' = fvS σ W ST m) := by
  have hn := h.1
  have hR4 := hR.1
  obtain ⟨-, ev, he6, hev⟩ := hR.2.2.1 r hr
  have hfe : fN (σ 247 r) = ev := by rw [hev]; exact fN_nI (by omega)
  rw [hfe]
  unfold kXM
  iterate 4 (refine kX_one rfl ?_)
  have loop := kX_while (T := kT) (L := L) (xs := xs) (d := d + 2) (mi := 165) (pc := 5) (Q := fun x σ' => x = some (.int (isB (rcv σ r ev u))) ∧ ∃ W ST m, σ' = fvS σ W ST m)
    (fun q : Nat × (Nat → Int32) × (Nat → Int32) × Int32 => [(4, .int (nI q.1)), (3, .int (isB (rcv σ r q.1 u))), (0, .ref 232), (1, .int (nI r)), (2, .int (nI u))])
    (fun q => fvS σ q.2.1 q.2.2.1 q.2.2.2)
    (fun q => q.1 ≤ ev)
    (fun q => ev - q.1) ?_ (0, σ 252, σ 251, σ 232 22) (Nat.zero_le _)
  · refine kX_to _ _ rfl rfl ?_ ?_ loop
    · have e0 : isB (rcv σ r 0 u) = 0 := isB_F (fun ⟨e', q, _⟩ => by omega)
      dsimp only
      rw [e0]
      rfl
    · funext c; unfold fvS; first
        | ((repeat (refine va_case ?_ ?_; (· (intro h; first | (subst h; rfl) | (unfold va_up; repeat' split; (all_goals first | rfl | omega | (subst_vars; rfl) | (funext j; unfold upd; repeat' split; all_goals first | rfl | omega | (subst_vars; rfl)))))); intro h)); (repeat (refine va_case2 ?_ ?_; (· (intro h; first | exact absurd h (by assumption) | (subst h; rfl) | (subst h; funext j; unfold upd; repeat' split; (all_goals first | rfl | omega | (subst_vars; rfl))))); intro h)); rfl)
        | (unfold va_up; repeat' split
           all_goals first | rfl | omega | (subst_vars; rfl) | (funext j; unfold upd; repeat' split; all_goals first | rfl | omega | (subst_vars; rfl)))
  · rintro ⟨e, W, ST, m⟩ i1 ih
    dsimp only at i1 ih ⊢
    iterate 4 (refine kX_one rfl ?_)
    refine kX_ialdV rfl rfl (by decide) r rfl (by omega) (show fvS σ W ST m 247 r = nI ev from hev) ?_
    repeat refine kX_one rfl ?_
    refine kX_if (fun q => ?_) (fun q => ?_)
    · have q := qge q e ev
      obtain rfl : e = ev := by omega
      repeat refine kX_one rfl ?_
      refine kX_ret (i := .ireturn) (len := 1) rfl (Or.inr rfl) (jend_b rfl (isB_01 _)) (⟨rfl, W, ST, m, rfl⟩)
    · have q := qgeF q e ev
      iterate 1 (refine kX_one rfl ?_)
      repeat refine kX_one rfl ?_
      refine kX_if (fun q2 => ?_) (fun q2 => ?_)
      · obtain ⟨e', e1, e2⟩ := isB_ne.mp (qne q2)
        repeat refine kX_one rfl ?_
        refine kX_ret (i := .ireturn) (len := 1) rfl (Or.inr rfl) (jend_b rfl (isB_01 _)) (⟨by rw [isB_T ⟨e', e1, e2⟩, isB_T ⟨e', by omega, e2⟩], W, ST, m, rfl⟩)
      · have q2 : ¬ rcv σ r e u := fun z => isB_ne.mpr z (qneF q2)
        obtain ⟨t, t1, t2, -⟩ := hR.2.2.2.2.2 r e hr (by omega)
        have back : ∀ (W' ST' : Nat → Int32) (m' : Int32), kX kT L xs (d + 2) 165 90 [(3, .int (isB (rcv σ r (e + 1) u))), (4, .int (nI e)), (0, .ref 232), (1, .int (nI r)), (2, .int (nI u))] [] (fvS σ W' ST' m') (fun x σ' => x = some (.int (isB (rcv σ r ev u))) ∧ ∃ W ST m, σ' = fvS σ W ST m) := by
          intro W' ST' m'
          iterate 2 (refine kX_one rfl ?_)
          have := ih (e + 1, W', ST', m') q (by simp only; omega)
          dsimp only at this
          rw [← nI_1] at this
          refine kX_lv _ rfl rfl rfl this
        iterate 7 (refine kX_one rfl ?_)
        refine kX_baldN rfl rfl (by decide) (6 * r + e) (ix6 r e) (by omega) ?_
        repeat refine kX_one rfl ?_
        refine kX_if (fun q3 => ?_) (fun q3 => ?_)
        · have q3 : σ 249 (6 * r + e) ≠ 0 := qne q3
          have e2 : isB (rcv σ r e u) = isB (rcv σ r (e + 1) u) := congrArg isB (propext ⟨fun z => absurd z q2, fun ⟨e', z1, z2, z3⟩ => ⟨e', by
            have : e' ≠ e := fun ee => q3 (by rw [← ee]; exact z2)
            omega, z2, z3⟩⟩)
          rw [e2]
          exact kX_lv _ rfl rfl rfl (back W ST m)
        · have q3 : σ 249 (6 * r + e) = 0 := qneF q3
          iterate 8 (refine kX_one rfl ?_)
          refine kX_ialdV rfl rfl (by decide) (6 * r + e) (ix6 r e) (by omega) (show fvS σ W ST m 248 (6 * r + e) = nI t from t2) ?_
          refine kX_cal (mr_findVariables L xs d _ n b t (mTb_fv h) t1) rfl (Or.inr rfl) rfl rfl rfl (fun r1 σ1 q1 => ?_)
          obtain ⟨rfl, W', ST', q1, g1, g2⟩ := q1
          subst q1
          iterate 2 (refine kX_one rfl ?_)
          have hin := mr_rc_in L xs (d + 1) σ W' ST' (ddl [] (tvs (σ 233) (σ 234) (σ 235) t)) e r u g1 g2 (by omega) (fun x hx => by
            rcases (ddl_mem _ _).mp hx with hx | hx
            · cases hx
            · have := (tvs_mem (mTb_num h) t t1 x hx).2.2
              omega) _ (by
            have e3 : isB (u ∈ ddl [] (tvs (σ 233) (σ 234) (σ 235) t)) = isB (rcv σ r (e + 1) u) := by
              refine congrArg isB (propext ?_)
              rw [ddl_mem]
              constructor
              · rintro (z | z)
                · cases z
                · exact ⟨e, by omega, q3, by rw [t2, fN_nI (by omega)]; exact z⟩
              · rintro ⟨e', z1, z2, z3⟩
                by_cases ee : e' = e
                · subst ee
                  rw [t2, fN_nI (by omega)] at z3
                  exact Or.inr z3
                · exact absurd ⟨e', by omega, z2, z3⟩ q2
            rw [e3]
            exact back W' ST' _) 0 (Nat.zero_le _)
          have e4 : isB (∃ i, i < 0 ∧ (ddl [] (tvs (σ 233) (σ 234) (σ 235) t))[i]? = some u) = isB (rcv σ r e u) := congrArg isB (propext ⟨fun ⟨i, z, _⟩ => by omega, fun z => absurd z q2⟩)
          rw [e4] at hin
          refine kX_to _ _ rfl rfl rfl ?_ hin
          funext c; unfold fvS; first
            | ((repeat (refine va_case ?_ ?_; (· (intro h; first | (subst h; rfl) | (unfold va_up; repeat' split; (all_goals first | rfl | omega | (subst_vars; rfl) | (funext j; unfold upd; repeat' split; all_goals first | rfl | omega | (subst_vars; rfl)))))); intro h)); (repeat (refine va_case2 ?_ ?_; (· (intro h; first | exact absurd h (by assumption) | (subst h; rfl) | (subst h; funext j; unfold upd; repeat' split; (all_goals first | rfl | omega | (subst_vars; rfl))))); intro h)); rfl)
            | (unfold va_up; repeat' split
               all_goals first | rfl | omega | (subst_vars; rfl) | (funext j; unfold upd; repeat' split; all_goals first | rfl | omega | (subst_vars; rfl)))
end
section
/-! the reference: event -/
def evS (σ : kS) (W ST : Nat → Int32) (m : Int32) (A : Nat → Int32) : kS := va_up (fvS σ W ST m) 253 A
theorem mFr_ev (σ : kS) (n : Nat) (W ST : Nat → Int32) (m : Int32) (A : Nat → Int32) : mFr σ (evS σ W ST m A) n := by
  refine ⟨fun c hc => ?_, fun j hj => ?_, fun u hu => ⟨rfl, rfl, rfl⟩⟩
  · simp only [rowC, List.mem_cons, List.not_mem_nil, or_false, not_or] at hc
    simp [evS, fvS, va_up, hc]
  · simp only [rowJ, List.mem_cons, List.not_mem_nil, or_false, not_or] at hj
    show upd (σ 232) 22 m j = _
    exact pk_un hj.2.2.2.2.2.1
theorem mI_ev {σ : kS} {n b R S C : Nat} {kl : List Nat} (h : mI σ n b R S C kl) (W ST : Nat → Int32) (m : Int32) (A : Nat → Int32) : mI (evS σ W ST m A) n b R S C kl := by
  have h0 := h
  obtain ⟨h1, h2, h3, h4, h5, h6, h7⟩ := h
  have hF := mFr_ev σ n W ST m A
  refine mI_fr h0 hF h1 ?_
  rcases h6 with h6 | ⟨h6, ds, g1, g2, g3⟩
  · exact Or.inl h6
  · refine Or.inr ⟨h6, ds, mFr_Rn h1 h2 hF g1, mFr_Bi h1 h2 hF g1 g2, ?_⟩
    rcases g3 with g3 | ⟨g3, g4, l, l1, l2, l3⟩
    · exact Or.inl g3
    · refine Or.inr ⟨g3, g4, l, l1, l2, ?_⟩
      rw [mFr_trRun h1 h2 hF h4 g1, ← l3]
      rfl
/-- one EVENT more -/
def evN (σ : kS) (r e : Nat) (t y : Int32) : kS := va_up (va_up (va_up σ 248 (upd (σ 248) (6 * r + e) t)) 249 (upd (σ 249) (6 * r + e) y)) 247 (upd (σ 247) r (nI (e + 1)))
theorem roF_ev (σ : kS) (r e : Nat) (t y : Int32) : roF σ (evN σ r e t y) := by
  refine ⟨σ 244, σ 245, σ 246, upd (σ 247) r (nI (e + 1)), upd (σ 248) (6 * r + e) t, upd (σ 249) (6 * r + e) y, σ 250, σ 239, σ 240, σ 241, σ 232 13, ?_⟩
  funext c; unfold evN; first
    | ((repeat (refine va_case ?_ ?_; (· (intro h; first | (subst h; rfl) | (unfold va_up; repeat' split; (all_goals first | rfl | omega | (subst_vars; rfl) | (funext j; unfold upd; repeat' split; all_goals first | rfl | omega | (subst_vars; rfl)))))); intro h)); (repeat (refine va_case2 ?_ ?_; (· (intro h; first | exact absurd h (by assumption) | (subst h; rfl) | (subst h; funext j; unfold upd; repeat' split; (all_goals first | rfl | omega | (subst_vars; rfl))))); intro h)); rfl)
    | (unfold va_up; repeat' split
       all_goals first | rfl | omega | (subst_vars; rfl) | (funext j; unfold upd; repeat' split; all_goals first | rfl | omega | (subst_vars; rfl)))
theorem mRo_ev {σ : kS} {n r e R t : Nat} {y : Int32} (hR : mRo σ n R) (hr : r < R) (he : σ 247 r = nI e) (he6 : e < 6) (ht : t < n) (hu : ∀ u ∈ tvs (σ 233) (σ 234) (σ 235) t, σ 239 u = nI r ∧ (y ≠ 0 → σ 246 (6 * r + fN (σ 241 u)) = nI 2 → rcv σ r e u)) : mRo (evN σ r e (nI t) y) n R := by
  obtain ⟨h1, h2, h3, h4, h5, h6⟩ := hR
  have hfe : fN (σ 247 r) = e := by rw [he]; exact fN_nI (by omega)
  have hfe1 : fN (nI (e + 1)) = e + 1 := fN_nI (by omega)
  have hidx : ∀ r' k, r' < R → k < fN (σ 247 r') → 6 * r' + k ≠ 6 * r + e := fun r' k hr' hk' ee => by
    obtain ⟨-, w, hw6, hw⟩ := h3 r' hr'
    rw [hw, fN_nI (by omega)] at hk'
    have : r' = r := by omega
    subst this
    have : w = e := nI_inj (hw.symm.trans he)
    omega
  refine ⟨h1, h2, fun r' hr' => ⟨(h3 r' hr').1, ?_⟩, h4, h5, fun r' k hr' hk' => ?_⟩
  · show ∃ w, w ≤ 6 ∧ upd (σ 247) r (nI (e + 1)) r' = nI w
    by_cases ee : r' = r
    · subst ee
      rw [pk_us]
      exact ⟨e + 1, by omega, rfl⟩
    · rw [pk_un ee]
      exact (h3 r' hr').2
  · change k < fN (upd (σ 247) r (nI (e + 1)) r') at hk'
    by_cases ee : r' = r ∧ k = e
    · obtain ⟨rfl, rfl⟩ := ee
      refine ⟨t, ht, pk_us, fun u q => (hu u q).1, fun hs u q ha => ?_⟩
      change upd (σ 249) (6 * r' + k) y (6 * r' + k) ≠ 0 at hs
      rw [pk_us] at hs
      obtain ⟨e', e1, e2, e3⟩ := (hu u q).2 hs ha
      refine ⟨e', e1, ?_, ?_⟩
      · show upd (σ 249) (6 * r' + k) y (6 * r' + e') = 0
        rw [pk_un (by omega)]
        exact e2
      · show u ∈ tvs (σ 233) (σ 234) (σ 235) (fN (upd (σ 248) (6 * r' + k) (nI t) (6 * r' + e')))
        rw [pk_un (by omega)]
        exact e3
    · have hk2 : k < fN (σ 247 r') := by
        by_cases e2 : r' = r
        · subst e2
          rw [pk_us, hfe1] at hk'
          rw [hfe]
          omega
        · rw [pk_un e2] at hk'
          exact hk'
      obtain ⟨t', a1, a2, a3, a4⟩ := h6 r' k hr' hk2
      refine ⟨t', a1, ?_, a3, fun hs u q ha => ?_⟩
      · show upd (σ 248) (6 * r + e) (nI t) (6 * r' + k) = nI t'
        rw [pk_un (hidx r' k hr' hk2)]
        exact a2
      · change upd (σ 249) (6 * r + e) y (6 * r' + k) ≠ 0 at hs
        rw [pk_un (hidx r' k hr' hk2)] at hs
        obtain ⟨e', e1, e2, e3⟩ := a4 hs u q ha
        refine ⟨e', e1, ?_, ?_⟩
        · show upd (σ 249) (6 * r + e) y (6 * r' + e') = 0
          rw [pk_un (hidx r' e' hr' (by omega))]
          exact e2
        · show u ∈ tvs (σ 233) (σ 234) (σ 235) (fN (upd (σ 248) (6 * r + e) (nI t) (6 * r' + e')))
          rw [pk_un (hidx r' e' hr' (by omega))]
          exact e3
def okU (σ : kS) (r ev : Nat) (y : Int32) (u : Nat) : Prop := σ 239 u = nI r ∧ (y ≠ 0 → σ 246 (6 * r + fN (σ 241 u)) = nI 2 → rcv σ r ev u)
end
section
/-! the reference: know -/
theorem mI_fg {σ : kS} {n b R S C : Nat} {kl : List Nat} (h1 : mTb σ n b) (h2 : mRo σ n R) (h3 : mSe σ n R S) (h4 : mKn σ n kl) (h5 : mCl σ R C) (hr : σ 232 52 = 0) : mI (va_up σ 232 (fgO (σ 232))) n b R S C kl := ⟨h1, h2, h3, h4, h5, Or.inl hr, Or.inl rfl⟩
end
