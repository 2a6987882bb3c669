/-! the reference: the RUN's invariant -/
/-- VARIABLE k of the role r stands for something behind dn EVENTS -/
def bdv (σ : kS) (r dn k : Nat) : Prop := k < fN (σ 244 r) ∧ (σ 246 (6 * r + k) ≠ nI 2 ∨ ∃ e, e < dn ∧ σ 249 (6 * r + e) = 0 ∧ fN (σ 245 (6 * r + k)) ∈ tvs (σ 233) (σ 234) (σ 235) (fN (σ 248 (6 * r + e))))
/-- .. and came to by the EVENT e -/
def nbv (σ : kS) (r e k : Nat) : Prop := bdv σ r (e + 1) k ∧ ¬ bdv σ r e k
theorem bdv_mono {σ : kS} {r dn dn' k : Nat} (h : dn ≤ dn') (hb : bdv σ r dn k) : bdv σ r dn' k := ⟨hb.1, hb.2.elim Or.inl (fun ⟨e, h1, h2⟩ => Or.inr ⟨e, by omega, h2⟩)⟩
/-- the VARIABLES of a TERM of the role r, by their numbers -/
theorem mRo_var {σ : kS} {n b R r t u : Nat} (h : mTb σ n b) (hR : mRo σ n R) (hr : r < R) (ht : t < n) (hof : ∀ u ∈ tvs (σ 233) (σ 234) (σ 235) t, σ 239 u = nI r) (hu : u ∈ tvs (σ 233) (σ 234) (σ 235) t) : ∃ k so, u < n ∧ k < 6 ∧ k < fN (σ 244 r) ∧ σ 245 (6 * r + k) = nI u ∧ σ 241 u = nI k ∧ σ 233 u = nI 3 ∧ so ≤ 3 ∧ σ 240 u = nI so := by
  have hn := h.1
  have hR4 := hR.1
  obtain ⟨u1, u2, -⟩ := tvs_mem (mTb_num h) t ht u hu
  obtain ⟨r', k, r1, k1, kv⟩ := hR.2.2.2.2.1 u u1 u2
  obtain ⟨t', so, as, a1, a2, a3, a4, a5, a6, a7, -⟩ := hR.2.2.2.1 r' k r1 k1
  have e1 : u = t' := nI_inj (kv.symm.trans a2)
  subst e1
  have e2 : r' = r := nI_inj (a4.symm.trans (hof u hu))
  subst e2
  obtain ⟨⟨v, h1, h2⟩, -⟩ := hR.2.2.1 r' r1
  exact ⟨k, so, u1, by rw [h2, fN_nI (by omega)] at k1; omega, k1, kv, a5, u2, a6, a7⟩
/-- all VARIABLES in a done EVENT stand for something -/
theorem bdv_ev {σ : kS} {n b R r e dn u k : Nat} (h : mTb σ n b) (hR : mRo σ n R) (hr : r < R) (he : e < dn) (hdn : dn ≤ fN (σ 247 r)) (hu : u ∈ tvs (σ 233) (σ 234) (σ 235) (fN (σ 248 (6 * r + e)))) (hk : σ 241 u = nI k) (hk6 : k < 6) : bdv σ r dn k := by
  have hn := h.1
  have hR4 := hR.1
  obtain ⟨t, t1, t2, t3, t4⟩ := hR.2.2.2.2.2 r e hr (by omega)
  rw [t2, fN_nI (by omega)] at hu
  obtain ⟨k', so, u1, k6, kv, vv, kk, -⟩ := mRo_var h hR hr t1 t3 hu
  obtain rfl : k = k' := nI_inj (hk.symm.trans kk)
  refine ⟨kv, ?_⟩
  by_cases ha : σ 246 (6 * r + k) = nI 2
  · right
    by_cases hs : σ 249 (6 * r + e) = 0
    · exact ⟨e, he, hs, by rw [t2, fN_nI (by omega), vv, fN_nI (by omega)]; exact hu⟩
    · obtain ⟨e', e1, e2, e3⟩ := t4 hs u hu (by rw [kk, fN_nI (by omega)]; exact ha)
      exact ⟨e', by omega, e2, by rw [vv, fN_nI (by omega)]; exact e3⟩
  · exact Or.inl ha
/-- a value that VARIABLE k may stand for -/
def mVz (σ : kS) (n r k : Nat) (x : Int32) : Prop := ∃ z, z < n ∧ x = nI z ∧ tgd (σ 233) (σ 234) (σ 235) z = true ∧ (σ 240 (fN (σ 245 (6 * r + k))) = nI 3 ∨ σ 240 (fN (σ 245 (6 * r + k))) = σ 233 z)
theorem mVz_ne {σ : kS} {n b r k : Nat} {x : Int32} (h : mTb σ n b) (hz : mVz σ n r k x) : x ≠ -6 ∧ ¬ x < 0 := by
  obtain ⟨z, z1, rfl, -⟩ := hz
  have := h.1
  have h0 : ¬ nI z < 0 := nI_pos (by omega)
  exact ⟨fun e => h0 (by rw [e]; decide), h0⟩
theorem mSn_of {σ : kS} {n b R s r dn : Nat} (h : mTb σ n b) (hR : mRo σ n R) (r1 : r < R) (r2 : σ 255 s = nI r) (r3 : σ 264 s = nI dn) (r4 : dn ≤ fN (σ 247 r)) (hv : ∀ k, k < 6 → (bdv σ r dn k → mVz σ n r k (σ 265 (6 * s + k))) ∧ (¬ bdv σ r dn k → σ 265 (6 * s + k) = -6)) : mSn σ n R s dn := by
  have hn := h.1
  have hv6 : fN (σ 244 r) ≤ 6 := by
    obtain ⟨⟨v, h1, h2⟩, -⟩ := hR.2.2.1 r r1
    rw [h2, fN_nI (by omega)]
    exact h1
  refine ⟨r, r1, r2, r3, r4, fun k hk => ?_, fun e he u hu => ?_, fun k hk ha hne => ?_⟩
  · by_cases hb : bdv σ r dn k
    · obtain ⟨z, z1, z2, z3, z4⟩ := (hv k hk).1 hb
      exact Or.inr ⟨z, z1, z2, z3, hb.1, z4⟩
    · exact Or.inl ⟨(hv k hk).2 hb, fun hkv => Classical.byContradiction (fun hh => hb ⟨hkv, Or.inl hh⟩)⟩
  · obtain ⟨t, t1, t2, t3, t4⟩ := hR.2.2.2.2.2 r e r1 (by omega)
    have hu0 := hu
    rw [t2, fN_nI (by omega)] at hu
    obtain ⟨k, so, u1, k6, kv, vv, kk, -⟩ := mRo_var h hR r1 t1 t3 hu
    obtain ⟨z, z1, z2, z3, z4⟩ := (hv k k6).1 (bdv_ev h hR r1 he r4 hu0 kk k6)
    refine ⟨k, z, k6, z1, kk, z2, z3, fun hs => ?_⟩
    rw [vv, fN_nI (by omega)] at z4
    rcases z4 with z4 | z4
    · rw [hs] at z4
      exact absurd z4 (by decide)
    · rw [← z4]
      exact hs
  · have hb : bdv σ r dn k := Classical.byContradiction (fun hh => hne ((hv k (by omega)).2 hh))
    rcases hb.2 with q | q
    · exact absurd ha q
    · exact q
theorem mSn_iff {σ : kS} {n b R s r dn : Nat} (h : mTb σ n b) (hR : mRo σ n R) (hS : mSn σ n R s dn) (r2 : σ 255 s = nI r) (hr : r < R) : σ 264 s = nI dn ∧ dn ≤ fN (σ 247 r) ∧ ∀ k, k < 6 → (bdv σ r dn k → mVz σ n r k (σ 265 (6 * s + k))) ∧ (¬ bdv σ r dn k → σ 265 (6 * s + k) = -6) := by
  have hn := h.1
  have hR4 := hR.1
  obtain ⟨r', h1, h2, h3, h4, h5, h6, h7⟩ := hS
  obtain rfl : r' = r := nI_inj (h2.symm.trans r2)
  refine ⟨h3, h4, fun k hk => ⟨fun hb => ?_, fun hb => ?_⟩⟩
  · rcases h5 k hk with ⟨q1, q2⟩ | ⟨z, z1, z2, z3, z4, z5⟩
    · exfalso
      rcases hb.2 with q | ⟨e, e1, e2, e3⟩
      · exact q (q2 hb.1)
      · obtain ⟨t, so, as, a1, a2, a3, a4, a5, -⟩ := hR.2.2.2.1 r' k h1 hb.1
        rw [a2, fN_nI (by omega)] at e3
        obtain ⟨p, z, p1, p2, p3, p4, -⟩ := h6 e e1 t e3
        obtain rfl : k = p := nI_inj (a5.symm.trans p3)
        have h0 : ¬ nI z < 0 := nI_pos (by omega)
        rw [← p4, q1] at h0
        exact h0 (by decide)
    · exact ⟨z, z1, z2, z3, z5⟩
  · rcases h5 k hk with ⟨q1, q2⟩ | ⟨z, z1, z2, z3, z4, z5⟩
    · exact q1
    · exfalso
      by_cases ha : σ 246 (6 * r' + k) = nI 2
      · refine hb ⟨z4, Or.inr (h7 k z4 ha ?_)⟩
        intro e6
        have h0 : ¬ nI z < 0 := nI_pos (by omega)
        rw [← z2, e6] at h0
        exact h0 (by decide)
      · exact hb ⟨z4, Or.inl ha⟩
/-- the EVENTS of the RUN: which VARIABLES came to stand for something -/
def mBi (σ : kS) (ds : List Nat) : Prop := ∀ k (h : k < ds.length), ∃ m, m < 64 ∧ σ 275 k = nI m ∧ ∀ p, p < 6 → (m / 2 ^ p % 2 = 1 ↔ nbv σ (fN (σ 255 (ds[k]'h))) ((ds.take k).count (ds[k]'h)) p)
/-- the row of the RUN, if it is there -/
def mRt (σ : kS) (n b : Nat) (kl ds : List Nat) : Prop := σ 232 47 = 0 ∨ (σ 232 47 = 1 ∧ b ≤ 776 ∧ ∃ l, mRq σ (mvG σ n b) l ∧ mJd σ n b l ∧ rwM σ l = trRun σ kl ds)
def mRi (σ : kS) (n b R S : Nat) (kl : List Nat) : Prop := σ 232 52 = 0 ∨ (σ 232 52 = 1 ∧ ∃ ds, mRn σ n R S ds ∧ mBi σ ds ∧ mRt σ n b kl ds)
/-- the ATTACK that was found -/
def mAk (σ : kS) (n R S : Nat) : Prop := σ 232 72 = -6 ∨ ∃ (as : List Nat) (fin : Nat → Nat → Int32), as.length ≤ 24 ∧ σ 232 72 = nI as.length ∧ lst (σ 288) as ∧
  (∀ s ∈ as, s < S ∧ as.count s ≤ fN (σ 247 (fN (σ 255 s))) ∧ ∀ k, k < 6 → bdv σ (fN (σ 255 s)) (as.count s) k → mVz σ n (fN (σ 255 s)) k (fin s k) ∧ (σ 246 (6 * fN (σ 255 s) + k) ≠ nI 2 → fin s k = σ 256 (6 * s + k))) ∧
  ∀ i (h : i < as.length), ∃ st, st < 600 ∧ σ 289 i = nI st ∧ ∀ k, k < 6 → σ 285 (24 * st + 6 * (as[i]'h) + k) = cit (bdv σ (fN (σ 255 (as[i]'h))) ((as.take i).count (as[i]'h) + 1) k) (fin (as[i]'h) k) (-6)
/-- all of the reference -/
def mI (σ : kS) (n b R S C : Nat) (kl : List Nat) : Prop := mTb σ n b ∧ mRo σ n R ∧ mSe σ n R S ∧ mKn σ n kl ∧ mCl σ R C ∧ mRi σ n b R S kl ∧ mAk σ n R S
/-- what a call of the reference leaves -/
def mAfter (σ σ' : kS) (R' : Nat) : Prop := mLow σ σ' ∧ ∃ n b S C kl, mI σ' n b R' S C kl
set_option maxRecDepth 100000 in
set_option maxHeartbeats 4000000 in
theorem mr_end (L : Nat) (xs : Nat → Int32) (d : Nat) (σ : kS) (n b R S C : Nat) (kl : List Nat) (h : mI σ n b R S C kl) : kXM kT L xs (d + 1) 192 [.ref 232] σ (fun r σ' => (∃ x, r = some (.int x)) ∧ mAfter σ σ' R) := by
  obtain ⟨h1, h2, h3, h4, h5, h6, h7⟩ := h
  unfold kXM
  rcases h6 with h6 | ⟨h6, ds, g⟩
  · iterate 2 (refine kX_one rfl ?_)
    refine kX_top (h6) ?_
    repeat refine kX_one rfl ?_
    refine kX_ret (i := .ireturn) (len := 1) rfl (Or.inr rfl) rfl (⟨⟨_, rfl⟩, mLow_refl σ, n, b, S, C, kl, h1, h2, h3, h4, h5, Or.inl h6, h7⟩)
  · iterate 2 (refine kX_one rfl ?_)
    refine kX_top (h6) ?_
    repeat refine kX_one rfl ?_
    refine kX_ret (i := .ireturn) (len := 1) rfl (Or.inr rfl) rfl (⟨⟨_, rfl⟩, mLow_up σ _ (by decide), n, b, S, C, kl, h1, h2, h3, h4, h5, Or.inl rfl, h7⟩)
set_option maxRecDepth 100000 in
set_option maxHeartbeats 4000000 in
theorem mr_begin (L : Nat) (xs : Nat → Int32) (d : Nat) (σ : kS) (n b R S C : Nat) (kl : List Nat) (h : mI σ n b R S C kl) : kXM kT L xs (d + 2) 191 [.ref 232] σ (fun r σ' => r = some (.int (nI S)) ∧ mLow σ σ' ∧ mI σ' n b R S C kl ∧ ∃ D V, σ' = va_up (va_up (va_up σ 264 D) 265 V) 232 (upd (upd (upd (σ 232) 52 1) 55 0) 47 0) ∧ (∀ s, s < S → D s = 0) ∧ (∀ s k, s < S → k < 6 → V (6 * s + k) = if k < fN (σ 244 (fN (σ 255 s))) then σ 256 (6 * s + k) else -6)) := by
  obtain ⟨h1, h2, h3, h4, h5, h6, h7⟩ := h
  unfold kXM
  iterate 7 (refine kX_one rfl ?_)
  refine kX_st (va_up σ 232 (upd (upd (σ 232) 52 1) 55 0)) ?_ ?_
  · funext c; unfold  va_up; repeat' split
    all_goals first | rfl | omega | (subst_vars; rfl) | (funext j; unfold upd; repeat' split; all_goals first | rfl | omega | (subst_vars; rfl))
  refine kX_cal (mr_begins L xs d (va_up σ 232 (upd (upd (σ 232) 52 1) 55 0)) n b R S h1 h2 h3) rfl (Or.inr rfl) rfl rfl rfl (fun r1 σ1 q1 => ?_)
  obtain ⟨rfl, D, V, rfl, hD, hV⟩ := q1
  repeat refine kX_one rfl ?_
  have hs := mSn_begin (σ := σ) h1 h2 h3 hD hV
  have e : va_up (va_up (va_up (va_up σ 232 (upd (upd (σ 232) 52 1) 55 0)) 264 D) 265 V) 232 (upd ((va_up (va_up (va_up σ 232 (upd (upd (σ 232) 52 1) 55 0)) 264 D) 265 V) 232) 47 (Int32.ofInt 0)) = va_up (va_up (va_up σ 264 D) 265 V) 232 (upd (upd (upd (σ 232) 52 1) 55 0) 47 0) := by
    funext c; unfold  va_up; repeat' split
    all_goals first | rfl | omega | (subst_vars; rfl) | (funext j; unfold upd; repeat' split; all_goals first | rfl | omega | (subst_vars; rfl))
  refine kX_st _ e ?_
  refine kX_ret (i := .ireturn) (len := 1) rfl (Or.inr rfl) rfl ⟨?_, ?_, ?_, D, V, rfl, hD, hV⟩
  · exact congrArg (fun z => some (Value.int z)) h3.2.1
  · exact mLow_trans (mLow_trans (mLow_up σ D (by decide)) (mLow_up _ V (by decide))) (mLow_up _ _ (by decide))
  · exact ⟨h1, h2, h3, h4, h5, Or.inr ⟨rfl, [], ⟨rfl, lst_nil _, fun s h9 => (by cases h9), fun s hss => hs s hss⟩, fun k hk => absurd hk (Nat.not_lt_zero k), Or.inl rfl⟩, h7⟩
