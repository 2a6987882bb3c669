section
/-! the reference: ROLES change, but none that has a session -/
def roF (σ τ : kS) : Prop := ∃ VS V TA E ET SE CL OR SO ON x, τ = va_up (va_up (va_up (va_up (va_up (va_up (va_up (va_up (va_up (va_up (va_up σ 244 VS) 245 V) 246 TA) 247 E) 248 ET) 249 SE) 250 CL) 239 OR) 240 SO) 241 ON) 232 (upd (σ 232) 13 x)
/-- the role r is as it was -/
def roO (σ τ : kS) (r : Nat) : Prop := τ 244 r = σ 244 r ∧ τ 247 r = σ 247 r ∧ τ 250 r = σ 250 r ∧ ∀ k, k < 6 → τ 245 (6 * r + k) = σ 245 (6 * r + k) ∧ τ 246 (6 * r + k) = σ 246 (6 * r + k) ∧ τ 248 (6 * r + k) = σ 248 (6 * r + k) ∧ τ 249 (6 * r + k) = σ 249 (6 * r + k)
def roV (σ τ : kS) (n : Nat) : Prop := ∀ t, t < n → τ 240 t = σ 240 t ∧ τ 241 t = σ 241 t
theorem ro_bdv {σ τ : kS} {r dn k : Nat} (hF : roF σ τ) (hO : roO σ τ r) (hv : fN (σ 244 r) ≤ 6) (hdn : dn ≤ 6) : bdv τ r dn k ↔ bdv σ r dn k := by
  obtain ⟨o1, o2, o3, o4⟩ := hO
  have hk : τ 233 = σ 233 ∧ τ 234 = σ 234 ∧ τ 235 = σ 235 := by
    obtain ⟨VS, V, TA, E, ET, SE, CL, OR, SO, ON, x, rfl⟩ := hF
    exact ⟨rfl, rfl, rfl⟩
  unfold bdv
  rw [o1, hk.1, hk.2.1, hk.2.2]
  refine and_congr_right (fun q => ?_)
  rw [(o4 k (by omega)).1, (o4 k (by omega)).2.1]
  refine or_congr_right ?_
  constructor
  · rintro ⟨e, e1, e2, e3⟩
    rw [(o4 e (by omega)).2.2.1] at e3
    rw [(o4 e (by omega)).2.2.2] at e2
    exact ⟨e, e1, e2, e3⟩
  · rintro ⟨e, e1, e2, e3⟩
    rw [← (o4 e (by omega)).2.2.1] at e3
    rw [← (o4 e (by omega)).2.2.2] at e2
    exact ⟨e, e1, e2, e3⟩
/-- what stays besides -/
theorem ro_c {σ τ : kS} (hF : roF σ τ) : τ 233 = σ 233 ∧ τ 234 = σ 234 ∧ τ 235 = σ 235 ∧ τ 265 = σ 265 ∧ τ 264 = σ 264 ∧ τ 255 = σ 255 ∧ τ 274 = σ 274 ∧ τ 275 = σ 275 ∧ τ 256 = σ 256 := by
  obtain ⟨VS, V, TA, E, ET, SE, CL, OR, SO, ON, x, rfl⟩ := hF
  exact ⟨rfl, rfl, rfl, rfl, rfl, rfl, rfl, rfl, rfl⟩
theorem ro_f {σ τ : kS} (hF : roF σ τ) {j : Nat} (hj : j ≠ 13) : τ 232 j = σ 232 j := by
  obtain ⟨VS, V, TA, E, ET, SE, CL, OR, SO, ON, x, rfl⟩ := hF
  exact pk_un hj
theorem ro_Vz {σ τ : kS} {n R r k : Nat} {x : Int32} (hn : n ≤ 200) (hR : mRo σ n R) (hF : roF σ τ) (hO : roO σ τ r) (hV : roV σ τ n) (hr : r < R) (hk : k < fN (σ 244 r)) (hk6 : k < 6) (hz : mVz σ n r k x) : mVz τ n r k x := by
  obtain ⟨z, z1, z2, z3, z4⟩ := hz
  obtain ⟨c1, c2, c3, -⟩ := ro_c hF
  obtain ⟨t, so, as, t1, t2, -⟩ := hR.2.2.2.1 r k hr hk
  refine ⟨z, z1, z2, by rw [c1, c2, c3]; exact z3, ?_⟩
  rw [(hO.2.2.2 k hk6).1, c1]
  rw [t2, fN_nI (by omega)] at z4 ⊢
  rw [(hV t t1).1]
  exact z4
theorem ro_Sn {σ τ : kS} {n n1 b R R' s dn : Nat} (h : mTb σ n1 b) (hn1 : n ≤ n1) (hR : mRo σ n R) (hRR : R ≤ R') (hF : roF σ τ) (hO : roO σ τ (fN (σ 255 s))) (hV : roV σ τ n) (hS : mSn σ n R s dn) : mSn τ n R' s dn := by
  have hn := h.1
  obtain ⟨r, h1, h2, h3, h4, h5, h6, h7⟩ := hS
  have hR4 := hR.1
  rw [h2, fN_nI (by omega)] at hO
  obtain ⟨⟨v, hv6, hv⟩, ev, he6, hev⟩ := hR.2.2.1 r h1
  have hfv : fN (σ 244 r) = v := by rw [hv]; exact fN_nI (by omega)
  have hfe : fN (σ 247 r) = ev := by rw [hev]; exact fN_nI (by omega)
  obtain ⟨c1, c2, c3, c4, c5, c6, -⟩ := ro_c hF
  refine ⟨r, by omega, by rw [c6]; exact h2, by rw [c5]; exact h3, by rw [hO.2.1]; exact h4, fun k hk => ?_, fun e he => ?_, ?_⟩
  · have := h5 k hk
    unfold mVk at this ⊢
    rw [c4, hO.1, (hO.2.2.2 k hk).2.1, c1, c2, c3, (hO.2.2.2 k hk).1]
    rcases this with q | ⟨z, q1, q2, q3, q4, q5⟩
    · exact Or.inl q
    · obtain ⟨t, so, as, t1, t2, -⟩ := hR.2.2.2.1 r k h1 q4
      refine Or.inr ⟨z, q1, q2, q3, q4, ?_⟩
      rw [t2, fN_nI (by omega)] at q5 ⊢
      rw [(hV t t1).1]
      exact q5
  · obtain ⟨t, t1, t2, -⟩ := hR.2.2.2.2.2 r e h1 (by omega)
    have := h6 e he
    rw [(hO.2.2.2 e (by omega)).2.2.1]
    rw [t2, fN_nI (by omega)] at this ⊢
    intro u hu
    rw [c1, c2, c3] at hu ⊢
    obtain ⟨p, z, p1, p2, p3, p4, p5, p6⟩ := this u hu
    have hu2 := (tvs_mem (mTb_num h) t (by omega) u hu).2.2
    refine ⟨p, z, p1, p2, (hV u (by omega)).2.trans p3, by rw [c4]; exact p4, p5, ?_⟩
    rw [(hV u (by omega)).1]
    exact p6
  · rw [hO.1, c1, c2, c3, c4]
    intro k hk ha hv'
    rw [(hO.2.2.2 k (by omega)).2.1] at ha
    obtain ⟨e, e1, e2, e3⟩ := h7 k hk ha hv'
    exact ⟨e, e1, (hO.2.2.2 e (by omega)).2.2.2.trans e2, by rw [(hO.2.2.2 e (by omega)).2.2.1, (hO.2.2.2 k (by omega)).1]; exact e3⟩
theorem ro_Rn {σ τ : kS} {n n1 b R R' S : Nat} {ds : List Nat} (h : mTb σ n1 b) (hn1 : n ≤ n1) (hR : mRo σ n R) (hRR : R ≤ R') (hF : roF σ τ) (hO : ∀ s, s < S → roO σ τ (fN (σ 255 s))) (hV : roV σ τ n) (hS : mRn σ n R S ds) : mRn τ n R' S ds := by
  obtain ⟨h1, h2, h3, h4⟩ := hS
  refine ⟨(ro_f hF (by decide)).trans h1, ?_, h3, fun s hs => ro_Sn h hn1 hR hRR hF (hO s hs) hV (h4 s hs)⟩
  rw [(ro_c hF).2.2.2.2.2.2.1]
  exact h2
theorem ro_Bi {σ τ : kS} {n R S : Nat} {ds : List Nat} (hR : mRo σ n R) (hF : roF σ τ) (hO : ∀ s, s < S → roO σ τ (fN (σ 255 s))) (hS : mRn σ n R S ds) (hB : mBi σ ds) : mBi τ ds := by
  have hR4 := hR.1
  intro k hk
  obtain ⟨m, m1, m2, m3⟩ := hB k hk
  have hs := hS.2.2.1 _ (List.getElem_mem hk)
  obtain ⟨r, r1, r2, r3, r4, -⟩ := hS.2.2.2 _ hs
  obtain ⟨⟨v, hv6, hv⟩, ev, he6, hev⟩ := hR.2.2.1 r r1
  have hfv : fN (σ 244 r) = v := by rw [hv]; exact fN_nI (by omega)
  have hfe : fN (σ 247 r) = ev := by rw [hev]; exact fN_nI (by omega)
  have hcnt : (ds.take k).count ds[k] < ds.count ds[k] := by
    have := count_take_le ds ds[k] (k + 1)
    rw [List.take_succ_eq_append_getElem hk, List.count_append] at this
    simp at this
    omega
  have hfr : fN (σ 255 ds[k]) = r := by rw [r2]; exact fN_nI (by omega)
  have hO := hO _ hs
  rw [hfr] at hO
  obtain ⟨c1, c2, c3, c4, c5, c6, c7, c8, -⟩ := ro_c hF
  refine ⟨m, m1, by rw [c8]; exact m2, fun p hp => ?_⟩
  rw [m3 p hp, c6, hfr]
  unfold nbv
  rw [ro_bdv hF hO (by omega) (by omega), ro_bdv hF hO (by omega) (by omega)]
theorem ro_Se {σ τ : kS} {n R R' S : Nat} (hn : n ≤ 200) (hR : mRo σ n R) (hRR : R ≤ R') (hF : roF σ τ) (hO : ∀ s, s < S → roO σ τ (fN (σ 255 s))) (hV : roV σ τ n) (hS : mSe σ n R S) : mSe τ n R' S := by
  have hR4 := hR.1
  obtain ⟨h1, h2, h3⟩ := hS
  obtain ⟨c1, c2, c3, c4, c5, c6, c7, c8, c9⟩ := ro_c hF
  refine ⟨h1, (ro_f hF (by decide)).trans h2, fun s hs => ?_⟩
  obtain ⟨r, a1, a2, a3, a4⟩ := h3 s hs
  have hO := hO s hs
  rw [a2, fN_nI (by omega)] at hO
  obtain ⟨⟨v, hv6, hv⟩, -⟩ := hR.2.2.1 r a1
  have hfv : fN (σ 244 r) = v := by rw [hv]; exact fN_nI (by omega)
  refine ⟨r, by omega, by rw [c6]; exact a2, by rw [hO.2.2.1]; exact a3, ?_⟩
  rw [hO.1, c1, c9]
  intro k hk
  obtain ⟨as, b1, b2⟩ := a4 k hk
  obtain ⟨t, so, as', t1, t2, -⟩ := hR.2.2.2.1 r k a1 hk
  refine ⟨as, (hO.2.2.2 k (by omega)).2.1.trans b1, ?_⟩
  rw [(hO.2.2.2 k (by omega)).1]
  rw [t2, fN_nI (by omega)] at b2 ⊢
  rw [(hV t t1).1]
  exact b2
theorem ro_Ak {σ τ : kS} {n R R' S : Nat} (hn : n ≤ 200) (hR : mRo σ n R) (hSe : mSe σ n R S) (hF : roF σ τ) (hO : ∀ s, s < S → roO σ τ (fN (σ 255 s))) (hV : roV σ τ n) (hA : mAk σ n R S) : mAk τ n R' S := by
  have hR4 := hR.1
  obtain ⟨c1, c2, c3, c4, c5, c6, c7, c8, c9⟩ := ro_c hF
  have ca : τ 288 = σ 288 ∧ τ 289 = σ 289 ∧ τ 285 = σ 285 := by
    obtain ⟨VS, V, TA, E, ET, SE, CL, OR, SO, ON, x, rfl⟩ := hF
    exact ⟨rfl, rfl, rfl⟩
  rcases hA with hA | ⟨as, fin, a0, a1, a2, a3, a4⟩
  · exact Or.inl ((ro_f hF (by decide)).trans hA)
  · refine Or.inr ⟨as, fin, a0, (ro_f hF (by decide)).trans a1, by rw [ca.1]; exact a2, ?_, ?_⟩
    · rw [c6, c9]
      intro s hs
      obtain ⟨b1, b2, b3⟩ := a3 s hs
      obtain ⟨r, r1, r2, -⟩ := hSe.2.2 s b1
      have hfr : fN (σ 255 s) = r := by rw [r2]; exact fN_nI (by omega)
      have hO := hO s b1
      obtain ⟨⟨v, hv6, hv⟩, ev, he6, hev⟩ := hR.2.2.1 r r1
      have hfv : fN (σ 244 r) = v := by rw [hv]; exact fN_nI (by omega)
      have hfe : fN (σ 247 r) = ev := by rw [hev]; exact fN_nI (by omega)
      rw [hfr] at b2 b3 hO ⊢
      refine ⟨b1, by rw [hO.2.1]; exact b2, fun k hk hb => ?_⟩
      rw [ro_bdv hF hO (by omega) (by omega)] at hb
      obtain ⟨d1, d2⟩ := b3 k hk hb
      rw [(hO.2.2.2 k hk).2.1]
      exact ⟨ro_Vz hn hR hF hO hV r1 hb.1 hk d1, d2⟩
    · rw [ca.2.1, ca.2.2, c6]
      intro i hi
      obtain ⟨st, s1, s2, s3⟩ := a4 i hi
      obtain ⟨b1, b2, -⟩ := a3 _ (List.getElem_mem hi)
      obtain ⟨r, r1, r2, -⟩ := hSe.2.2 _ b1
      have hfr : fN (σ 255 as[i]) = r := by rw [r2]; exact fN_nI (by omega)
      have hO := hO _ b1
      obtain ⟨⟨v, hv6, hv⟩, ev, he6, hev⟩ := hR.2.2.1 r r1
      have hfv : fN (σ 244 r) = v := by rw [hv]; exact fN_nI (by omega)
      have hfe : fN (σ 247 r) = ev := by rw [hev]; exact fN_nI (by omega)
      have hcnt : (as.take i).count as[i] + 1 ≤ as.count as[i] := by
        have := count_take_le as as[i] (i + 1)
        rw [List.take_succ_eq_append_getElem hi, List.count_append] at this
        simp at this
        omega
      refine ⟨st, s1, s2, fun k hk => ?_⟩
      rw [hfr] at b2 hO
      rw [s3 k hk, hfr]
      rw [propext (ro_bdv hF hO (by omega) (by omega))]
theorem ro_Cl {σ τ : kS} {R R' C : Nat} (hRR : R ≤ R') (hF : roF σ τ) (hv : ∀ r, r < R → fN (σ 244 r) ≤ fN (τ 244 r)) (hC : mCl σ R C) : mCl τ R' C := by
  obtain ⟨h1, h2, h3⟩ := hC
  have ca : τ 258 = σ 258 ∧ τ 259 = σ 259 ∧ τ 257 = σ 257 ∧ τ 260 = σ 260 ∧ τ 261 = σ 261 ∧ τ 262 = σ 262 ∧ τ 263 = σ 263 := by
    obtain ⟨VS, V, TA, E, ET, SE, CL, OR, SO, ON, x, rfl⟩ := hF
    exact ⟨rfl, rfl, rfl, rfl, rfl, rfl, rfl⟩
  obtain ⟨d1, d2, d3, d4, d5, d6, d7⟩ := ca
  refine ⟨h1, (ro_f hF (by decide)).trans h2, ?_⟩
  rw [d1, d2, d3, d4, d5, d6, d7]
  intro c hc
  obtain ⟨b, a, nn, j, b1, b2, b3, b4, b5, b6, b7, b8, b9, b10⟩ := h3 c hc
  refine ⟨b, a, nn, j, by omega, b2, b3, fun q => Nat.lt_of_lt_of_le (b4 q) (hv b b1), fun q => by have := b5 q; omega, b6, b7, b8, b9, fun k hk => ?_⟩
  obtain ⟨x, y, x1, x2, x3, x4⟩ := b10 k hk
  exact ⟨x, y, Nat.lt_of_lt_of_le x1 (hv b b1), Nat.lt_of_lt_of_le x2 (hv a x3), by omega, x4⟩
end
section
/-! the reference: ROLES change, the row stays -/
theorem ro_tin {σ τ : kS} {n n1 b s t : Nat} (h : mTb σ n1 b) (hn1 : n ≤ n1) (hF : roF σ τ) (hV : roV σ τ n) (ht : t < n) : tin τ s t = tin σ s t := by
  obtain ⟨c1, c2, c3, c4, -⟩ := ro_c hF
  unfold tin
  rw [c1, c2, c3]
  have hU : ∀ u, u < n → u < 100000 ∧ tOk (fun u => u < n) (mAG σ n1) (σ 233) (σ 234) (σ 235) u := fun u hu => by
    have hq := mTb_num h u (by omega)
    exact ⟨hq.1, tOk_mono (fun x hx _ => by omega) (fun _ _ q => q) rfl rfl rfl hq.2⟩
  refine tA_congr hU (fun u hu => ⟨rfl, rfl, rfl, ?_⟩) t ht
  unfold mVl
  rw [c4, (hV u hu).2]
theorem ro_trSn {σ τ : kS} {n n1 b R S : Nat} {ds : List Nat} (h : mTb σ n1 b) (hn1 : n ≤ n1) (hR : mRo σ n R) (hF : roF σ τ) (hO : ∀ s, s < S → roO σ τ (fN (σ 255 s))) (hV : roV σ τ n) (hS : mRn σ n R S ds) (tr : trT) : ∀ k, k ≤ ds.length → trSn τ ds tr k = trSn σ ds tr k
  | 0, _ => rfl
  | k + 1, hk => by
    have hn := h.1
    have hR4 := hR.1
    have ih := ro_trSn h hn1 hR hF hO hV hS tr k (by omega)
    have hkl : k < ds.length := hk
    have hgd : ds.getD k 0 = ds[k] := by rw [List.getD_eq_getElem?_getD, List.getElem?_eq_getElem hkl]; rfl
    have hs := hS.2.2.1 _ (List.getElem_mem hkl)
    obtain ⟨r, r1, r2, r3, r4, r5, r6, -⟩ := hS.2.2.2 _ hs
    obtain ⟨-, ev, he6, hev⟩ := hR.2.2.1 r r1
    have hfe : fN (σ 247 r) = ev := by rw [hev]; exact fN_nI (by omega)
    have hcnt : (ds.take k).count ds[k] < ds.count ds[k] := by
      have := count_take_le ds ds[k] (k + 1)
      rw [List.take_succ_eq_append_getElem hkl, List.count_append] at this
      simp at this
      omega
    have hO := hO _ hs
    rw [r2, fN_nI (by omega)] at hO
    obtain ⟨c1, c2, c3, c4, c5, c6, -⟩ := ro_c hF
    have hmev : mEv τ ds[k] ((ds.take k).count ds[k]) = mEv σ ds[k] ((ds.take k).count ds[k]) := by
      unfold mEv
      rw [c6]
    have hmev2 : mEv σ ds[k] ((ds.take k).count ds[k]) = 6 * r + (ds.take k).count ds[k] := by
      unfold mEv
      rw [r2, fN_nI (by omega)]
    obtain ⟨t, t1, t2, -⟩ := hR.2.2.2.2.2 r ((ds.take k).count ds[k]) r1 (by omega)
    have ho := hO.2.2.2 ((ds.take k).count ds[k]) (by omega)
    rw [trSn, trSn, hgd, ih, hmev, hmev2, ho.2.2.2, ho.2.2.1, t2, fN_nI (by omega), ro_tin h hn1 hF hV t1]
theorem ro_trRun {σ τ : kS} {n n1 b R S : Nat} {kl ds : List Nat} (h : mTb σ n1 b) (hn1 : n ≤ n1) (hR : mRo σ n R) (hF : roF σ τ) (hO : ∀ s, s < S → roO σ τ (fN (σ 255 s))) (hV : roV σ τ n) (hS : mRn σ n R S ds) : trRun τ kl ds = trRun σ kl ds := by
  have e := ro_trSn h hn1 hR hF hO hV hS (trKn σ kl) ds.length (Nat.le_refl _)
  obtain ⟨VS, V, TA, E, ET, SE, CL, OR, SO, ON, x, rfl⟩ := hF
  unfold trRun
  rw [← e]
  rfl
theorem ro_Rt {σ τ : kS} {n b R S : Nat} {kl ds : List Nat} (h : mTb σ n b) (hR : mRo σ n R) (hF : roF σ τ) (hO : ∀ s, s < S → roO σ τ (fN (σ 255 s))) (hV : roV σ τ n) (hS : mRn σ n R S ds) (ht : mRt σ n b kl ds) : mRt τ n b kl ds := by
  have e := ro_trRun (kl := kl) h (Nat.le_refl n) hR hF hO hV hS
  obtain ⟨VS, V, TA, E, ET, SE, CL, OR, SO, ON, x, rfl⟩ := hF
  rcases ht with ht | ⟨ht, hb, l, l1, l2, l3⟩
  · exact Or.inl ht
  · refine Or.inr ⟨ht, hb, l, l1, l2, ?_⟩
    rw [e, ← l3]
    rfl
/-- TERMS as they were, ROLES changed -/
theorem mI_ro {σ τ : kS} {n b R R' S C : Nat} {kl : List Nat} (h : mI σ n b R S C kl) (hRR : R ≤ R') (hF : roF σ τ) (hO : ∀ s, s < S → roO σ τ (fN (σ 255 s))) (hV : roV σ τ n) (hT : mTb τ n b) (hRo : mRo τ n R') (hv : ∀ r, r < R → fN (σ 244 r) ≤ fN (τ 244 r)) : mI τ n b R' S C kl := by
  obtain ⟨h1, h2, h3, h4, h5, h6, h7⟩ := h
  have hn := h1.1
  refine ⟨hT, hRo, ro_Se hn h2 hRR hF hO hV h3, ?_, ro_Cl hRR hF hv h5, ?_, ro_Ak hn h2 h3 hF hO hV h7⟩
  · obtain ⟨VS, V, TA, E, ET, SE, CL, OR, SO, ON, x, rfl⟩ := hF
    exact h4
  · rcases h6 with h6 | ⟨h6, ds, g1, g2, g3⟩
    · exact Or.inl ((ro_f hF (by decide)).trans h6)
    · exact Or.inr ⟨(ro_f hF (by decide)).trans h6, ds, ro_Rn h1 (Nat.le_refl n) h2 hRR hF hO hV g1, ro_Bi h2 hF hO g1 g2, ro_Rt h1 h2 hF hO hV g1 g3⟩
theorem mLow_ro {σ τ : kS} (hF : roF σ τ) : mLow σ τ := by
  obtain ⟨VS, V, TA, E, ET, SE, CL, OR, SO, ON, x, rfl⟩ := hF
  intro c hc
  simp only [va_up]
  repeat rw [if_neg (by omega)]
/-- role: what it leaves -/
theorem mRo_role {σ : kS} {n R : Nat} {CL : Nat → Int32} (hR : mRo σ n R) (hR3 : R < 4) : mRo (va_up (va_up (va_up (va_up σ 244 (upd (σ 244) R 0)) 247 (upd (σ 247) R 0)) 250 CL) 232 (upd (σ 232) 13 (nI (R + 1)))) n (R + 1) := by
  obtain ⟨h1, h2, h3, h4, h5, h6⟩ := hR
  have hvn : ∀ r, r < R → upd (σ 244) R 0 r = σ 244 r := fun r hr => pk_un (by omega)
  have hen : ∀ r, r < R → upd (σ 247) R 0 r = σ 247 r := fun r hr => pk_un (by omega)
  have f0 : fN 0 = 0 := rfl
  refine ⟨by omega, rfl, fun r hr => ?_, fun r k hr hk => ?_, fun t ht hk => ?_, fun r e hr he => ?_⟩
  · show (∃ v, v ≤ 6 ∧ upd (σ 244) R 0 r = nI v) ∧ ∃ e, e ≤ 6 ∧ upd (σ 247) R 0 r = nI e
    by_cases hrR : r = R
    · subst hrR
      rw [pk_us, pk_us]
      exact ⟨⟨0, by omega, rfl⟩, 0, by omega, rfl⟩
    · rw [hvn r (by omega), hen r (by omega)]
      exact h3 r (by omega)
  · change k < fN (upd (σ 244) R 0 r) at hk
    by_cases hrR : r = R
    · subst hrR
      rw [pk_us, f0] at hk
      omega
    · rw [hvn r (by omega)] at hk
      exact h4 r k (by omega) hk
  · obtain ⟨r, k, r1, k1, k2⟩ := h5 t ht hk
    refine ⟨r, k, by omega, ?_, k2⟩
    show k < fN (upd (σ 244) R 0 r)
    rw [hvn r r1]
    exact k1
  · change e < fN (upd (σ 247) R 0 r) at he
    by_cases hrR : r = R
    · subst hrR
      rw [pk_us, f0] at he
      omega
    · rw [hen r (by omega)] at he
      exact h6 r e (by omega) he
set_option maxRecDepth 100000 in
set_option maxHeartbeats 4000000 in
theorem mp_role (L : Nat) (xs : Nat → Int32) (d : Nat) (σ : kS) (n b R S C : Nat) (kl : List Nat) (h : mI σ n b R S C kl) : kXM kT L xs (d + 1) 162 [.ref 232] σ (fun r σ' => (R = 4 ∧ r = some (.int (-4)) ∧ σ = σ') ∨ (R < 4 ∧ r = some (.int (nI R)) ∧ mAfter σ σ' (R + 1))) := by
  have h2 := h.2.1
  have hR4 := h2.1
  have hr := h2.2.1
  unfold kXM
  repeat refine kX_one rfl ?_
  refine kX_if (fun q => ?_) (fun q => ?_)
  · have q : R ≠ 4 := fun e => qne q (by rw [hr, e]; decide)
    repeat refine kX_one rfl ?_
    refine kX_iastN rfl rfl (by decide) (R) (hr) (by omega) ?_
    repeat refine kX_one rfl ?_
    refine kX_iastN rfl rfl (by decide) (R) (hr) (by omega) ?_
    repeat refine kX_one rfl ?_
    refine kX_bastN rfl rfl (by decide) (R) (hr) (by omega) (Or.inl rfl) ?_
    repeat refine kX_one rfl ?_
    have e1 : σ 232 13 + 1 = nI (R + 1) := by rw [hr]; exact (nI_succ R).symm
    refine kX_st (va_up (va_up (va_up (va_up σ 244 (upd (σ 244) R 0)) 247 (upd (σ 247) R 0)) 250 (upd (σ 250) R 0)) 232 (upd (σ 232) 13 (nI (R + 1)))) ?_ ?_
    · rw [← e1]
      rfl
    refine kX_ret (i := .ireturn) (len := 1) rfl (Or.inr rfl) rfl (Or.inr ⟨by omega, ?_, ?_⟩)
    · show some (Value.int (σ 232 13 + 1 - 1)) = _
      rw [Int32.add_sub_cancel, hr]
    · have hF : roF σ (va_up (va_up (va_up (va_up σ 244 (upd (σ 244) R 0)) 247 (upd (σ 247) R 0)) 250 (upd (σ 250) R 0)) 232 (upd (σ 232) 13 (nI (R + 1)))) := by
        refine ⟨upd (σ 244) R 0, σ 245, σ 246, upd (σ 247) R 0, σ 248, σ 249, upd (σ 250) R 0, σ 239, σ 240, σ 241, nI (R + 1), ?_⟩
        funext c; unfold  va_up; repeat' split
        all_goals first | rfl | omega | (subst_vars; rfl) | (funext j; unfold upd; repeat' split; all_goals first | rfl | omega | (subst_vars; rfl))
      refine ⟨mLow_ro hF, n, b, S, C, kl, mI_ro h (by omega) hF (fun s hs => ?_) (fun t ht => ⟨rfl, rfl⟩) h.1 (mRo_role h2 (by omega)) (fun r hr => ?_)⟩
      · obtain ⟨r, r1, r2, -⟩ := h.2.2.1.2.2 s hs
        rw [r2, fN_nI (by omega)]
        exact ⟨pk_un (by omega), pk_un (by omega), pk_un (by omega), fun k hk => ⟨rfl, rfl, rfl, rfl⟩⟩
      · show _ ≤ fN (upd (σ 244) R 0 r)
        rw [pk_un (by omega)]
        exact Nat.le_refl _
  · have q : R = 4 := nI_inj (hr.symm.trans (qneF q))
    repeat refine kX_one rfl ?_
    refine kX_ret (i := .ireturn) (len := 1) rfl (Or.inr rfl) rfl (Or.inl ⟨q, rfl, rfl⟩)
end
section
/-! the reference: one VARIABLE more -/
theorem mI_var {σ σ1 ρ : kS} {n b R S C : Nat} {kl : List Nat} (h : mI σ n b R S C kl) (hG : mGr σ σ1 n) (hr0 : ρ 232 47 = 0) (hF : roF σ1 ρ) (hO : ∀ s, s < S → roO σ1 ρ (fN (σ1 255 s))) (hV : roV σ1 ρ n) (hT1 : mTb σ1 (n + 1) 200) (hT : mTb ρ (n + 1) 200) (hRo : mRo ρ (n + 1) R) (hv : ∀ r, r < R → fN (σ1 244 r) ≤ fN (ρ 244 r)) : mI ρ (n + 1) 200 R S C kl := by
  obtain ⟨h1, h2, h3, h4, h5, h6, h7⟩ := h
  have hn := h1.1
  have hR1 := mGr_Ro h1 hG h2
  have hS1 := mGr_Se h1 hG h3
  have hn1 : n ≤ n + 1 := by omega
  refine ⟨hT, hRo, mSe_up hn1 (ro_Se hn hR1 (Nat.le_refl R) hF hO hV hS1), ?_, ro_Cl (Nat.le_refl R) hF hv (mGr_Cl hG h5), ?_, mAk_up hn1 (ro_Ak hn hR1 hS1 hF hO hV (mGr_Ak h1 h2 h3 hG h7))⟩
  · have := mKn_up hn1 (mGr_Kn h1 hG h4)
    obtain ⟨VS, V, TA, E, ET, SE, CL, OR, SO, ON, x, rfl⟩ := hF
    exact this
  · rcases h6 with h6 | ⟨h6, ds, g1, g2, g3⟩
    · exact Or.inl ((ro_f hF (by decide)).trans ((hG.2.1 _ (by decide)).trans h6))
    · have g1' := mGr_Rn h1 h2 hG g1
      exact Or.inr ⟨(ro_f hF (by decide)).trans ((hG.2.1 _ (by decide)).trans h6), ds, mRn_up hn1 (ro_Rn hT1 hn1 hR1 (Nat.le_refl R) hF hO hV g1'), ro_Bi hR1 hF hO g1' (mGr_Bi h1 h2 hG g1 g2), Or.inl hr0⟩
def vaS (σ : kS) (n r v : Nat) (so as : Int32) : kS := va_up (va_up (va_up (va_up (va_up (va_up σ 239 (upd (σ 239) n (nI r))) 240 (upd (σ 240) n so)) 241 (upd (σ 241) n (nI v))) 245 (upd (σ 245) (6 * r + v) (nI n))) 246 (upd (σ 246) (6 * r + v) as)) 244 (upd (σ 244) r (nI (v + 1)))
theorem mTb_va {σ : kS} {n r v : Nat} {so as : Int32} (h : mTb σ (n + 1) 200) (hn : n < 200) : mTb (vaS σ n r v so as) (n + 1) 200 := by
  obtain ⟨h1, h2, h3, h4, h5, h6, h7⟩ := h
  refine ⟨h1, h2, h3, h4, h5, ⟨fun t ht => ?_, h6.2⟩, h7⟩
  have q := h6.1 t ht
  refine ⟨q.1, tOk_mono (fun _ _ p => p) (fun y hy p => ?_) rfl rfl rfl q.2⟩
  refine ⟨p.1, p.2.elim Or.inl (fun z => Or.inr ⟨z.1, ?_⟩)⟩
  show upd (σ 240) n so y = nI 0
  have ht' : t < n + 1 := by unfold mv at ht; omega
  rw [pk_un (by omega)]
  exact z.2
theorem roF_va (σ : kS) (n r v : Nat) (so as : Int32) : roF σ (vaS σ n r v so as) := by
  refine ⟨upd (σ 244) r (nI (v + 1)), upd (σ 245) (6 * r + v) (nI n), upd (σ 246) (6 * r + v) as, σ 247, σ 248, σ 249, σ 250, upd (σ 239) n (nI r), upd (σ 240) n so, upd (σ 241) n (nI v), σ 232 13, ?_⟩
  funext c; unfold vaS va_up; repeat' split
  all_goals first | rfl | omega | (subst_vars; rfl) | (funext j; unfold upd; repeat' split; all_goals first | rfl | omega | (subst_vars; rfl))
theorem mRo_va {σ : kS} {n b r v R so as : Nat} (hT : mTb σ (n + 1) b) (hR : mRo σ n R) (hn : n < 200) (hk : σ 233 n = nI 3) (hr : r < R) (hv : σ 244 r = nI v) (hv6 : v < 6) (hso : so ≤ 3) (has : as ≤ 2) (h0 : as = 0 → so = 0) (h01 : as = 1 → so = 1 ∨ so = 2) : mRo (vaS σ n r v (nI so) (nI as)) (n + 1) R := by
  obtain ⟨h1, h2, h3, h4, h5, h6⟩ := hR
  have hvn : ∀ r', r' ≠ r → upd (σ 244) r (nI (v + 1)) r' = σ 244 r' := fun r' q => pk_un q
  have hfv : fN (σ 244 r) = v := by rw [hv]; exact fN_nI (by omega)
  have hfv1 : fN (nI (v + 1)) = v + 1 := fN_nI (by omega)
  have hidx : ∀ r' k, r' < R → k < fN (σ 244 r') → 6 * r' + k ≠ 6 * r + v := fun r' k hr' hk' e => by
    obtain ⟨⟨w, hw6, hw⟩, -⟩ := h3 r' hr'
    rw [hw, fN_nI (by omega)] at hk'
    have : r' = r := by omega
    subst this
    have : w = v := nI_inj (hw.symm.trans hv)
    omega
  have hold : ∀ r' k, r' < R → k < fN (σ 244 r') → ∃ t so' as', t < n + 1 ∧ upd (σ 245) (6 * r + v) (nI n) (6 * r' + k) = nI t ∧ σ 233 t = nI 3 ∧ upd (σ 239) n (nI r) t = nI r' ∧ upd (σ 241) n (nI v) t = nI k ∧ so' ≤ 3 ∧ upd (σ 240) n (nI so) t = nI so' ∧ as' ≤ 2 ∧ upd (σ 246) (6 * r + v) (nI as) (6 * r' + k) = nI as' ∧ (as' = 0 → so' = 0) ∧ (as' = 1 → so' = 1 ∨ so' = 2) := fun r' k hr' hk' => by
    obtain ⟨t, so, as, a1, a2, a3, a4, a5, a6, a7, a8, a9⟩ := h4 r' k hr' hk'
    refine ⟨t, so, as, by omega, ?_, a3, ?_, ?_, a6, ?_, a8, ?_, a9.2⟩
    · rw [pk_un (hidx r' k hr' hk')]; exact a2
    · rw [pk_un (by omega)]; exact a4
    · rw [pk_un (by omega)]; exact a5
    · rw [pk_un (by omega)]; exact a7
    · rw [pk_un (hidx r' k hr' hk')]; exact a9.1
  refine ⟨h1, h2, fun r' hr' => ⟨?_, (h3 r' hr').2⟩, fun r' k hr' hk' => ?_, fun t ht hkt => ?_, fun r' e hr' he => ?_⟩
  · show ∃ w, w ≤ 6 ∧ upd (σ 244) r (nI (v + 1)) r' = nI w
    by_cases e : r' = r
    · subst e
      rw [pk_us]
      exact ⟨v + 1, by omega, rfl⟩
    · rw [hvn r' e]
      exact (h3 r' hr').1
  · change k < fN (upd (σ 244) r (nI (v + 1)) r') at hk'
    by_cases e : r' = r ∧ k = v
    · obtain ⟨rfl, rfl⟩ := e
      exact ⟨n, so, as, by omega, pk_us, hk, pk_us, pk_us, hso, pk_us, has, pk_us, h0, h01⟩
    · refine hold r' k hr' ?_
      by_cases e2 : r' = r
      · subst e2
        rw [pk_us, hfv1] at hk'
        rw [hfv]
        omega
      · rw [hvn r' e2] at hk'
        exact hk'
  · by_cases e : t = n
    · subst e
      refine ⟨r, v, hr, ?_, pk_us⟩
      show v < fN (upd (σ 244) r (nI (v + 1)) r)
      rw [pk_us, hfv1]
      omega
    · obtain ⟨r', k, a1, a2, a3⟩ := h5 t (by omega) hkt
      refine ⟨r', k, a1, ?_, ?_⟩
      · show k < fN (upd (σ 244) r (nI (v + 1)) r')
        by_cases e2 : r' = r
        · subst e2
          rw [pk_us, hfv1]
          rw [hfv] at a2
          omega
        · rw [hvn r' e2]
          exact a2
      · show upd (σ 245) (6 * r + v) (nI n) (6 * r' + k) = nI t
        rw [pk_un (hidx r' k a1 a2)]
        exact a3
  · obtain ⟨t, t1, t2, t3, t4⟩ := h6 r' e hr' he
    have hlt : ∀ u ∈ tvs (σ 233) (σ 234) (σ 235) t, u < n := fun u hu => by
      have := (tvs_mem (mTb_num hT) t (by omega) u hu).2.2
      omega
    refine ⟨t, by omega, t2, fun u hu => ?_, fun hs u hu ha => ?_⟩
    · show upd (σ 239) n (nI r) u = nI r'
      have := hlt u hu
      rw [pk_un (by omega)]
      exact t3 u hu
    · change upd (σ 246) (6 * r + v) (nI as) (6 * r' + fN (upd (σ 241) n (nI v) u)) = nI 2 at ha
      have hun := hlt u hu
      rw [show upd (σ 241) n (nI v) u = σ 241 u from pk_un (by omega)] at ha
      obtain ⟨r2, k, a1, a2, a3⟩ := h5 u hun (tvs_mem (mTb_num hT) t (by omega) u hu).2.1
      obtain ⟨t', so', as', b1, b2, b3, b4, b5, -⟩ := h4 r2 k a1 a2
      obtain rfl : u = t' := nI_inj (a3.symm.trans b2)
      obtain rfl : r2 = r' := nI_inj (b4.symm.trans (t3 u hu))
      obtain ⟨⟨w, hw6, hw⟩, -⟩ := h3 r2 a1
      have hk6 : k < 6 := by rw [hw, fN_nI (by omega)] at a2; omega
      have e5 : fN (σ 241 u) = k := by rw [b5]; exact fN_nI (by omega)
      rw [e5, pk_un (hidx r2 k a1 a2)] at ha
      exact t4 hs u hu (by rw [e5]; exact ha)

set_option maxRecDepth 100000 in
set_option maxHeartbeats 4000000 in
theorem mp_variable (L : Nat) (xs : Nat → Int32) (d : Nat) (σ : kS) (n b R S C : Nat) (kl : List Nat) (x y z : Int32) (h : mI σ n b R S C kl) : kXM kT L xs (d + 5) 163 [.ref 232, .int x, .int y, .int z] σ (fun r σ' => (∃ x, r = some (.int x)) ∧ mAfter σ σ' R) := by
  have h1 := h.1
  have h2 := h.2.1
  have h3 := h.2.2.1
  have hn := h1.1
  have hR4 := h2.1
  unfold kXM
  repeat refine kX_one rfl ?_
  refine kX_cal (mr_isRole L xs (d + 3) σ R x h2.2.1 (by omega)) rfl (Or.inr rfl) rfl rfl rfl (fun r1 σ1 q1 => ?_)
  obtain ⟨rfl, rfl⟩ := q1
  repeat refine kX_one rfl ?_
  refine kX_if (fun q => ?_) (fun q => ?_)
  · obtain ⟨r, hr, rfl⟩ := isB_ne.mp (qne q)
    obtain ⟨⟨v, hv6, hv⟩, ev, he6, hev⟩ := h2.2.2.1 r hr
    have hfv : fN (σ 244 r) = v := by rw [hv]; exact fN_nI (by omega)
    have key : ∀ as so, as ≤ 2 → so ≤ 3 → (as = 0 → so = 0) → (as = 1 → so = 1 ∨ so = 2) → kX kT L xs (d + 5) 163 52 [(0, .ref 232), (1, .int (nI r)), (2, .int (nI as)), (3, .int (nI so))] [] σ (fun r σ' => (∃ x, r = some (.int x)) ∧ mAfter σ σ' R) := by
      intro as so has hso h0 h01
      repeat refine kX_one rfl ?_
      refine kX_baldN rfl rfl (by decide) (r) (by first | rfl | decide) (by omega) ?_
      repeat refine kX_one rfl ?_
      refine kX_if (fun q => ?_) (fun q => ?_)
      · have hcl : σ 250 r = 0 := qeq q
        repeat refine kX_one rfl ?_
        refine kX_ialdV rfl rfl (by decide) (r) (by first | rfl | decide) (by omega) (hv) ?_
        repeat refine kX_one rfl ?_
        refine kX_if (fun q => ?_) (fun q => ?_)
        · repeat refine kX_one rfl ?_
          refine kX_ret (i := .ireturn) (len := 1) rfl (Or.inr rfl) rfl (⟨⟨_, rfl⟩, mAfter_same h⟩)
        · have hv6' : v ≠ 6 := fun e => qeqF q (by rw [e]; rfl)
          repeat refine kX_one rfl ?_
          refine kX_if (fun q => ?_) (fun q => ?_)
          · have hn200 : n ≠ 200 := fun e => qne q (by rw [h1.2.2.2.1, e]; decide)
            repeat refine kX_one rfl ?_
            refine kX_cal (mr_last L xs (d + 1) σ n b 3 (-1) (-1) 0 0 h1 (by omega) (Or.inl ⟨by omega, rfl, rfl⟩) (by omega) (by omega) (by omega) (show nI 1 ≤ nI 24 by decide)) rfl (Or.inr rfl) rfl rfl rfl (fun r1 σ1 q1 => ?_)
            obtain ⟨rfl, hnew⟩ := q1
            have hG := mGr_new hnew
            have hr0 := mNw_rit hnew
            have hT1 : mTb σ1 (n + 1) 200 := by
              obtain ⟨_, _, _, _, _, _, q⟩ := hnew
              exact q
            have hk3 : σ1 233 n = nI 3 := by
              obtain ⟨_, _, _, _, _, rfl, _⟩ := hnew
              exact pk_us
            have c := fun c (hc : c ∉ rowC) => hG.1 c hc
            have hv1 : σ1 244 r = nI v := by rw [c 244 (by decide)]; exact hv
            repeat refine kX_one rfl ?_
            refine kX_ialdV rfl rfl (by decide) (r) (by first | rfl | decide) (by omega) (hv1) ?_
            repeat refine kX_one rfl ?_
            refine kX_iastN rfl rfl (by decide) (n) (by first | rfl | decide) (by omega) ?_
            repeat refine kX_one rfl ?_
            refine kX_iastN rfl rfl (by decide) (n) (by first | rfl | decide) (by omega) ?_
            repeat refine kX_one rfl ?_
            refine kX_iastN rfl rfl (by decide) (n) (by first | rfl | decide) (by omega) ?_
            repeat refine kX_one rfl ?_
            refine kX_iastN rfl rfl (by decide) (6 * r + v) (ix6 r v) (by omega) ?_
            repeat refine kX_one rfl ?_
            refine kX_iastN rfl rfl (by decide) (6 * r + v) (ix6 r v) (by omega) ?_
            repeat refine kX_one rfl ?_
            refine kX_ialdV rfl rfl (by decide) (r) (by first | rfl | decide) (by omega) (hv1) ?_
            repeat refine kX_one rfl ?_
            refine kX_iastN rfl rfl (by decide) (r) (by first | rfl | decide) (by omega) ?_
            repeat refine kX_one rfl ?_
            refine kX_st (vaS σ1 n r v (nI so) (nI as)) ?_ ?_
            · rw [vaS, nI_succ v]
              rfl
            have hF := roF_va σ1 n r v (nI so) (nI as)
            refine kX_ret (i := .ireturn) (len := 1) rfl (Or.inr rfl) rfl (⟨⟨_, rfl⟩, mLow_trans (mLow_gr hG) (mLow_ro hF), n + 1, 200, S, C, kl, mI_var h hG hr0 hF (fun s hs => ?_) (fun t ht => ⟨pk_un (by omega), pk_un (by omega)⟩) hT1 (mTb_va hT1 (by omega)) (mRo_va hT1 (mGr_Ro h1 hG h2) (by omega) hk3 hr hv1 (by omega) hso has h0 h01) (fun r' hr' => ?_)⟩)
            · obtain ⟨r', r1, r2, r3, -⟩ := h3.2.2 s hs
              rw [c 255 (by decide), r2, fN_nI (by omega)]
              have hne : r' ≠ r := fun e => r3 (by rw [e]; exact hcl)
              exact ⟨pk_un hne, rfl, rfl, fun k hk => ⟨pk_un (by omega), pk_un (by omega), rfl, rfl⟩⟩
            · show _ ≤ fN (upd (σ1 244) r (nI (v + 1)) r')
              by_cases e : r' = r
              · subst e
                rw [pk_us, hv1, fN_nI (by omega), fN_nI (by omega)]
                omega
              · rw [pk_un e]
                exact Nat.le_refl _
          · repeat refine kX_one rfl ?_
            refine kX_ret (i := .ireturn) (len := 1) rfl (Or.inr rfl) rfl (⟨⟨_, rfl⟩, mAfter_same h⟩)
      · repeat refine kX_one rfl ?_
        refine kX_ret (i := .ireturn) (len := 1) rfl (Or.inr rfl) rfl (⟨⟨_, rfl⟩, mAfter_same h⟩)
    have k35 : kX kT L xs (d + 5) 163 35 [(0, .ref 232), (1, .int (nI r)), (2, .int y), (3, .int z)] [] σ (fun r σ' => (∃ x, r = some (.int x)) ∧ mAfter σ σ' R) := by
      repeat refine kX_one rfl ?_
      refine kX_if (fun q => ?_) (fun q => ?_)
      · repeat refine kX_one rfl ?_
        refine kX_ret (i := .ireturn) (len := 1) rfl (Or.inr rfl) rfl (⟨⟨_, rfl⟩, mAfter_same h⟩)
      · obtain rfl : y = nI 2 := qneF q
        repeat refine kX_one rfl ?_
        refine kX_cal (mr_in L xs (d + 4) σ _ _ _) rfl (Or.inr rfl) rfl rfl rfl (fun r1 σ1 q1 => ?_)
        obtain ⟨rfl, rfl⟩ := q1
        rw [isB_dec]
        repeat refine kX_one rfl ?_
        refine kX_if (fun q => ?_) (fun q => ?_)
        · repeat refine kX_one rfl ?_
          refine kX_ret (i := .ireturn) (len := 1) rfl (Or.inr rfl) rfl (⟨⟨_, rfl⟩, mAfter_same h⟩)
        · obtain ⟨k, k1, k2, rfl⟩ := in_R (lo := 0) (hi := 3) (by omega) (by omega) (isB_ne.mp (qeqF q)).1 (isB_ne.mp (qeqF q)).2
          exact key 2 k (by omega) k2 (by omega) (by omega)
    have k18 : kX kT L xs (d + 5) 163 18 [(0, .ref 232), (1, .int (nI r)), (2, .int y), (3, .int z)] [] σ (fun r σ' => (∃ x, r = some (.int x)) ∧ mAfter σ σ' R) := by
      repeat refine kX_one rfl ?_
      refine kX_if (fun q => ?_) (fun q => ?_)
      · exact k35
      · obtain rfl : y = nI 1 := qneF q
        repeat refine kX_one rfl ?_
        refine kX_cal (mr_in L xs (d + 4) σ _ _ _) rfl (Or.inr rfl) rfl rfl rfl (fun r1 σ1 q1 => ?_)
        obtain ⟨rfl, rfl⟩ := q1
        rw [isB_dec]
        repeat refine kX_one rfl ?_
        refine kX_if (fun q => ?_) (fun q => ?_)
        · obtain ⟨k, k1, k2, rfl⟩ := in_R (lo := 1) (hi := 2) (by omega) (by omega) (isB_ne.mp (qne q)).1 (isB_ne.mp (qne q)).2
          exact key 1 k (by omega) (by omega) (by omega) (by omega)
        · exact k35
    repeat refine kX_one rfl ?_
    refine kX_if (fun q => ?_) (fun q => ?_)
    · exact k18
    · obtain rfl : y = nI 0 := qneF q
      repeat refine kX_one rfl ?_
      refine kX_if (fun q => ?_) (fun q => ?_)
      · obtain rfl : z = nI 0 := qeq q
        exact key 0 0 (by omega) (by omega) (by omega) (by omega)
      · exact k18
  · repeat refine kX_one rfl ?_
    refine kX_ret (i := .ireturn) (len := 1) rfl (Or.inr rfl) rfl (⟨⟨_, rfl⟩, mAfter_same h⟩)
end
section
/-! the reference: about -/
set_option maxRecDepth 100000 in
set_option maxHeartbeats 4000000 in
theorem mp_about (L : Nat) (xs : Nat → Int32) (d : Nat) (σ : kS) (n b R S C : Nat) (kl : List Nat) (x y : Int32) (h : mI σ n b R S C kl) : kXM kT L xs (d + 2) 160 [.ref 232, .int x, .int y] σ (fun r σ' => (∃ x, r = some (.int x)) ∧ mAfter σ σ' R) := by
  have h1 := h.1
  have hn := h1.1
  unfold kXM
  repeat refine kX_one rfl ?_
  refine kX_cal (mr_isTerm L xs d σ n x h1.2.2.2.1 (by omega)) rfl (Or.inr rfl) rfl rfl rfl (fun r1 σ1 q1 => ?_)
  obtain ⟨rfl, rfl⟩ := q1
  repeat refine kX_one rfl ?_
  refine kX_if (fun q => ?_) (fun q => ?_)
  · obtain ⟨t, ht, rfl⟩ := isB_ne.mp (qne q)
    have key : ∀ w, kX kT L xs (d + 2) 160 26 [(3, .int w), (0, .ref 232), (1, .int (nI t)), (2, .int y)] [] σ (fun r σ' => (∃ x, r = some (.int x)) ∧ mAfter σ σ' R) := by
      intro w
      by_cases hy : ∃ k, k < 9 ∧ y = nI k
      · obtain ⟨k, hk, rfl⟩ := hy
        have : k = 0 ∨ k = 1 ∨ k = 2 ∨ k = 3 ∨ k = 4 ∨ k = 5 ∨ k = 6 ∨ k = 7 ∨ k = 8 := by omega
        rcases this with rfl | rfl | rfl | rfl | rfl | rfl | rfl | rfl | rfl
        · repeat refine kX_one rfl ?_
          refine kX_ialdN rfl rfl (by decide) (t) (by first | rfl | decide) (by omega) ?_
          repeat refine kX_one rfl ?_
          refine kX_ret (i := .ireturn) (len := 1) rfl (Or.inr rfl) rfl (⟨⟨_, rfl⟩, mAfter_same h⟩)
        · repeat refine kX_one rfl ?_
          refine kX_ialdN rfl rfl (by decide) (t) (by first | rfl | decide) (by omega) ?_
          repeat refine kX_one rfl ?_
          refine kX_if (fun q => ?_) (fun q => ?_)
          · repeat refine kX_one rfl ?_
            refine kX_ialdN rfl rfl (by decide) (t) (by first | rfl | decide) (by omega) ?_
            repeat refine kX_one rfl ?_
            refine kX_ret (i := .ireturn) (len := 1) rfl (Or.inr rfl) rfl (⟨⟨_, rfl⟩, mAfter_same h⟩)
          · repeat refine kX_one rfl ?_
            refine kX_ret (i := .ireturn) (len := 1) rfl (Or.inr rfl) rfl (⟨⟨_, rfl⟩, mAfter_same h⟩)
        · repeat refine kX_one rfl ?_
          refine kX_ialdN rfl rfl (by decide) (t) (by first | rfl | decide) (by omega) ?_
          repeat refine kX_one rfl ?_
          refine kX_if (fun q => ?_) (fun q => ?_)
          · repeat refine kX_one rfl ?_
            refine kX_ialdN rfl rfl (by decide) (t) (by first | rfl | decide) (by omega) ?_
            repeat refine kX_one rfl ?_
            refine kX_ret (i := .ireturn) (len := 1) rfl (Or.inr rfl) rfl (⟨⟨_, rfl⟩, mAfter_same h⟩)
          · repeat refine kX_one rfl ?_
            refine kX_ret (i := .ireturn) (len := 1) rfl (Or.inr rfl) rfl (⟨⟨_, rfl⟩, mAfter_same h⟩)
        · repeat refine kX_one rfl ?_
          refine kX_ialdN rfl rfl (by decide) (t) (by first | rfl | decide) (by omega) ?_
          repeat refine kX_one rfl ?_
          refine kX_ret (i := .ireturn) (len := 1) rfl (Or.inr rfl) rfl (⟨⟨_, rfl⟩, mAfter_same h⟩)
        · repeat refine kX_one rfl ?_
          refine kX_baldN rfl rfl (by decide) (t) (by first | rfl | decide) (by omega) ?_
          repeat refine kX_one rfl ?_
          refine kX_if (fun q => ?_) (fun q => ?_)
          · repeat refine kX_one rfl ?_
            refine kX_ret (i := .ireturn) (len := 1) rfl (Or.inr rfl) rfl (⟨⟨_, rfl⟩, mAfter_same h⟩)
          · repeat refine kX_one rfl ?_
            refine kX_ret (i := .ireturn) (len := 1) rfl (Or.inr rfl) rfl (⟨⟨_, rfl⟩, mAfter_same h⟩)
        · repeat refine kX_one rfl ?_
          refine kX_ialdN rfl rfl (by decide) (t) (by first | rfl | decide) (by omega) ?_
          repeat refine kX_one rfl ?_
          refine kX_if (fun q => ?_) (fun q => ?_)
          · repeat refine kX_one rfl ?_
            refine kX_baldN rfl rfl (by decide) (t) (by first | rfl | decide) (by omega) ?_
            repeat refine kX_one rfl ?_
            refine kX_if (fun q => ?_) (fun q => ?_)
            · repeat refine kX_one rfl ?_
              refine kX_ret (i := .ireturn) (len := 1) rfl (Or.inr rfl) rfl (⟨⟨_, rfl⟩, mAfter_same h⟩)
            · repeat refine kX_one rfl ?_
              refine kX_ret (i := .ireturn) (len := 1) rfl (Or.inr rfl) rfl (⟨⟨_, rfl⟩, mAfter_same h⟩)
          · repeat refine kX_one rfl ?_
            refine kX_ret (i := .ireturn) (len := 1) rfl (Or.inr rfl) rfl (⟨⟨_, rfl⟩, mAfter_same h⟩)
        · repeat refine kX_one rfl ?_
          refine kX_if (fun q => ?_) (fun q => ?_)
          · repeat refine kX_one rfl ?_
            refine kX_ret (i := .ireturn) (len := 1) rfl (Or.inr rfl) rfl (⟨⟨_, rfl⟩, mAfter_same h⟩)
          · repeat refine kX_one rfl ?_
            refine kX_ialdN rfl rfl (by decide) (t) (by first | rfl | decide) (by omega) ?_
            repeat refine kX_one rfl ?_
            refine kX_ret (i := .ireturn) (len := 1) rfl (Or.inr rfl) rfl (⟨⟨_, rfl⟩, mAfter_same h⟩)
        · repeat refine kX_one rfl ?_
          refine kX_if (fun q => ?_) (fun q => ?_)
          · repeat refine kX_one rfl ?_
            refine kX_ret (i := .ireturn) (len := 1) rfl (Or.inr rfl) rfl (⟨⟨_, rfl⟩, mAfter_same h⟩)
          · repeat refine kX_one rfl ?_
            refine kX_ialdN rfl rfl (by decide) (t) (by first | rfl | decide) (by omega) ?_
            repeat refine kX_one rfl ?_
            refine kX_ret (i := .ireturn) (len := 1) rfl (Or.inr rfl) rfl (⟨⟨_, rfl⟩, mAfter_same h⟩)
        · repeat refine kX_one rfl ?_
          refine kX_if (fun q => ?_) (fun q => ?_)
          · repeat refine kX_one rfl ?_
            refine kX_ret (i := .ireturn) (len := 1) rfl (Or.inr rfl) rfl (⟨⟨_, rfl⟩, mAfter_same h⟩)
          · repeat refine kX_one rfl ?_
            refine kX_ialdN rfl rfl (by decide) (t) (by first | rfl | decide) (by omega) ?_
            repeat refine kX_one rfl ?_
            refine kX_ret (i := .ireturn) (len := 1) rfl (Or.inr rfl) rfl (⟨⟨_, rfl⟩, mAfter_same h⟩)
      · iterate 1 (refine kX_one rfl ?_)
        refine kX_tabO rfl (kp_out 9 (fun k hk e => hy ⟨k, hk, e⟩) (by decide)) rfl ?_
        repeat refine kX_one rfl ?_
        refine kX_ret (i := .ireturn) (len := 1) rfl (Or.inr rfl) rfl (⟨⟨_, rfl⟩, mAfter_same h⟩)
    repeat refine kX_one rfl ?_
    refine kX_ialdN rfl rfl (by decide) (t) (by first | rfl | decide) (by omega) ?_
    repeat refine kX_one rfl ?_
    refine kX_if (fun q => ?_) (fun q => ?_)
    · iterate 2 (refine kX_one rfl ?_)
      exact key 0
    · iterate 3 (refine kX_one rfl ?_)
      exact key 1
  · repeat refine kX_one rfl ?_
    refine kX_ret (i := .ireturn) (len := 1) rfl (Or.inr rfl) rfl (⟨⟨_, rfl⟩, mAfter_same h⟩)
end
section
/-! the reference: isReceived, event -/
set_option maxRecDepth 100000 in
set_option maxHeartbeats 4000000 in
theorem mr_rc_in (L : Nat) (xs : Nat → Int32) (d : Nat) (σ : kS) (W ST : Nat → Int32) (acc : List Nat) (e r t : Nat) (hl : lst ST acc) (ha : acc.length ≤ 24) (ht : t < 1000) (h1000 : ∀ x ∈ acc, x < 1000) (Q : Option Value → kS → Prop)
    (he : kX kT L xs (d + 1) 165 90 [(3, .int (isB (t ∈ acc))), (4, .int (nI e)), (0, .ref 232), (1, .int (nI r)), (2, .int (nI t))] [] (fvS σ W ST (nI acc.length)) Q) :
    ∀ k : Nat, k ≤ acc.length → kX kT L xs (d + 1) 165 54 [(5, .int (nI k)), (3, .int (isB (∃ i, i < k ∧ acc[i]? = some t))), (4, .int (nI e)), (0, .ref 232), (1, .int (nI r)), (2, .int (nI t))] [] (fvS σ W ST (nI acc.length)) Q := by
  refine kX_while (fun k : Nat => [(5, .int (nI k)), (3, .int (isB (∃ i, i < k ∧ acc[i]? = some t))), (4, .int (nI e)), (0, .ref 232), (1, .int (nI r)), (2, .int (nI t))]) (fun _ => fvS σ W ST (nI acc.length)) _ (fun k => acc.length - k) ?_
  intro k hk ih
  iterate 3 (refine kX_one rfl ?_)
  repeat refine kX_one rfl ?_
  refine kX_if (fun q => ?_) (fun q => ?_)
  · have q := qge q k acc.length
    have e : isB (∃ i, i < k ∧ acc[i]? = some t) = isB (t ∈ acc) := by
      have : (∃ i, i < k ∧ acc[i]? = some t) ↔ t ∈ acc := by
        rw [List.mem_iff_getElem?]
        exact ⟨fun ⟨i, _, h⟩ => ⟨i, h⟩, fun ⟨i, h⟩ => ⟨i, by have := (List.getElem?_eq_some_iff.mp h).1; omega, h⟩⟩
      rw [propext this]
    rw [e]
    refine kX_lv ([(3, .int (isB (t ∈ acc))), (4, .int (nI _)), (0, .ref 232), (1, .int (nI r)), (2, .int (nI t))]) rfl rfl rfl ?_
    exact he
  · have q := qgeF q k acc.length
    have hgo : ∀ v : Int32, v = isB (∃ i, i < k + 1 ∧ acc[i]? = some t) → kX kT L xs (d + 1) 165 83 [(5, .int (nI k)), (3, .int (isB (∃ i, i < k ∧ acc[i]? = some t))), (4, .int (nI e)), (0, .ref 232), (1, .int (nI r)), (2, .int (nI t))] [.int v] (fvS σ W ST (nI acc.length)) Q := by
      intro v hv
      subst hv
      iterate 3 (refine kX_one rfl ?_)
      have := ih (k + 1) q (by omega)
      rw [← nI_1] at this
      refine kX_lv _ rfl rfl rfl this
    iterate 1 (refine kX_one rfl ?_)
    repeat refine kX_one rfl ?_
    refine kX_if (fun q2 => ?_) (fun q2 => ?_)
    · have q2 := isB_ne.mp (qne q2)
      obtain ⟨i, hi, hi2⟩ := q2
      iterate 2 (refine kX_one rfl ?_)
      exact hgo _ (isB_T ⟨i, by omega, hi2⟩).symm
    · have q2 : ¬ ∃ i, i < k ∧ acc[i]? = some t := fun h => isB_ne.mpr h (qneF q2)
      repeat refine kX_one rfl ?_
      refine kX_ialdN rfl rfl (by decide) (k) (by first | rfl | decide) (by omega) ?_
      iterate 1 (refine kX_one rfl ?_)
      have hk2 : ST k = nI acc[k] := hl k q
      have hlt := h1000 acc[k] (List.getElem_mem q)
      repeat refine kX_one rfl ?_
      refine kX_if (fun q3 => ?_) (fun q3 => ?_)
      · have q3 : ST k ≠ nI t := qne q3
        iterate 1 (refine kX_one rfl ?_)
        refine hgo _ (isB_F ?_).symm
        rintro ⟨i, hi, hi2⟩
        by_cases e : i = k
        · subst e
          rw [List.getElem?_eq_getElem q] at hi2
          rw [hk2, Option.some.inj hi2] at q3
          exact q3 rfl
        · exact q2 ⟨i, by omega, hi2⟩
      · have q3 : ST k = nI t := qneF q3
        iterate 2 (refine kX_one rfl ?_)
        refine hgo _ (isB_T ⟨k, by omega, ?_⟩).symm
        rw [List.getElem?_eq_getElem q]
        exact congrArg some (nI_inj (hk2.symm.trans q3))
theorem ddl_mem {x : Nat} : ∀ (l acc : List Nat), x ∈ ddl acc l ↔ x ∈ acc ∨ x ∈ l
  | [], acc => by simp [ddl]
  | a :: l, acc => by
    rw [ddl_cons, ddl_mem l]
    by_cases h : a ∈ acc
    · rw [if_pos h, List.mem_cons]
      constructor
      · rintro (q | q)
        · exact Or.inl q
        · exact Or.inr (Or.inr q)
      · rintro (q | q | q)
        · exact Or.inl q
        · subst q
          exact Or.inl h
        · exact Or.inr q
    · rw [if_neg h, List.mem_append, List.mem_singleton, List.mem_cons]
      exact ⟨fun q => q.elim (fun q => q.elim Or.inl (fun q => Or.inr (Or.inl q))) (fun q => Or.inr (Or.inr q)), fun q => q.elim (fun q => Or.inl (Or.inl q)) (fun q => q.elim (fun q => Or.inl (Or.inr q)) Or.inr)⟩
/-- the VARIABLE u comes in one of the first e EVENTS of the role r that receive -/
def rcv (σ : kS) (r e u : Nat) : Prop := ∃ e', e' < e ∧ σ 249 (6 * r + e') = 0 ∧ u ∈ tvs (σ 233) (σ 234) (σ 235) (fN (σ 248 (6 * r + e')))
theorem mTb_fv {σ : kS} {n b : Nat} {W ST : Nat → Int32} {m : Int32} (h : mTb σ n b) : mTb (fvS σ W ST m) n b := h
set_option maxRecDepth 100000 in
set_option maxHeartbeats 4000000 in
theorem mr_isReceived (L : Nat) (xs : Nat → Int32) (d : Nat) (σ : kS) (n b R r u : Nat) (h : mTb σ n b) (hR : mRo σ n R) (hr : r < R) (hu : u < n) : kXM kT L xs (d + 2) 165 [.ref 232, .int (nI r), .int (nI u)] σ (fun x σ' => x = some (.int (isB (rcv σ r (fN (σ 247 r)) u))) ∧ ∃ W ST m, σ' = fvS σ W ST m) := by
  have hn := h.1
  have hR4 := hR.1
  obtain ⟨-, ev, he6, hev⟩ := hR.2.2.1 r hr
  have hfe : fN (σ 247 r) = ev := by rw [hev]; exact fN_nI (by omega)
  rw [hfe]
  unfold kXM
  iterate 4 (refine kX_one rfl ?_)
  have loop := kX_while (T := kT) (L := L) (xs := xs) (d := d + 2) (mi := 165) (pc := 5) (Q := fun x σ' => x = some (.int (isB (rcv σ r ev u))) ∧ ∃ W ST m, σ' = fvS σ W ST m)
    (fun q : Nat × (Nat → Int32) × (Nat → Int32) × Int32 => [(4, .int (nI q.1)), (3, .int (isB (rcv σ r q.1 u))), (0, .ref 232), (1, .int (nI r)), (2, .int (nI u))])
    (fun q => fvS σ q.2.1 q.2.2.1 q.2.2.2)
    (fun q => q.1 ≤ ev)
    (fun q => ev - q.1) ?_ (0, σ 252, σ 251, σ 232 22) (Nat.zero_le _)
  · refine kX_to _ _ rfl rfl ?_ ?_ loop
    · have e0 : isB (rcv σ r 0 u) = 0 := isB_F (fun ⟨e', q, _⟩ => by omega)
      dsimp only
      rw [e0]
      rfl
    · funext c; unfold fvS va_up; repeat' split
      all_goals first | rfl | omega | (subst_vars; rfl) | (funext j; unfold upd; repeat' split; all_goals first | rfl | omega | (subst_vars; rfl))
  · rintro ⟨e, W, ST, m⟩ i1 ih
    dsimp only at i1 ih ⊢
    iterate 4 (refine kX_one rfl ?_)
    refine kX_ialdV rfl rfl (by decide) r rfl (by omega) (show fvS σ W ST m 247 r = nI ev from hev) ?_
    repeat refine kX_one rfl ?_
    refine kX_if (fun q => ?_) (fun q => ?_)
    · have q := qge q e ev
      obtain rfl : e = ev := by omega
      repeat refine kX_one rfl ?_
      refine kX_ret (i := .ireturn) (len := 1) rfl (Or.inr rfl) (jend_b rfl (isB_01 _)) (⟨rfl, W, ST, m, rfl⟩)
    · have q := qgeF q e ev
      iterate 1 (refine kX_one rfl ?_)
      repeat refine kX_one rfl ?_
      refine kX_if (fun q2 => ?_) (fun q2 => ?_)
      · obtain ⟨e', e1, e2⟩ := isB_ne.mp (qne q2)
        repeat refine kX_one rfl ?_
        refine kX_ret (i := .ireturn) (len := 1) rfl (Or.inr rfl) (jend_b rfl (isB_01 _)) (⟨by rw [isB_T ⟨e', e1, e2⟩, isB_T ⟨e', by omega, e2⟩], W, ST, m, rfl⟩)
      · have q2 : ¬ rcv σ r e u := fun z => isB_ne.mpr z (qneF q2)
        obtain ⟨t, t1, t2, -⟩ := hR.2.2.2.2.2 r e hr (by omega)
        have back : ∀ (W' ST' : Nat → Int32) (m' : Int32), kX kT L xs (d + 2) 165 90 [(3, .int (isB (rcv σ r (e + 1) u))), (4, .int (nI e)), (0, .ref 232), (1, .int (nI r)), (2, .int (nI u))] [] (fvS σ W' ST' m') (fun x σ' => x = some (.int (isB (rcv σ r ev u))) ∧ ∃ W ST m, σ' = fvS σ W ST m) := by
          intro W' ST' m'
          iterate 2 (refine kX_one rfl ?_)
          have := ih (e + 1, W', ST', m') q (by simp only; omega)
          dsimp only at this
          rw [← nI_1] at this
          refine kX_lv _ rfl rfl rfl this
        iterate 7 (refine kX_one rfl ?_)
        refine kX_baldN rfl rfl (by decide) (6 * r + e) (ix6 r e) (by omega) ?_
        repeat refine kX_one rfl ?_
        refine kX_if (fun q3 => ?_) (fun q3 => ?_)
        · have q3 : σ 249 (6 * r + e) ≠ 0 := qne q3
          have e2 : isB (rcv σ r e u) = isB (rcv σ r (e + 1) u) := congrArg isB (propext ⟨fun z => absurd z q2, fun ⟨e', z1, z2, z3⟩ => ⟨e', by
            have : e' ≠ e := fun ee => q3 (by rw [← ee]; exact z2)
            omega, z2, z3⟩⟩)
          rw [e2]
          exact kX_lv _ rfl rfl rfl (back W ST m)
        · have q3 : σ 249 (6 * r + e) = 0 := qneF q3
          iterate 8 (refine kX_one rfl ?_)
          refine kX_ialdV rfl rfl (by decide) (6 * r + e) (ix6 r e) (by omega) (show fvS σ W ST m 248 (6 * r + e) = nI t from t2) ?_
          refine kX_cal (mr_findVariables L xs d _ n b t (mTb_fv h) t1) rfl (Or.inr rfl) rfl rfl rfl (fun r1 σ1 q1 => ?_)
          obtain ⟨rfl, W', ST', q1, g1, g2⟩ := q1
          subst q1
          iterate 2 (refine kX_one rfl ?_)
          have hin := mr_rc_in L xs (d + 1) σ W' ST' (ddl [] (tvs (σ 233) (σ 234) (σ 235) t)) e r u g1 g2 (by omega) (fun x hx => by
            rcases (ddl_mem _ _).mp hx with hx | hx
            · cases hx
            · have := (tvs_mem (mTb_num h) t t1 x hx).2.2
              omega) _ (by
            have e3 : isB (u ∈ ddl [] (tvs (σ 233) (σ 234) (σ 235) t)) = isB (rcv σ r (e + 1) u) := by
              refine congrArg isB (propext ?_)
              rw [ddl_mem]
              constructor
              · rintro (z | z)
                · cases z
                · exact ⟨e, by omega, q3, by rw [t2, fN_nI (by omega)]; exact z⟩
              · rintro ⟨e', z1, z2, z3⟩
                by_cases ee : e' = e
                · subst ee
                  rw [t2, fN_nI (by omega)] at z3
                  exact Or.inr z3
                · exact absurd ⟨e', by omega, z2, z3⟩ q2
            rw [e3]
            exact back W' ST' _) 0 (Nat.zero_le _)
          have e4 : isB (∃ i, i < 0 ∧ (ddl [] (tvs (σ 233) (σ 234) (σ 235) t))[i]? = some u) = isB (rcv σ r e u) := congrArg isB (propext ⟨fun ⟨i, z, _⟩ => by omega, fun z => absurd z q2⟩)
          rw [e4] at hin
          refine kX_to _ _ rfl rfl rfl ?_ hin
          funext c; unfold fvS va_up; repeat' split
          all_goals first | rfl | omega | (subst_vars; rfl) | (funext j; unfold upd; repeat' split; all_goals first | rfl | omega | (subst_vars; rfl))
end
section
/-! the reference: event -/
def evS (σ : kS) (W ST : Nat → Int32) (m : Int32) (A : Nat → Int32) : kS := va_up (fvS σ W ST m) 253 A
theorem mFr_ev (σ : kS) (n : Nat) (W ST : Nat → Int32) (m : Int32) (A : Nat → Int32) : mFr σ (evS σ W ST m A) n := by
  refine ⟨fun c hc => ?_, fun j hj => ?_, fun u hu => ⟨rfl, rfl, rfl⟩⟩
  · simp only [rowC, List.mem_cons, List.not_mem_nil, or_false, not_or] at hc
    simp [evS, fvS, va_up, hc]
  · simp only [rowJ, List.mem_cons, List.not_mem_nil, or_false, not_or] at hj
    show upd (σ 232) 22 m j = _
    exact pk_un hj.2.2.2.2.2.1
theorem mI_ev {σ : kS} {n b R S C : Nat} {kl : List Nat} (h : mI σ n b R S C kl) (W ST : Nat → Int32) (m : Int32) (A : Nat → Int32) : mI (evS σ W ST m A) n b R S C kl := by
  have h0 := h
  obtain ⟨h1, h2, h3, h4, h5, h6, h7⟩ := h
  have hF := mFr_ev σ n W ST m A
  refine mI_fr h0 hF h1 ?_
  rcases h6 with h6 | ⟨h6, ds, g1, g2, g3⟩
  · exact Or.inl h6
  · refine Or.inr ⟨h6, ds, mFr_Rn h1 h2 hF g1, mFr_Bi h1 h2 hF g1 g2, ?_⟩
    rcases g3 with g3 | ⟨g3, g4, l, l1, l2, l3⟩
    · exact Or.inl g3
    · refine Or.inr ⟨g3, g4, l, l1, l2, ?_⟩
      rw [mFr_trRun h1 h2 hF h4 g1, ← l3]
      rfl
/-- one EVENT more -/
def evN (σ : kS) (r e : Nat) (t y : Int32) : kS := va_up (va_up (va_up σ 248 (upd (σ 248) (6 * r + e) t)) 249 (upd (σ 249) (6 * r + e) y)) 247 (upd (σ 247) r (nI (e + 1)))
theorem roF_ev (σ : kS) (r e : Nat) (t y : Int32) : roF σ (evN σ r e t y) := by
  refine ⟨σ 244, σ 245, σ 246, upd (σ 247) r (nI (e + 1)), upd (σ 248) (6 * r + e) t, upd (σ 249) (6 * r + e) y, σ 250, σ 239, σ 240, σ 241, σ 232 13, ?_⟩
  funext c; unfold evN va_up; repeat' split
  all_goals first | rfl | omega | (subst_vars; rfl) | (funext j; unfold upd; repeat' split; all_goals first | rfl | omega | (subst_vars; rfl))
theorem mRo_ev {σ : kS} {n r e R t : Nat} {y : Int32} (hR : mRo σ n R) (hr : r < R) (he : σ 247 r = nI e) (he6 : e < 6) (ht : t < n) (hu : ∀ u ∈ tvs (σ 233) (σ 234) (σ 235) t, σ 239 u = nI r ∧ (y ≠ 0 → σ 246 (6 * r + fN (σ 241 u)) = nI 2 → rcv σ r e u)) : mRo (evN σ r e (nI t) y) n R := by
  obtain ⟨h1, h2, h3, h4, h5, h6⟩ := hR
  have hfe : fN (σ 247 r) = e := by rw [he]; exact fN_nI (by omega)
  have hfe1 : fN (nI (e + 1)) = e + 1 := fN_nI (by omega)
  have hidx : ∀ r' k, r' < R → k < fN (σ 247 r') → 6 * r' + k ≠ 6 * r + e := fun r' k hr' hk' ee => by
    obtain ⟨-, w, hw6, hw⟩ := h3 r' hr'
    rw [hw, fN_nI (by omega)] at hk'
    have : r' = r := by omega
    subst this
    have : w = e := nI_inj (hw.symm.trans he)
    omega
  refine ⟨h1, h2, fun r' hr' => ⟨(h3 r' hr').1, ?_⟩, h4, h5, fun r' k hr' hk' => ?_⟩
  · show ∃ w, w ≤ 6 ∧ upd (σ 247) r (nI (e + 1)) r' = nI w
    by_cases ee : r' = r
    · subst ee
      rw [pk_us]
      exact ⟨e + 1, by omega, rfl⟩
    · rw [pk_un ee]
      exact (h3 r' hr').2
  · change k < fN (upd (σ 247) r (nI (e + 1)) r') at hk'
    by_cases ee : r' = r ∧ k = e
    · obtain ⟨rfl, rfl⟩ := ee
      refine ⟨t, ht, pk_us, fun u q => (hu u q).1, fun hs u q ha => ?_⟩
      change upd (σ 249) (6 * r' + k) y (6 * r' + k) ≠ 0 at hs
      rw [pk_us] at hs
      obtain ⟨e', e1, e2, e3⟩ := (hu u q).2 hs ha
      refine ⟨e', e1, ?_, ?_⟩
      · show upd (σ 249) (6 * r' + k) y (6 * r' + e') = 0
        rw [pk_un (by omega)]
        exact e2
      · show u ∈ tvs (σ 233) (σ 234) (σ 235) (fN (upd (σ 248) (6 * r' + k) (nI t) (6 * r' + e')))
        rw [pk_un (by omega)]
        exact e3
    · have hk2 : k < fN (σ 247 r') := by
        by_cases e2 : r' = r
        · subst e2
          rw [pk_us, hfe1] at hk'
          rw [hfe]
          omega
        · rw [pk_un e2] at hk'
          exact hk'
      obtain ⟨t', a1, a2, a3, a4⟩ := h6 r' k hr' hk2
      refine ⟨t', a1, ?_, a3, fun hs u q ha => ?_⟩
      · show upd (σ 248) (6 * r + e) (nI t) (6 * r' + k) = nI t'
        rw [pk_un (hidx r' k hr' hk2)]
        exact a2
      · change upd (σ 249) (6 * r + e) y (6 * r' + k) ≠ 0 at hs
        rw [pk_un (hidx r' k hr' hk2)] at hs
        obtain ⟨e', e1, e2, e3⟩ := a4 hs u q ha
        refine ⟨e', e1, ?_, ?_⟩
        · show upd (σ 249) (6 * r + e) y (6 * r' + e') = 0
          rw [pk_un (hidx r' e' hr' (by omega))]
          exact e2
        · show u ∈ tvs (σ 233) (σ 234) (σ 235) (fN (upd (σ 248) (6 * r + e) (nI t) (6 * r' + e')))
          rw [pk_un (hidx r' e' hr' (by omega))]
          exact e3
def okU (σ : kS) (r ev : Nat) (y : Int32) (u : Nat) : Prop := σ 239 u = nI r ∧ (y ≠ 0 → σ 246 (6 * r + fN (σ 241 u)) = nI 2 → rcv σ r ev u)
set_option maxRecDepth 100000 in
set_option maxHeartbeats 4000000 in
theorem mp_event (L : Nat) (xs : Nat → Int32) (d : Nat) (σ : kS) (n b R S C : Nat) (kl : List Nat) (x y z : Int32) (hy : y = 0 ∨ y = 1) (h : mI σ n b R S C kl) : kXM kT L xs (d + 3) 166 [.ref 232, .int x, .int y, .int z] σ (fun r σ' => (∃ x, r = some (.int x)) ∧ mAfter σ σ' R) := by
  have h1 := h.1
  have h2 := h.2.1
  have h3 := h.2.2.1
  have hn := h1.1
  have hR4 := h2.1
  unfold kXM
  repeat refine kX_one rfl ?_
  refine kX_cal (mr_isRole L xs (d + 1) σ R x h2.2.1 (by omega)) rfl (Or.inr rfl) rfl rfl rfl (fun r1 σ1 q1 => ?_)
  obtain ⟨rfl, rfl⟩ := q1
  repeat refine kX_one rfl ?_
  refine kX_if (fun q => ?_) (fun q => ?_)
  · repeat refine kX_one rfl ?_
    refine kX_ret (i := .ireturn) (len := 1) rfl (Or.inr rfl) rfl (⟨⟨_, rfl⟩, mAfter_same h⟩)
  · obtain ⟨r, hr, rfl⟩ := isB_ne.mp (qeqF q)
    repeat refine kX_one rfl ?_
    refine kX_cal (mr_isTerm L xs (d + 1) σ n z h1.2.2.2.1 (by omega)) rfl (Or.inr rfl) rfl rfl rfl (fun r1 σ1 q1 => ?_)
    obtain ⟨rfl, rfl⟩ := q1
    repeat refine kX_one rfl ?_
    refine kX_if (fun q => ?_) (fun q => ?_)
    · obtain ⟨t, ht, rfl⟩ := isB_ne.mp (qne q)
      obtain ⟨-, ev, he6, hev⟩ := h2.2.2.1 r hr
      have hfe : fN (σ 247 r) = ev := by rw [hev]; exact fN_nI (by omega)
      repeat refine kX_one rfl ?_
      refine kX_baldN rfl rfl (by decide) (r) (by first | rfl | decide) (by omega) ?_
      repeat refine kX_one rfl ?_
      refine kX_if (fun q => ?_) (fun q => ?_)
      · have hcl : σ 250 r = 0 := qeq q
        repeat refine kX_one rfl ?_
        refine kX_ialdV rfl rfl (by decide) (r) (by first | rfl | decide) (by omega) (hev) ?_
        repeat refine kX_one rfl ?_
        refine kX_if (fun q => ?_) (fun q => ?_)
        · have hev6 : ev ≠ 6 := fun e => qne q (by rw [e]; rfl)
          repeat refine kX_one rfl ?_
          refine kX_cal (mr_findVariables L xs (d + 1) σ n b t h1 ht) rfl (Or.inr rfl) rfl rfl rfl (fun r1 σ1 q1 => ?_)
          obtain ⟨rfl, W, ST, rfl, g1, g2⟩ := q1
          generalize hacc : ddl [] (tvs (σ 233) (σ 234) (σ 235) t) = acc at g1 g2
          have hmem : ∀ u, u ∈ acc ↔ u ∈ tvs (σ 233) (σ 234) (σ 235) t := fun u => by
            rw [← hacc, ddl_mem]
            exact ⟨fun q => q.elim (fun q => by cases q) id, Or.inr⟩
          have hlt : ∀ u ∈ acc, u < n := fun u q => by
            have := (tvs_mem (mTb_num h1) t ht u ((hmem u).mp q)).2.2
            omega
          have loop2 : ∀ (A : Nat → Int32), (∀ i (hi : i < acc.length), A i = nI acc[i]) → ∀ q : Nat × (Nat → Int32) × (Nat → Int32) × Int32, (q.1 ≤ acc.length ∧ ∀ i (hi : i < acc.length), i < q.1 → okU σ r ev y acc[i]) → kX kT L xs (d + 3) 166 88 [(5, .int (nI q.1)), (4, .int (nI acc.length)), (0, .ref 232), (1, .int (nI r)), (2, .int y), (3, .int (nI t))] [] (evS σ q.2.1 q.2.2.1 q.2.2.2 A) (fun r σ' => (∃ x, r = some (.int x)) ∧ mAfter σ σ' R) := by
            intro A hA
            refine kX_while (fun q : Nat × (Nat → Int32) × (Nat → Int32) × Int32 => [(5, .int (nI q.1)), (4, .int (nI acc.length)), (0, .ref 232), (1, .int (nI r)), (2, .int y), (3, .int (nI t))]) (fun q => evS σ q.2.1 q.2.2.1 q.2.2.2 A) _ (fun q => acc.length - q.1) ?_
            rintro ⟨k, W', ST', m'⟩ ⟨i1, i2⟩ ih
            dsimp only at i1 i2 ih ⊢
            have hI := mI_ev h W' ST' m' A
            have bad : mAfter σ (evS σ W' ST' m' A) R := ⟨mLow_fr (mFr_ev σ n W' ST' m' A), n, b, S, C, kl, hI⟩
            iterate 2 (refine kX_one rfl ?_)
            repeat refine kX_one rfl ?_
            refine kX_if (fun q => ?_) (fun q => ?_)
            · have q := qge q k acc.length
              repeat refine kX_one rfl ?_
              refine kX_ialdV rfl rfl (by decide) (r) (by first | rfl | decide) (by omega) (hev) ?_
              repeat refine kX_one rfl ?_
              refine kX_iastN rfl rfl (by decide) (6 * r + ev) (ix6 r ev) (by omega) ?_
              repeat refine kX_one rfl ?_
              refine kX_ialdV rfl rfl (by decide) (r) (by first | rfl | decide) (by omega) (hev) ?_
              repeat refine kX_one rfl ?_
              refine kX_bastN rfl rfl (by decide) (6 * r + ev) (ix6 r ev) (by omega) (hy) ?_
              repeat refine kX_one rfl ?_
              refine kX_ialdV rfl rfl (by decide) (r) (by first | rfl | decide) (by omega) (hev) ?_
              repeat refine kX_one rfl ?_
              refine kX_iastN rfl rfl (by decide) (r) (by first | rfl | decide) (by omega) ?_
              repeat refine kX_one rfl ?_
              refine kX_ialdN rfl rfl (by decide) (r) (by first | rfl | decide) (by omega) ?_
              refine kX_st (evN (evS σ W' ST' m' A) r ev (nI t) y) ?_ ?_
              · rw [evN, nI_succ ev]
                rfl
              have hF := roF_ev (evS σ W' ST' m' A) r ev (nI t) y
              refine kX_ret (i := .ireturn) (len := 1) rfl (Or.inr rfl) rfl (⟨⟨_, rfl⟩, mLow_trans (mLow_fr (mFr_ev σ n W' ST' m' A)) (mLow_ro hF), n, b, S, C, kl, mI_ro hI (Nat.le_refl R) hF (fun s hs => ?_) (fun t ht => ⟨rfl, rfl⟩) h1 (mRo_ev hI.2.1 hr hev (by omega) ht (fun u hu => ?_)) (fun _ _ => Nat.le_refl _)⟩)
              · obtain ⟨r', r1, r2, r3, -⟩ := h3.2.2 s hs
                rw [show evS σ W' ST' m' A 255 s = nI r' from r2, fN_nI (by omega)]
                have hne : r' ≠ r := fun e => r3 (by rw [e]; exact hcl)
                exact ⟨rfl, pk_un hne, rfl, fun k hk => ⟨rfl, rfl, pk_un (by omega), pk_un (by omega)⟩⟩
              · obtain ⟨i, hi, rfl⟩ := List.mem_iff_getElem.mp ((hmem u).mpr hu)
                exact i2 i hi (by omega)
            · have q := qgeF q k acc.length
              have hku := hlt acc[k] (List.getElem_mem q)
              generalize hu : acc[k] = u at hku
              have back : ∀ (W' ST' : Nat → Int32) (m' : Int32) (w : Value), okU σ r ev y u → kX kT L xs (d + 3) 166 153 [(6, w), (5, .int (nI k)), (4, .int (nI acc.length)), (0, .ref 232), (1, .int (nI r)), (2, .int y), (3, .int (nI t))] [] (evS σ W' ST' m' A) (fun r σ' => (∃ x, r = some (.int x)) ∧ mAfter σ σ' R) := by
                intro W' ST' m' w hok
                iterate 2 (refine kX_one rfl ?_)
                have := ih (k + 1, W', ST', m') ⟨q, fun i hi hik => by
                  by_cases e : i = k
                  · subst e
                    rw [hu]
                    exact hok
                  · exact i2 i hi (by simp only at hik; omega)⟩ (by simp only; omega)
                dsimp only at this
                rw [← nI_1] at this
                exact kX_lv _ rfl rfl rfl this
              repeat refine kX_one rfl ?_
              refine kX_ialdV rfl rfl (by decide) k rfl (by omega) (show A k = nI u by rw [hA k q, hu]) ?_
              repeat refine kX_one rfl ?_
              refine kX_ialdN rfl rfl (by decide) (u) (by first | rfl | decide) (by omega) ?_
              repeat refine kX_one rfl ?_
              refine kX_if (fun q => ?_) (fun q => ?_)
              · repeat refine kX_one rfl ?_
                refine kX_ret (i := .ireturn) (len := 1) rfl (Or.inr rfl) rfl (⟨⟨_, rfl⟩, bad⟩)
              · have qr : σ 239 u = nI r := qneF q
                have hut : u ∈ tvs (σ 233) (σ 234) (σ 235) t := (hmem u).mp (by rw [← hu]; exact List.getElem_mem _)
                obtain ⟨r', p, a1, a2, a3⟩ := h2.2.2.2.2.1 u hku (tvs_mem (mTb_num h1) t ht u hut).2.1
                obtain ⟨t', so', as', b1, b2, b3, b4, b5, -⟩ := h2.2.2.2.1 r' p a1 a2
                obtain rfl : u = t' := nI_inj (a3.symm.trans b2)
                obtain rfl : r' = r := nI_inj (b4.symm.trans qr)
                obtain ⟨⟨v, hv6, hv⟩, -⟩ := h2.2.2.1 r' hr
                have hp6 : p < 6 := by rw [hv, fN_nI (by omega)] at a2; omega
                have hfp : fN (σ 241 u) = p := by rw [b5]; exact fN_nI (by omega)
                repeat refine kX_one rfl ?_
                refine kX_if (fun q => ?_) (fun q => ?_)
                · refine kX_lv _ rfl rfl rfl (back W' ST' m' (.int (nI u)) ⟨qr, fun z => absurd (qeq q) z⟩)
                · repeat refine kX_one rfl ?_
                  refine kX_ialdV rfl rfl (by decide) (u) (by first | rfl | decide) (by omega) (b5) ?_
                  repeat refine kX_one rfl ?_
                  refine kX_ialdN rfl rfl (by decide) (6 * r' + p) (ix6 r' p) (by omega) ?_
                  repeat refine kX_one rfl ?_
                  refine kX_if (fun q2 => ?_) (fun q2 => ?_)
                  · refine kX_lv _ rfl rfl rfl (back W' ST' m' (.int (nI u)) ⟨qr, fun _ z => absurd (by rw [hfp] at z; exact z) (qne q2)⟩)
                  · repeat refine kX_one rfl ?_
                    refine kX_cal (mr_isReceived L xs d (evS σ W' ST' m' A) n b R r' u h1 hI.2.1 hr hku) rfl (Or.inr rfl) rfl rfl rfl (fun r1 σ1 q1 => ?_)
                    obtain ⟨rfl, W2, ST2, m2, rfl⟩ := q1
                    have e2 : fvS (evS σ W' ST' m' A) W2 ST2 m2 = evS σ W2 ST2 m2 A := by
                      funext c; unfold evS fvS va_up; repeat' split
                      all_goals first | rfl | omega | (subst_vars; rfl) | (funext j; unfold upd; repeat' split; all_goals first | rfl | omega | (subst_vars; rfl))
                    rw [e2]
                    repeat refine kX_one rfl ?_
                    refine kX_if (fun q3 => ?_) (fun q3 => ?_)
                    · have q3 : rcv σ r' (fN (σ 247 r')) u := isB_ne.mp (qne q3)
                      rw [hfe] at q3
                      refine kX_lv _ rfl rfl rfl (back W2 ST2 m2 (.int (nI u)) ⟨qr, fun _ _ => q3⟩)
                    · repeat refine kX_one rfl ?_
                      refine kX_ret (i := .ireturn) (len := 1) rfl (Or.inr rfl) rfl (⟨⟨_, rfl⟩, mLow_fr (mFr_ev σ n W2 ST2 m2 A), n, b, S, C, kl, mI_ev h W2 ST2 m2 A⟩)
          have loop1 : ∀ q : Nat × (Nat → Int32), (q.1 ≤ acc.length ∧ ∀ i (hi : i < acc.length), i < q.1 → q.2 i = nI acc[i]) → kX kT L xs (d + 3) 166 58 [(5, .int (nI q.1)), (4, .int (nI acc.length)), (0, .ref 232), (1, .int (nI r)), (2, .int y), (3, .int (nI t))] [] (evS σ W ST (nI acc.length) q.2) (fun r σ' => (∃ x, r = some (.int x)) ∧ mAfter σ σ' R) := by
            refine kX_while (fun q : Nat × (Nat → Int32) => [(5, .int (nI q.1)), (4, .int (nI acc.length)), (0, .ref 232), (1, .int (nI r)), (2, .int y), (3, .int (nI t))]) (fun q => evS σ W ST (nI acc.length) q.2) _ (fun q => acc.length - q.1) ?_
            rintro ⟨k, A⟩ ⟨i1, i2⟩ ih
            dsimp only at i1 i2 ih ⊢
            iterate 2 (refine kX_one rfl ?_)
            repeat refine kX_one rfl ?_
            refine kX_if (fun q => ?_) (fun q => ?_)
            · have q := qge q k acc.length
              iterate 2 (refine kX_one rfl ?_)
              exact kX_lv _ rfl rfl rfl (loop2 A (fun i hi => i2 i hi (by omega)) (0, W, ST, nI acc.length) ⟨Nat.zero_le _, fun i hi hz => absurd hz (Nat.not_lt_zero i)⟩)
            · have q := qgeF q k acc.length
              repeat refine kX_one rfl ?_
              refine kX_ialdV rfl rfl (by decide) k rfl (by omega) (show ST k = nI acc[k] from g1 k q) ?_
              refine kX_iastN rfl rfl (by decide) (k) (by first | rfl | decide) (by omega) ?_
              iterate 2 (refine kX_one rfl ?_)
              have := ih (k + 1, upd A k (nI acc[k])) ⟨q, fun i hi hik => by
                by_cases e : i = k
                · subst e
                  exact pk_us
                · simp only at hik ⊢
                  rw [pk_un e]
                  exact i2 i hi (by omega)⟩ (by simp only; omega)
              dsimp only at this
              rw [← nI_1] at this
              refine kX_to _ _ rfl rfl rfl ?_ this
              funext c; unfold evS fvS va_up; repeat' split
              all_goals first | rfl | omega | (subst_vars; rfl) | (funext j; unfold upd; repeat' split; all_goals first | rfl | omega | (subst_vars; rfl))
          iterate 5 (refine kX_one rfl ?_)
          refine kX_to _ _ rfl rfl rfl ?_ (loop1 (0, σ 253) ⟨Nat.zero_le _, fun i hi hz => absurd hz (Nat.not_lt_zero i)⟩)
          funext c; unfold evS fvS va_up; repeat' split
          all_goals first | rfl | omega | (subst_vars; rfl) | (funext j; unfold upd; repeat' split; all_goals first | rfl | omega | (subst_vars; rfl))
        · repeat refine kX_one rfl ?_
          refine kX_ret (i := .ireturn) (len := 1) rfl (Or.inr rfl) rfl (⟨⟨_, rfl⟩, mAfter_same h⟩)
      · repeat refine kX_one rfl ?_
        refine kX_ret (i := .ireturn) (len := 1) rfl (Or.inr rfl) rfl (⟨⟨_, rfl⟩, mAfter_same h⟩)
    · repeat refine kX_one rfl ?_
      refine kX_ret (i := .ireturn) (len := 1) rfl (Or.inr rfl) rfl (⟨⟨_, rfl⟩, mAfter_same h⟩)
end
section
/-! the reference: know -/
theorem mI_fg {σ : kS} {n b R S C : Nat} {kl : List Nat} (h1 : mTb σ n b) (h2 : mRo σ n R) (h3 : mSe σ n R S) (h4 : mKn σ n kl) (h5 : mCl σ R C) (hr : σ 232 52 = 0) : mI (va_up σ 232 (fgO (σ 232))) n b R S C kl := ⟨h1, h2, h3, h4, h5, Or.inl hr, Or.inl rfl⟩
set_option maxRecDepth 100000 in
set_option maxHeartbeats 4000000 in
theorem mp_know (L : Nat) (xs : Nat → Int32) (d : Nat) (σ : kS) (n b R S C : Nat) (kl : List Nat) (x : Int32) (h : mI σ n b R S C kl) : kXM kT L xs (d + 2) 167 [.ref 232, .int x] σ (fun r σ' => (∃ x, r = some (.int x)) ∧ mAfter σ σ' R) := by
  have h0 := h
  obtain ⟨h1, h2, h3, h4, h5, h6, h7⟩ := h
  have hn := h1.1
  have hk20 := h4.2.1
  unfold kXM
  repeat refine kX_one rfl ?_
  refine kX_cal (mr_isTerm L xs d σ n x h1.2.2.2.1 (by omega)) rfl (Or.inr rfl) rfl rfl rfl (fun r1 σ1 q1 => ?_)
  obtain ⟨rfl, rfl⟩ := q1
  repeat refine kX_one rfl ?_
  refine kX_if (fun q => ?_) (fun q => ?_)
  · obtain ⟨t, ht, rfl⟩ := isB_ne.mp (qne q)
    rcases h6 with h6 | ⟨h6, -⟩
    · iterate 2 (refine kX_one rfl ?_)
      refine kX_top (h6) ?_
      repeat refine kX_one rfl ?_
      refine kX_if (fun q => ?_) (fun q => ?_)
      · have hl20 : kl.length ≠ 20 := fun e => qne q (by rw [h4.1, e]; rfl)
        have hgr : σ 237 t = bI (tgd (σ 233) (σ 234) (σ 235) t) := h1.2.2.2.2.2.2.1 t (Or.inl ht)
        have loop : ∀ k, k ≤ kl.length → kX kT L xs (d + 2) 167 49 [(3, .int (nI k)), (2, .int (isB (tgd (σ 233) (σ 234) (σ 235) t = false ∨ ∃ i, i < k ∧ kl[i]? = some t))), (0, .ref 232), (1, .int (nI t))] [] σ (fun r σ' => (∃ x, r = some (.int x)) ∧ mAfter σ σ' R) := by
          refine kX_while (fun k : Nat => [(3, .int (nI k)), (2, .int (isB (tgd (σ 233) (σ 234) (σ 235) t = false ∨ ∃ i, i < k ∧ kl[i]? = some t))), (0, .ref 232), (1, .int (nI t))]) (fun _ => σ) _ (fun k => kl.length - k) ?_
          intro k hk ih
          iterate 3 (refine kX_one rfl ?_)
          refine kX_top (h4.1) ?_
          repeat refine kX_one rfl ?_
          refine kX_if (fun q => ?_) (fun q => ?_)
          · have q := qge q k kl.length
            repeat refine kX_one rfl ?_
            refine kX_if (fun q2 => ?_) (fun q2 => ?_)
            · have hg : tgd (σ 233) (σ 234) (σ 235) t = true := by
                have : ¬ (tgd (σ 233) (σ 234) (σ 235) t = false ∨ ∃ i, i < k ∧ kl[i]? = some t) := fun z => isB_ne.mpr z (qeq q2)
                cases hg : tgd (σ 233) (σ 234) (σ 235) t
                · exact absurd (Or.inl hg) this
                · rfl
              repeat refine kX_one rfl ?_
              refine kX_iastN rfl rfl (by decide) (kl.length) (h4.1) (by omega) ?_
              repeat refine kX_one rfl ?_
              have e1 : σ 232 26 + 1 = nI (kl.length + 1) := by rw [h4.1]; exact (nI_succ _).symm
              refine kX_st (va_up (va_up σ 254 (upd (σ 254) kl.length (nI t))) 232 (upd (σ 232) 26 (nI (kl.length + 1)))) ?_ ?_
              · rw [← e1]
                rfl
              refine kX_cal (mr_forget L xs d _) rfl (Or.inr rfl) rfl rfl rfl (fun r1 σ1 q1 => ?_)
              obtain ⟨rfl, rfl⟩ := q1
              repeat refine kX_one rfl ?_
              refine kX_ret (i := .ireturn) (len := 1) rfl (Or.inr rfl) rfl (⟨⟨_, rfl⟩, mLow_trans (mLow_trans (mLow_up σ _ (by decide)) (mLow_up _ _ (by decide))) (mLow_up _ _ (by decide)), n, b, S, C, kl ++ [t], mI_fg (σ := va_up (va_up σ 254 (upd (σ 254) kl.length (nI t))) 232 (upd (σ 232) 26 (nI (kl.length + 1)))) h1 h2 h3 ⟨?_, ?_, lst_push h4.2.2.1 t, fun u hu => ?_⟩ h5 h6⟩)
              · rw [List.length_append]; rfl
              · rw [List.length_append]; show _ + 1 ≤ 20; omega
              · rcases List.mem_append.mp hu with hu | hu
                · exact h4.2.2.2 u hu
                · rw [List.mem_singleton] at hu
                  subst hu
                  exact ⟨ht, hg⟩
            · repeat refine kX_one rfl ?_
              refine kX_ret (i := .ireturn) (len := 1) rfl (Or.inr rfl) rfl (⟨⟨_, rfl⟩, mAfter_same h0⟩)
          · have q := qgeF q k kl.length
            have hgo : ∀ v : Int32, v = isB (tgd (σ 233) (σ 234) (σ 235) t = false ∨ ∃ i, i < k + 1 ∧ kl[i]? = some t) → kX kT L xs (d + 2) 167 76 [(3, .int (nI k)), (2, .int (isB (tgd (σ 233) (σ 234) (σ 235) t = false ∨ ∃ i, i < k ∧ kl[i]? = some t))), (0, .ref 232), (1, .int (nI t))] [.int v] σ (fun r σ' => (∃ x, r = some (.int x)) ∧ mAfter σ σ' R) := by
              intro v hv
              subst hv
              iterate 3 (refine kX_one rfl ?_)
              have := ih (k + 1) q (by omega)
              rw [← nI_1] at this
              exact kX_lv _ rfl rfl rfl this
            repeat refine kX_one rfl ?_
            refine kX_if (fun q2 => ?_) (fun q2 => ?_)
            · have q2 := isB_ne.mp (qne q2)
              iterate 2 (refine kX_one rfl ?_)
              exact hgo _ (isB_T (q2.elim Or.inl (fun ⟨i, hi, hi2⟩ => Or.inr ⟨i, by omega, hi2⟩))).symm
            · have q2 : ¬ (tgd (σ 233) (σ 234) (σ 235) t = false ∨ ∃ i, i < k ∧ kl[i]? = some t) := fun z => isB_ne.mpr z (qneF q2)
              repeat refine kX_one rfl ?_
              refine kX_ialdN rfl rfl (by decide) (k) (by first | rfl | decide) (by omega) ?_
              iterate 1 (refine kX_one rfl ?_)
              have hk2 : σ 254 k = nI kl[k] := h4.2.2.1 k q
              have hlt := (h4.2.2.2 kl[k] (List.getElem_mem q)).1
              repeat refine kX_one rfl ?_
              refine kX_if (fun q3 => ?_) (fun q3 => ?_)
              · have q3 : σ 254 k ≠ nI t := qne q3
                iterate 1 (refine kX_one rfl ?_)
                refine hgo _ (isB_F ?_).symm
                rintro (z | ⟨i, hi, hi2⟩)
                · exact q2 (Or.inl z)
                · by_cases e : i = k
                  · subst e
                    rw [List.getElem?_eq_getElem q] at hi2
                    rw [hk2, Option.some.inj hi2] at q3
                    exact q3 rfl
                  · exact q2 (Or.inr ⟨i, by omega, hi2⟩)
              · have q3 : σ 254 k = nI t := qneF q3
                iterate 2 (refine kX_one rfl ?_)
                refine hgo _ (isB_T (Or.inr ⟨k, by omega, ?_⟩)).symm
                rw [List.getElem?_eq_getElem q]
                exact congrArg some (nI_inj (hk2.symm.trans q3))
        have start := loop 0 (Nat.zero_le _)
        repeat refine kX_one rfl ?_
        refine kX_baldV rfl rfl (by decide) (t) (by first | rfl | decide) (by omega) (hgr) ?_
        cases hg : tgd (σ 233) (σ 234) (σ 235) t
        · rw [isB_T (Or.inl hg)] at start
          iterate 6 (refine kX_one rfl ?_)
          exact kX_lv _ rfl rfl rfl start
        · rw [isB_F (by
            rintro (z | ⟨i, z, -⟩)
            · rw [hg] at z; cases z
            · omega)] at start
          iterate 5 (refine kX_one rfl ?_)
          exact kX_lv _ rfl rfl rfl start
      · repeat refine kX_one rfl ?_
        refine kX_ret (i := .ireturn) (len := 1) rfl (Or.inr rfl) rfl (⟨⟨_, rfl⟩, mAfter_same h0⟩)
    · iterate 2 (refine kX_one rfl ?_)
      refine kX_top (h6) ?_
      repeat refine kX_one rfl ?_
      refine kX_ret (i := .ireturn) (len := 1) rfl (Or.inr rfl) rfl (⟨⟨_, rfl⟩, mAfter_same h0⟩)
  · repeat refine kX_one rfl ?_
    refine kX_ret (i := .ireturn) (len := 1) rfl (Or.inr rfl) rfl (⟨⟨_, rfl⟩, mAfter_same h0⟩)
end
section
/-! the reference: found, attack, told, claims -/
set_option maxRecDepth 100000 in
set_option maxHeartbeats 4000000 in
theorem mp_found (L : Nat) (xs : Nat → Int32) (d : Nat) (σ : kS) (n b R S C : Nat) (kl : List Nat) (x : Int32) (h : mI σ n b R S C kl) : kXM kT L xs (d + 1) 221 [.ref 232, .int x] σ (fun r σ' => (∃ x, r = some (.int x)) ∧ mAfter σ σ' R) := by
  unfold kXM
  by_cases hy : ∃ k, k < 4 ∧ x = nI k
  · obtain ⟨k, hk, rfl⟩ := hy
    have : k = 0 ∨ k = 1 ∨ k = 2 ∨ k = 3 := by omega
    rcases this with rfl | rfl | rfl | rfl
    · repeat refine kX_one rfl ?_
      refine kX_ret (i := .ireturn) (len := 1) rfl (Or.inr rfl) rfl (⟨⟨_, rfl⟩, mAfter_same h⟩)
    · repeat refine kX_one rfl ?_
      refine kX_ret (i := .ireturn) (len := 1) rfl (Or.inr rfl) rfl (⟨⟨_, rfl⟩, mAfter_same h⟩)
    · repeat refine kX_one rfl ?_
      refine kX_ret (i := .ireturn) (len := 1) rfl (Or.inr rfl) rfl (⟨⟨_, rfl⟩, mAfter_same h⟩)
    · repeat refine kX_one rfl ?_
      refine kX_ret (i := .ireturn) (len := 1) rfl (Or.inr rfl) rfl (⟨⟨_, rfl⟩, mAfter_same h⟩)
  · iterate 1 (refine kX_one rfl ?_)
    refine kX_tabO rfl (kp_out 4 (fun k hk e => hy ⟨k, hk, e⟩) (by decide)) rfl ?_
    repeat refine kX_one rfl ?_
    refine kX_ret (i := .ireturn) (len := 1) rfl (Or.inr rfl) rfl (⟨⟨_, rfl⟩, mAfter_same h⟩)
set_option maxRecDepth 100000 in
set_option maxHeartbeats 4000000 in
theorem mp_told (L : Nat) (xs : Nat → Int32) (d : Nat) (σ : kS) (n b R S C : Nat) (kl : List Nat) (x : Int32) (h : mI σ n b R S C kl) : kXM kT L xs (d + 1) 224 [.ref 232, .int x] σ (fun r σ' => (∃ x, r = some (.int x)) ∧ mAfter σ σ' R) := by
  unfold kXM
  by_cases hy : ∃ k, k < 6 ∧ x = nI k
  · obtain ⟨k, hk, rfl⟩ := hy
    have : k = 0 ∨ k = 1 ∨ k = 2 ∨ k = 3 ∨ k = 4 ∨ k = 5 := by omega
    rcases this with rfl | rfl | rfl | rfl | rfl | rfl
    · repeat refine kX_one rfl ?_
      refine kX_ret (i := .ireturn) (len := 1) rfl (Or.inr rfl) rfl (⟨⟨_, rfl⟩, mAfter_same h⟩)
    · repeat refine kX_one rfl ?_
      refine kX_ret (i := .ireturn) (len := 1) rfl (Or.inr rfl) rfl (⟨⟨_, rfl⟩, mAfter_same h⟩)
    · repeat refine kX_one rfl ?_
      refine kX_ret (i := .ireturn) (len := 1) rfl (Or.inr rfl) rfl (⟨⟨_, rfl⟩, mAfter_same h⟩)
    · repeat refine kX_one rfl ?_
      refine kX_ret (i := .ireturn) (len := 1) rfl (Or.inr rfl) rfl (⟨⟨_, rfl⟩, mAfter_same h⟩)
    · repeat refine kX_one rfl ?_
      refine kX_ret (i := .ireturn) (len := 1) rfl (Or.inr rfl) rfl (⟨⟨_, rfl⟩, mAfter_same h⟩)
    · repeat refine kX_one rfl ?_
      refine kX_if (fun q => ?_) (fun q => ?_)
      · repeat refine kX_one rfl ?_
        refine kX_ret (i := .ireturn) (len := 1) rfl (Or.inr rfl) rfl (⟨⟨_, rfl⟩, mAfter_same h⟩)
      · repeat refine kX_one rfl ?_
        refine kX_ret (i := .ireturn) (len := 1) rfl (Or.inr rfl) rfl (⟨⟨_, rfl⟩, mAfter_same h⟩)
  · iterate 1 (refine kX_one rfl ?_)
    refine kX_tabO rfl (kp_out 6 (fun k hk e => hy ⟨k, hk, e⟩) (by decide)) rfl ?_
    repeat refine kX_one rfl ?_
    refine kX_ret (i := .ireturn) (len := 1) rfl (Or.inr rfl) rfl (⟨⟨_, rfl⟩, mAfter_same h⟩)
set_option maxRecDepth 100000 in
set_option maxHeartbeats 4000000 in
theorem mp_attack (L : Nat) (xs : Nat → Int32) (d : Nat) (σ : kS) (n b R S C : Nat) (kl : List Nat) (x : Int32) (h : mI σ n b R S C kl) : kXM kT L xs (d + 1) 222 [.ref 232, .int x] σ (fun r σ' => (∃ x, r = some (.int x)) ∧ mAfter σ σ' R) := by
  unfold kXM
  repeat refine kX_one rfl ?_
  refine kX_cal (mr_in L xs d σ _ _ _) rfl (Or.inr rfl) rfl rfl rfl (fun r1 σ1 q1 => ?_)
  obtain ⟨rfl, rfl⟩ := q1
  rw [isB_dec]
  repeat refine kX_one rfl ?_
  refine kX_if (fun q => ?_) (fun q => ?_)
  · repeat refine kX_one rfl ?_
    refine kX_ret (i := .ireturn) (len := 1) rfl (Or.inr rfl) rfl (⟨⟨_, rfl⟩, mAfter_same h⟩)
  · obtain ⟨q1, q2⟩ := isB_ne.mp (qeqF q)
    rcases h.2.2.2.2.2.2 with hA | ⟨as, fin, a0, a1, -⟩
    · exfalso
      have q1 : ¬ x.toInt64 < (0 : Int32).toInt64 := q1
      have q2 : ¬ (σ 232 72 - 1).toInt64 < x.toInt64 := q2
      rw [i64_lt] at q1 q2
      rw [hA] at q2
      obtain ⟨j, hj, rfl⟩ := nI_of q1
      rw [Int32.lt_iff_toInt_lt, nI_toInt hj] at q2
      have : ((-6 : Int32) - 1).toInt = -7 := by decide
      omega
    · have q2 : ¬ (σ 232 72 - 1).toInt64 < x.toInt64 := q2
      rw [a1] at q2
      obtain ⟨j, hj, rfl⟩ := (in_N (by omega)).mp ⟨q1, q2⟩
      repeat refine kX_one rfl ?_
      refine kX_ialdN rfl rfl (by decide) (j) (by first | rfl | decide) (by omega) ?_
      repeat refine kX_one rfl ?_
      refine kX_ret (i := .ireturn) (len := 1) rfl (Or.inr rfl) rfl (⟨⟨_, rfl⟩, mAfter_same h⟩)
theorem trRun_eq {σ τ : kS} {kl ds : List Nat} (e : τ 233 = σ 233 ∧ τ 234 = σ 234 ∧ τ 235 = σ 235 ∧ τ 265 = σ 265 ∧ τ 241 = σ 241 ∧ τ 249 = σ 249 ∧ τ 248 = σ 248 ∧ τ 255 = σ 255 ∧ τ 238 = σ 238) : trRun τ kl ds = trRun σ kl ds := by
  obtain ⟨e1, e2, e3, e4, e5, e6, e7, e8, e9⟩ := e
  have hs : ∀ tr k, trSn τ ds tr k = trSn σ ds tr k := by
    intro tr k
    induction k with
    | zero => rfl
    | succ k ih =>
      rw [trSn, trSn, ih]
      unfold mEv tin mVl
      rw [e1, e2, e3, e4, e5, e6, e7, e8]
  unfold trRun
  rw [hs]
  unfold trKn mA
  rw [e1, e2, e3, e9]
def clS (σ : kS) (C : Nat) (y b a nn : Int32) : kS := va_up (va_up (va_up (va_up (va_up (va_up σ 257 (upd (σ 257) C y)) 258 (upd (σ 258) C b)) 259 (upd (σ 259) C a)) 260 (upd (σ 260) C nn)) 261 (upd (σ 261) C 0)) 232 (upd (σ 232) 30 (nI (C + 1)))
theorem mI_cl {σ : kS} {n b R S C p a nn : Nat} {kl : List Nat} {y : Int32} (h : mI σ n b R S C kl) (hC : C < 6) (hp : p < R) (h1 : y ≠ 0 → a < fN (σ 244 p)) (h0 : y = 0 → a < R) (hn : nn ≤ 6) : mI (clS σ C y (nI p) (nI a) (nI nn)) n b R S (C + 1) kl := by
  obtain ⟨g1, g2, g3, g4, g5, g6, g7⟩ := h
  refine ⟨g1, g2, g3, g4, ⟨by omega, rfl, fun c hc => ?_⟩, ?_, g7⟩
  · show ∃ b' a' nn' j, b' < R ∧ upd (σ 258) C (nI p) c = nI b' ∧ upd (σ 259) C (nI a) c = nI a' ∧ (upd (σ 257) C y c ≠ 0 → a' < fN (σ 244 b')) ∧ (upd (σ 257) C y c = 0 → a' < R) ∧ nn' ≤ 6 ∧ upd (σ 260) C (nI nn) c = nI nn' ∧ j ≤ 4 ∧ upd (σ 261) C 0 c = nI j ∧ ∀ k, k < j → ∃ x y, x < fN (σ 244 b') ∧ y < fN (σ 244 a') ∧ a' < R ∧ σ 262 (4 * c + k) = nI x ∧ σ 263 (4 * c + k) = nI y
    by_cases e : c = C
    · subst e
      rw [pk_us, pk_us, pk_us, pk_us, pk_us]
      exact ⟨p, a, nn, 0, hp, rfl, rfl, h1, h0, hn, rfl, by omega, rfl, fun k hk => absurd hk (Nat.not_lt_zero k)⟩
    · rw [pk_un e, pk_un e, pk_un e, pk_un e, pk_un e]
      exact g5.2.2 c (by omega)
  · rcases g6 with g6 | ⟨g6, ds, d1, d2, d3⟩
    · exact Or.inl g6
    · refine Or.inr ⟨g6, ds, d1, d2, ?_⟩
      rcases d3 with d3 | ⟨d3, d4, l, l1, l2, l3⟩
      · exact Or.inl d3
      · refine Or.inr ⟨d3, d4, l, l1, l2, ?_⟩
        rw [trRun_eq (σ := σ) (τ := clS σ C y (nI p) (nI a) (nI nn)) ⟨rfl, rfl, rfl, rfl, rfl, rfl, rfl, rfl, rfl⟩, ← l3]
        rfl
theorem mLow_cl (σ : kS) (C : Nat) (y b a nn : Int32) : mLow σ (clS σ C y b a nn) := by
  intro c hc
  simp only [clS, va_up]
  repeat rw [if_neg (by omega)]
set_option maxRecDepth 100000 in
set_option maxHeartbeats 4000000 in
theorem mr_claim (L : Nat) (xs : Nat → Int32) (d : Nat) (σ : kS) (C : Nat) (y p a nn : Int32) (hC : σ 232 30 = nI C) (hC6 : C < 6) (hy : y = 0 ∨ y = 1) : kXM kT L xs (d + 1) 171 [.ref 232, .int y, .int p, .int a, .int nn] σ (fun r σ' => r = some (.int (nI C)) ∧ σ' = clS σ C y p a nn) := by
  unfold kXM
  repeat refine kX_one rfl ?_
  refine kX_bastN rfl rfl (by decide) (C) (hC) (by omega) (hy) ?_
  repeat refine kX_one rfl ?_
  refine kX_iastN rfl rfl (by decide) (C) (hC) (by omega) ?_
  repeat refine kX_one rfl ?_
  refine kX_iastN rfl rfl (by decide) (C) (hC) (by omega) ?_
  repeat refine kX_one rfl ?_
  refine kX_iastN rfl rfl (by decide) (C) (hC) (by omega) ?_
  repeat refine kX_one rfl ?_
  refine kX_iastN rfl rfl (by decide) (C) (hC) (by omega) ?_
  repeat refine kX_one rfl ?_
  refine kX_ret (i := .ireturn) (len := 1) rfl (Or.inr rfl) rfl ⟨?_, ?_⟩
  · show some (Value.int (σ 232 30 + 1 - 1)) = _
    rw [Int32.add_sub_cancel, hC]
  · rw [clS, nI_succ C, ← hC]
    rfl
set_option maxRecDepth 100000 in
set_option maxHeartbeats 4000000 in
theorem mp_secret (L : Nat) (xs : Nat → Int32) (d : Nat) (σ : kS) (n b R S C : Nat) (kl : List Nat) (x y : Int32) (h : mI σ n b R S C kl) : kXM kT L xs (d + 2) 172 [.ref 232, .int x, .int y] σ (fun r σ' => (∃ x, r = some (.int x)) ∧ mAfter σ σ' R) := by
  have h2 := h.2.1
  have hR4 := h2.1
  have h5 := h.2.2.2.2.1
  have hC6 := h5.1
  unfold kXM
  repeat refine kX_one rfl ?_
  refine kX_cal (mr_isRole L xs d σ R x h2.2.1 (by omega)) rfl (Or.inr rfl) rfl rfl rfl (fun r1 σ1 q1 => ?_)
  obtain ⟨rfl, rfl⟩ := q1
  repeat refine kX_one rfl ?_
  refine kX_if (fun q => ?_) (fun q => ?_)
  · repeat refine kX_one rfl ?_
    refine kX_ret (i := .ireturn) (len := 1) rfl (Or.inr rfl) rfl (⟨⟨_, rfl⟩, mAfter_same h⟩)
  · obtain ⟨r, hr, rfl⟩ := isB_ne.mp (qeqF q)
    obtain ⟨⟨v, hv6, hv⟩, -⟩ := h2.2.2.1 r hr
    repeat refine kX_one rfl ?_
    refine kX_ialdV rfl rfl (by decide) (r) (by first | rfl | decide) (by omega) (hv) ?_
    repeat refine kX_one rfl ?_
    refine kX_cal (mr_in L xs (d + 1) σ _ _ _) rfl (Or.inr rfl) rfl rfl rfl (fun r1 σ1 q1 => ?_)
    obtain ⟨rfl, rfl⟩ := q1
    rw [isB_dec]
    repeat refine kX_one rfl ?_
    refine kX_if (fun q => ?_) (fun q => ?_)
    · obtain ⟨q1, q2⟩ := isB_ne.mp (qne q)
      obtain ⟨k, hk, rfl⟩ := (in_N (n := v) (by omega)).mp ⟨q1, q2⟩
      repeat refine kX_one rfl ?_
      refine kX_if (fun q => ?_) (fun q => ?_)
      · have hC : C ≠ 6 := fun e => qne q (by rw [h5.2.1, e]; rfl)
        repeat refine kX_one rfl ?_
        refine kX_cal (mr_claim L xs d σ C _ _ _ _ h5.2.1 (by omega) (Or.inr rfl)) rfl (Or.inr rfl) rfl rfl rfl (fun r1 σ1 q1 => ?_)
        obtain ⟨rfl, rfl⟩ := q1
        repeat refine kX_one rfl ?_
        refine kX_ret (i := .ireturn) (len := 1) rfl (Or.inr rfl) rfl (⟨⟨_, rfl⟩, mLow_cl σ _ _ _ _ _, n, b, S, C + 1, kl, mI_cl (nn := 0) h (by omega) hr (fun _ => by rw [hv, fN_nI (by omega)]; exact hk) (fun e => absurd e (by decide)) (by omega)⟩)
      · repeat refine kX_one rfl ?_
        refine kX_ret (i := .ireturn) (len := 1) rfl (Or.inr rfl) rfl (⟨⟨_, rfl⟩, mAfter_same h⟩)
    · repeat refine kX_one rfl ?_
      refine kX_ret (i := .ireturn) (len := 1) rfl (Or.inr rfl) rfl (⟨⟨_, rfl⟩, mAfter_same h⟩)
set_option maxRecDepth 100000 in
set_option maxHeartbeats 4000000 in
theorem mp_agree (L : Nat) (xs : Nat → Int32) (d : Nat) (σ : kS) (n b R S C : Nat) (kl : List Nat) (x y z : Int32) (h : mI σ n b R S C kl) : kXM kT L xs (d + 2) 173 [.ref 232, .int x, .int y, .int z] σ (fun r σ' => (∃ x, r = some (.int x)) ∧ mAfter σ σ' R) := by
  have h2 := h.2.1
  have hR4 := h2.1
  have h5 := h.2.2.2.2.1
  have hC6 := h5.1
  unfold kXM
  repeat refine kX_one rfl ?_
  refine kX_cal (mr_isRole L xs d σ R x h2.2.1 (by omega)) rfl (Or.inr rfl) rfl rfl rfl (fun r1 σ1 q1 => ?_)
  obtain ⟨rfl, rfl⟩ := q1
  repeat refine kX_one rfl ?_
  refine kX_if (fun q => ?_) (fun q => ?_)
  · repeat refine kX_one rfl ?_
    refine kX_ret (i := .ireturn) (len := 1) rfl (Or.inr rfl) rfl (⟨⟨_, rfl⟩, mAfter_same h⟩)
  · obtain ⟨r, hr, rfl⟩ := isB_ne.mp (qeqF q)
    repeat refine kX_one rfl ?_
    refine kX_cal (mr_isRole L xs d σ R y h2.2.1 (by omega)) rfl (Or.inr rfl) rfl rfl rfl (fun r1 σ1 q1 => ?_)
    obtain ⟨rfl, rfl⟩ := q1
    repeat refine kX_one rfl ?_
    refine kX_if (fun q => ?_) (fun q => ?_)
    · obtain ⟨a, ha, rfl⟩ := isB_ne.mp (qne q)
      repeat refine kX_one rfl ?_
      refine kX_cal (mr_in L xs (d + 1) σ _ _ _) rfl (Or.inr rfl) rfl rfl rfl (fun r1 σ1 q1 => ?_)
      obtain ⟨rfl, rfl⟩ := q1
      rw [isB_dec]
      repeat refine kX_one rfl ?_
      refine kX_if (fun q => ?_) (fun q => ?_)
      · obtain ⟨k, k1, k2, rfl⟩ := in_R (lo := 0) (hi := 6) (by omega) (by omega) (isB_ne.mp (qne q)).1 (isB_ne.mp (qne q)).2
        repeat refine kX_one rfl ?_
        refine kX_if (fun q => ?_) (fun q => ?_)
        · have hC : C ≠ 6 := fun e => qne q (by rw [h5.2.1, e]; rfl)
          repeat refine kX_one rfl ?_
          refine kX_cal (mr_claim L xs d σ C _ _ _ _ h5.2.1 (by omega) (Or.inl rfl)) rfl (Or.inr rfl) rfl rfl rfl (fun r1 σ1 q1 => ?_)
          obtain ⟨rfl, rfl⟩ := q1
          repeat refine kX_one rfl ?_
          refine kX_ret (i := .ireturn) (len := 1) rfl (Or.inr rfl) rfl (⟨⟨_, rfl⟩, mLow_cl σ _ _ _ _ _, n, b, S, C + 1, kl, mI_cl h (by omega) hr (fun e => absurd rfl e) (fun _ => ha) k2⟩)
        · repeat refine kX_one rfl ?_
          refine kX_ret (i := .ireturn) (len := 1) rfl (Or.inr rfl) rfl (⟨⟨_, rfl⟩, mAfter_same h⟩)
      · repeat refine kX_one rfl ?_
        refine kX_ret (i := .ireturn) (len := 1) rfl (Or.inr rfl) rfl (⟨⟨_, rfl⟩, mAfter_same h⟩)
    · repeat refine kX_one rfl ?_
      refine kX_ret (i := .ireturn) (len := 1) rfl (Or.inr rfl) rfl (⟨⟨_, rfl⟩, mAfter_same h⟩)

def jnS (σ : kS) (c j : Nat) (x y : Int32) : kS := va_up (va_up (va_up σ 262 (upd (σ 262) (4 * c + j) x)) 263 (upd (σ 263) (4 * c + j) y)) 261 (upd (σ 261) c (nI (j + 1)))
theorem mLow_jn (σ : kS) (c j : Nat) (x y : Int32) : mLow σ (jnS σ c j x y) := by
  intro c hc
  simp only [jnS, va_up]
  repeat rw [if_neg (by omega)]
theorem mI_jn {σ : kS} {n b R S C c j p a x y : Nat} {kl : List Nat} (h : mI σ n b R S C kl) (hc : c < C) (hj : σ 261 c = nI j) (hj4 : j < 4) (hb : σ 258 c = nI p) (hp : p < R) (ha : σ 259 c = nI a) (haR : a < R) (hx : x < fN (σ 244 p)) (hy : y < fN (σ 244 a)) : mI (jnS σ c j (nI x) (nI y)) n b R S C kl := by
  obtain ⟨g1, g2, g3, g4, g5, g6, g7⟩ := h
  have hR4 := g2.1
  refine ⟨g1, g2, g3, g4, ⟨g5.1, g5.2.1, fun c' hc' => ?_⟩, ?_, g7⟩
  · obtain ⟨b', a', nn', j', e1, e2, e3, e4, e5, e6, e7, e8, e9, e10⟩ := g5.2.2 c' hc'
    show ∃ b' a' nn' j, b' < R ∧ σ 258 c' = nI b' ∧ σ 259 c' = nI a' ∧ (σ 257 c' ≠ 0 → a' < fN (σ 244 b')) ∧ (σ 257 c' = 0 → a' < R) ∧ nn' ≤ 6 ∧ σ 260 c' = nI nn' ∧ j ≤ 4 ∧ upd (σ 261) c (nI (_ + 1)) c' = nI j ∧ ∀ k, k < j → ∃ x' y', x' < fN (σ 244 b') ∧ y' < fN (σ 244 a') ∧ a' < R ∧ upd (σ 262) (4 * c + _) (nI x) (4 * c' + k) = nI x' ∧ upd (σ 263) (4 * c + _) (nI y) (4 * c' + k) = nI y'
    by_cases e : c' = c
    · subst e
      refine ⟨b', a', nn', j + 1, e1, e2, e3, e4, e5, e6, e7, by omega, pk_us, fun k hk => ?_⟩
      by_cases ek : k = j
      · subst ek
        have hba : a' < 6 := by
          by_cases hs : σ 257 c' = 0
          · have := e5 hs; omega
          · have hz := e4 hs
            obtain ⟨⟨v, hv6, hv⟩, -⟩ := g2.2.2.1 b' e1
            rw [hv, fN_nI (by omega)] at hz
            omega
        have eb : b' = p := nI_inj (e2.symm.trans hb)
        have ea : a' = a := nI_inj (e3.symm.trans ha)
        subst eb ea
        exact ⟨x, y, hx, hy, haR, pk_us, pk_us⟩
      · rw [pk_un (by omega), pk_un (by omega)]
        obtain rfl : j' = j := nI_inj (e9.symm.trans hj)
        exact e10 k (by omega)
    · refine ⟨b', a', nn', j', e1, e2, e3, e4, e5, e6, e7, e8, by rw [pk_un e]; exact e9, fun k hk => ?_⟩
      rw [pk_un (by omega), pk_un (by omega)]
      exact e10 k hk
  · rcases g6 with g6 | ⟨g6, ds, d1, d2, d3⟩
    · exact Or.inl g6
    · refine Or.inr ⟨g6, ds, d1, d2, ?_⟩
      rcases d3 with d3 | ⟨d3, d4, l, l1, l2, l3⟩
      · exact Or.inl d3
      · refine Or.inr ⟨d3, d4, l, l1, l2, ?_⟩
        rw [trRun_eq (σ := σ) (τ := jnS σ c j (nI x) (nI y)) ⟨rfl, rfl, rfl, rfl, rfl, rfl, rfl, rfl, rfl⟩, ← l3]
        rfl
end
section
/-! the reference: join -/
set_option maxRecDepth 100000 in
set_option maxHeartbeats 4000000 in
theorem mr_joinT (L : Nat) (xs : Nat → Int32) (d : Nat) (σ : kS) (c j : Nat) (k k' : Int32) (hc : c < 6) (hj : j < 4) (e9 : σ 261 c = nI j) (Q : Option Value → kS → Prop) (hQ : ∀ x, Q (some (.int x)) (jnS σ c j k k')) : kX kT L xs (d + 1) 174 91 [(0, .ref 232), (1, .int (nI c)), (2, .int k), (3, .int k')] [] σ Q := by
  repeat refine kX_one rfl ?_
  refine kX_ialdV rfl rfl (by decide) (c) (by first | rfl | decide) (by omega) (e9) ?_
  repeat refine kX_one rfl ?_
  refine kX_iastN rfl rfl (by decide) (4 * c + j) (ix4 c j) (by omega) ?_
  repeat refine kX_one rfl ?_
  refine kX_ialdV rfl rfl (by decide) (c) (by first | rfl | decide) (by omega) (e9) ?_
  repeat refine kX_one rfl ?_
  refine kX_iastN rfl rfl (by decide) (4 * c + j) (ix4 c j) (by omega) ?_
  repeat refine kX_one rfl ?_
  refine kX_ialdV rfl rfl (by decide) (c) (by first | rfl | decide) (by omega) (e9) ?_
  repeat refine kX_one rfl ?_
  refine kX_iastN rfl rfl (by decide) (c) (by first | rfl | decide) (by omega) ?_
  repeat refine kX_one rfl ?_
  refine kX_ialdN rfl rfl (by decide) (c) (by first | rfl | decide) (by omega) ?_
  refine kX_st (jnS σ c j k k') ?_ ?_
  · rw [jnS, nI_succ j]
    rfl
  refine kX_ret (i := .ireturn) (len := 1) rfl (Or.inr rfl) rfl (hQ _)
set_option maxRecDepth 100000 in
set_option maxHeartbeats 4000000 in
theorem mr_join30 (L : Nat) (xs : Nat → Int32) (d : Nat) (σ : kS) (c p a j v w : Nat) (y z : Int32) (hc : c < 6) (hp : p < 4) (ha : a < 4) (hv6 : v ≤ 6) (hw6 : w ≤ 6) (hj4 : j ≤ 4) (e2 : σ 258 c = nI p) (e3 : σ 259 c = nI a) (e9 : σ 261 c = nI j) (hv : σ 244 p = nI v) (hw : σ 244 a = nI w) (Q : Option Value → kS → Prop) (hQ : ∀ x, Q (some (.int x)) σ) (hG : ∀ k k', k < v → k' < w → j < 4 → ∀ x, Q (some (.int x)) (jnS σ c j (nI k) (nI k'))) : kX kT L xs (d + 1) 174 30 [(0, .ref 232), (1, .int (nI c)), (2, .int y), (3, .int z)] [] σ Q := by
  have k78 : ∀ k k', k < v → k' < w → kX kT L xs (d + 1) 174 78 [(0, .ref 232), (1, .int (nI c)), (2, .int (nI k)), (3, .int (nI k'))] [] σ Q := by
    intro k k' hk hk'
    repeat refine kX_one rfl ?_
    refine kX_ialdV rfl rfl (by decide) (c) (by first | rfl | decide) (by omega) (e9) ?_
    repeat refine kX_one rfl ?_
    refine kX_if (fun q => ?_) (fun q => ?_)
    · have hj : j ≠ 4 := fun e => qne q (by rw [e]; rfl)
      exact mr_joinT L xs d σ c j (nI k) (nI k') (by omega) (by omega) e9 _ (hG k k' hk hk' (by omega))
    · repeat refine kX_one rfl ?_
      refine kX_ret (i := .ireturn) (len := 1) rfl (Or.inr rfl) rfl (hQ _)
  have k53 : ∀ k, k < v → kX kT L xs (d + 1) 174 53 [(0, .ref 232), (1, .int (nI c)), (2, .int (nI k)), (3, .int z)] [] σ Q := by
    intro k hk
    repeat refine kX_one rfl ?_
    refine kX_ialdV rfl rfl (by decide) (c) (by first | rfl | decide) (by omega) (e3) ?_
    refine kX_ialdV rfl rfl (by decide) (a) (by first | rfl | decide) (by omega) (hw) ?_
    repeat refine kX_one rfl ?_
    refine kX_cal (mr_in L xs d σ _ _ _) rfl (Or.inr rfl) rfl rfl rfl (fun r1 σ1 q1 => ?_)
    obtain ⟨rfl, rfl⟩ := q1
    rw [isB_dec]
    repeat refine kX_one rfl ?_
    refine kX_if (fun q => ?_) (fun q => ?_)
    · obtain ⟨q1, q2⟩ := isB_ne.mp (qne q)
      obtain ⟨k', hk', rfl⟩ := (in_N (n := w) (by omega)).mp ⟨q1, q2⟩
      exact k78 k k' hk hk'
    · repeat refine kX_one rfl ?_
      refine kX_ret (i := .ireturn) (len := 1) rfl (Or.inr rfl) rfl (hQ _)
  repeat refine kX_one rfl ?_
  refine kX_ialdV rfl rfl (by decide) (c) (by first | rfl | decide) (by omega) (e2) ?_
  refine kX_ialdV rfl rfl (by decide) (p) (by first | rfl | decide) (by omega) (hv) ?_
  repeat refine kX_one rfl ?_
  refine kX_cal (mr_in L xs d σ _ _ _) rfl (Or.inr rfl) rfl rfl rfl (fun r1 σ1 q1 => ?_)
  obtain ⟨rfl, rfl⟩ := q1
  rw [isB_dec]
  repeat refine kX_one rfl ?_
  refine kX_if (fun q => ?_) (fun q => ?_)
  · repeat refine kX_one rfl ?_
    refine kX_ret (i := .ireturn) (len := 1) rfl (Or.inr rfl) rfl (hQ _)
  · obtain ⟨q1, q2⟩ := isB_ne.mp (qeqF q)
    obtain ⟨k, hk, rfl⟩ := (in_N (n := v) (by omega)).mp ⟨q1, q2⟩
    exact k53 k hk
set_option maxRecDepth 100000 in
set_option maxHeartbeats 4000000 in
theorem mp_join (L : Nat) (xs : Nat → Int32) (d : Nat) (σ : kS) (n b R S C : Nat) (kl : List Nat) (x y z : Int32) (h : mI σ n b R S C kl) : kXM kT L xs (d + 1) 174 [.ref 232, .int x, .int y, .int z] σ (fun r σ' => (∃ x, r = some (.int x)) ∧ mAfter σ σ' R) := by
  have h2 := h.2.1
  have hR4 := h2.1
  have h5 := h.2.2.2.2.1
  have hC6 := h5.1
  unfold kXM
  repeat refine kX_one rfl ?_
  refine kX_cal (mr_in L xs d σ _ _ _) rfl (Or.inr rfl) rfl rfl rfl (fun r1 σ1 q1 => ?_)
  obtain ⟨rfl, rfl⟩ := q1
  rw [isB_dec]
  repeat refine kX_one rfl ?_
  refine kX_if (fun q => ?_) (fun q => ?_)
  · obtain ⟨q1, q2⟩ := isB_ne.mp (qne q)
    have q2 : ¬ (σ 232 30 - 1).toInt64 < x.toInt64 := q2
    rw [h5.2.1] at q2
    obtain ⟨c, hc, rfl⟩ := (in_N (by omega)).mp ⟨q1, q2⟩
    obtain ⟨p, a, nn, j, e1, e2, e3, e4, e5, e6, e7, e8, e9, e10⟩ := h5.2.2 c hc
    repeat refine kX_one rfl ?_
    refine kX_baldN rfl rfl (by decide) (c) (by first | rfl | decide) (by omega) ?_
    repeat refine kX_one rfl ?_
    refine kX_if (fun q => ?_) (fun q => ?_)
    · have hs : σ 257 c = 0 := qeq q
      have haR := e5 hs
      obtain ⟨⟨v, hv6, hv⟩, -⟩ := h2.2.2.1 p e1
      obtain ⟨⟨w, hw6, hw⟩, -⟩ := h2.2.2.1 a haR
      exact mr_join30 L xs d σ c p a j v w y z (by omega) (by omega) (by omega) hv6 hw6 e8 e2 e3 e9 hv hw _ (fun x => ⟨⟨_, rfl⟩, mAfter_same h⟩) (fun k k' hk hk' hj x => ⟨⟨_, rfl⟩, mLow_jn σ c j _ _, n, b, S, C, kl, mI_jn h hc e9 hj e2 e1 e3 haR (by rw [hv, fN_nI (by omega)]; exact hk) (by rw [hw, fN_nI (by omega)]; exact hk')⟩)
    · repeat refine kX_one rfl ?_
      refine kX_ret (i := .ireturn) (len := 1) rfl (Or.inr rfl) rfl (⟨⟨_, rfl⟩, mAfter_same h⟩)
  · repeat refine kX_one rfl ?_
    refine kX_ret (i := .ireturn) (len := 1) rfl (Or.inr rfl) rfl (⟨⟨_, rfl⟩, mAfter_same h⟩)
end
