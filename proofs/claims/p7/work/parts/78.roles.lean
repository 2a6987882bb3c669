/-! the reference: ROLES change, but none that has a session -/
def roF (σ τ : kS) : Prop := ∃ VS V TA E ET SE CL OR SO ON x, τ = va_up (va_up (va_up (va_up (va_up (va_up (va_up (va_up (va_up (va_up (va_up σ 244 VS) 245 V) 246 TA) 247 E) 248 ET) 249 SE) 250 CL) 239 OR) 240 SO) 241 ON) 232 (upd (σ 232) 13 x)
/-- the role r is as it was -/
def roO (σ τ : kS) (r : Nat) : Prop := τ 244 r = σ 244 r ∧ τ 247 r = σ 247 r ∧ τ 250 r = σ 250 r ∧ ∀ k, k < 6 → τ 245 (6 * r + k) = σ 245 (6 * r + k) ∧ τ 246 (6 * r + k) = σ 246 (6 * r + k) ∧ τ 248 (6 * r + k) = σ 248 (6 * r + k) ∧ τ 249 (6 * r + k) = σ 249 (6 * r + k)
def roV (σ τ : kS) (n : Nat) : Prop := ∀ t, t < n → τ 240 t = σ 240 t ∧ τ 241 t = σ 241 t
theorem ro_bdv {σ τ : kS} {r dn k : Nat} (hF : roF σ τ) (hO : roO σ τ r) (hv : fN (σ 244 r) ≤ 6) (hdn : dn ≤ 6) : bdv τ r dn k ↔ bdv σ r dn k := by
  obtain ⟨o1, o2, o3, o4⟩ := hO
  have hk : τ 233 = σ 233 ∧ τ 234 = σ 234 ∧ τ 235 = σ 235 := by
    obtain ⟨VS, V, TA, E, ET, SE, CL, OR, SO, ON, x, rfl⟩ := hF
    exact ⟨rfl, rfl, rfl⟩
  unfold bdv
  rw [o1, hk.1, hk.2.1, hk.2.2]
  refine and_congr_right (fun q => ?_)
  rw [(o4 k (by omega)).1, (o4 k (by omega)).2.1]
  refine or_congr_right ?_
  constructor
  · rintro ⟨e, e1, e2, e3⟩
    rw [(o4 e (by omega)).2.2.1] at e3
    rw [(o4 e (by omega)).2.2.2] at e2
    exact ⟨e, e1, e2, e3⟩
  · rintro ⟨e, e1, e2, e3⟩
    rw [← (o4 e (by omega)).2.2.1] at e3
    rw [← (o4 e (by omega)).2.2.2] at e2
    exact ⟨e, e1, e2, e3⟩
/-- what stays besides -/
theorem ro_c {σ τ : kS} (hF : roF σ τ) : τ 233 = σ 233 ∧ τ 234 = σ 234 ∧ τ 235 = σ 235 ∧ τ 265 = σ 265 ∧ τ 264 = σ 264 ∧ τ 255 = σ 255 ∧ τ 274 = σ 274 ∧ τ 275 = σ 275 ∧ τ 256 = σ 256 := by
  obtain ⟨VS, V, TA, E, ET, SE, CL, OR, SO, ON, x, rfl⟩ := hF
  exact ⟨rfl, rfl, rfl, rfl, rfl, rfl, rfl, rfl, rfl⟩
theorem ro_f {σ τ : kS} (hF : roF σ τ) {j : Nat} (hj : j ≠ 13) : τ 232 j = σ 232 j := by
  obtain ⟨VS, V, TA, E, ET, SE, CL, OR, SO, ON, x, rfl⟩ := hF
  exact pk_un hj
theorem ro_Vz {σ τ : kS} {n R r k : Nat} {x : Int32} (hn : n ≤ 200) (hR : mRo σ n R) (hF : roF σ τ) (hO : roO σ τ r) (hV : roV σ τ n) (hr : r < R) (hk : k < fN (σ 244 r)) (hk6 : k < 6) (hz : mVz σ n r k x) : mVz τ n r k x := by
  obtain ⟨z, z1, z2, z3, z4⟩ := hz
  obtain ⟨c1, c2, c3, -⟩ := ro_c hF
  obtain ⟨t, so, as, t1, t2, -⟩ := hR.2.2.2.1 r k hr hk
  refine ⟨z, z1, z2, by rw [c1, c2, c3]; exact z3, ?_⟩
  rw [(hO.2.2.2 k hk6).1, c1]
  rw [t2, fN_nI (by omega)] at z4 ⊢
  rw [(hV t t1).1]
  exact z4
theorem ro_Sn {σ τ : kS} {n n1 b R R' s dn : Nat} (h : mTb σ n1 b) (hn1 : n ≤ n1) (hR : mRo σ n R) (hRR : R ≤ R') (hF : roF σ τ) (hO : roO σ τ (fN (σ 255 s))) (hV : roV σ τ n) (hS : mSn σ n R s dn) : mSn τ n R' s dn := by
  have hn := h.1
  obtain ⟨r, h1, h2, h3, h4, h5, h6, h7⟩ := hS
  have hR4 := hR.1
  rw [h2, fN_nI (by omega)] at hO
  obtain ⟨⟨v, hv6, hv⟩, ev, he6, hev⟩ := hR.2.2.1 r h1
  have hfv : fN (σ 244 r) = v := by rw [hv]; exact fN_nI (by omega)
  have hfe : fN (σ 247 r) = ev := by rw [hev]; exact fN_nI (by omega)
  obtain ⟨c1, c2, c3, c4, c5, c6, -⟩ := ro_c hF
  refine ⟨r, by omega, by rw [c6]; exact h2, by rw [c5]; exact h3, by rw [hO.2.1]; exact h4, fun k hk => ?_, fun e he => ?_, ?_⟩
  · have := h5 k hk
    unfold mVk at this ⊢
    rw [c4, hO.1, (hO.2.2.2 k hk).2.1, c1, c2, c3, (hO.2.2.2 k hk).1]
    rcases this with q | ⟨z, q1, q2, q3, q4, q5⟩
    · exact Or.inl q
    · obtain ⟨t, so, as, t1, t2, -⟩ := hR.2.2.2.1 r k h1 q4
      refine Or.inr ⟨z, q1, q2, q3, q4, ?_⟩
      rw [t2, fN_nI (by omega)] at q5 ⊢
      rw [(hV t t1).1]
      exact q5
  · obtain ⟨t, t1, t2, -⟩ := hR.2.2.2.2.2 r e h1 (by omega)
    have := h6 e he
    rw [(hO.2.2.2 e (by omega)).2.2.1]
    rw [t2, fN_nI (by omega)] at this ⊢
    intro u hu
    rw [c1, c2, c3] at hu ⊢
    obtain ⟨p, z, p1, p2, p3, p4, p5, p6⟩ := this u hu
    have hu2 := (tvs_mem (mTb_num h) t (by omega) u hu).2.2
    refine ⟨p, z, p1, p2, (hV u (by omega)).2.trans p3, by rw [c4]; exact p4, p5, ?_⟩
    rw [(hV u (by omega)).1]
    exact p6
  · rw [hO.1, c1, c2, c3, c4]
    intro k hk ha hv'
    rw [(hO.2.2.2 k (by omega)).2.1] at ha
    obtain ⟨e, e1, e2, e3⟩ := h7 k hk ha hv'
    exact ⟨e, e1, (hO.2.2.2 e (by omega)).2.2.2.trans e2, by rw [(hO.2.2.2 e (by omega)).2.2.1, (hO.2.2.2 k (by omega)).1]; exact e3⟩
theorem ro_Rn {σ τ : kS} {n n1 b R R' S : Nat} {ds : List Nat} (h : mTb σ n1 b) (hn1 : n ≤ n1) (hR : mRo σ n R) (hRR : R ≤ R') (hF : roF σ τ) (hO : ∀ s, s < S → roO σ τ (fN (σ 255 s))) (hV : roV σ τ n) (hS : mRn σ n R S ds) : mRn τ n R' S ds := by
  obtain ⟨h1, h2, h3, h4⟩ := hS
  refine ⟨(ro_f hF (by decide)).trans h1, ?_, h3, fun s hs => ro_Sn h hn1 hR hRR hF (hO s hs) hV (h4 s hs)⟩
  rw [(ro_c hF).2.2.2.2.2.2.1]
  exact h2
theorem ro_Bi {σ τ : kS} {n R S : Nat} {ds : List Nat} (hR : mRo σ n R) (hF : roF σ τ) (hO : ∀ s, s < S → roO σ τ (fN (σ 255 s))) (hS : mRn σ n R S ds) (hB : mBi σ ds) : mBi τ ds := by
  have hR4 := hR.1
  intro k hk
  obtain ⟨m, m1, m2, m3⟩ := hB k hk
  have hs := hS.2.2.1 _ (List.getElem_mem hk)
  obtain ⟨r, r1, r2, r3, r4, -⟩ := hS.2.2.2 _ hs
  obtain ⟨⟨v, hv6, hv⟩, ev, he6, hev⟩ := hR.2.2.1 r r1
  have hfv : fN (σ 244 r) = v := by rw [hv]; exact fN_nI (by omega)
  have hfe : fN (σ 247 r) = ev := by rw [hev]; exact fN_nI (by omega)
  have hcnt : (ds.take k).count ds[k] < ds.count ds[k] := by
    have := count_take_le ds ds[k] (k + 1)
    rw [List.take_succ_eq_append_getElem hk, List.count_append] at this
    simp at this
    omega
  have hfr : fN (σ 255 ds[k]) = r := by rw [r2]; exact fN_nI (by omega)
  have hO := hO _ hs
  rw [hfr] at hO
  obtain ⟨c1, c2, c3, c4, c5, c6, c7, c8, -⟩ := ro_c hF
  refine ⟨m, m1, by rw [c8]; exact m2, fun p hp => ?_⟩
  rw [m3 p hp, c6, hfr]
  unfold nbv
  rw [ro_bdv hF hO (by omega) (by omega), ro_bdv hF hO (by omega) (by omega)]
theorem ro_Se {σ τ : kS} {n R R' S : Nat} (hn : n ≤ 200) (hR : mRo σ n R) (hRR : R ≤ R') (hF : roF σ τ) (hO : ∀ s, s < S → roO σ τ (fN (σ 255 s))) (hV : roV σ τ n) (hS : mSe σ n R S) : mSe τ n R' S := by
  have hR4 := hR.1
  obtain ⟨h1, h2, h3⟩ := hS
  obtain ⟨c1, c2, c3, c4, c5, c6, c7, c8, c9⟩ := ro_c hF
  refine ⟨h1, (ro_f hF (by decide)).trans h2, fun s hs => ?_⟩
  obtain ⟨r, a1, a2, a3, a4⟩ := h3 s hs
  have hO := hO s hs
  rw [a2, fN_nI (by omega)] at hO
  obtain ⟨⟨v, hv6, hv⟩, -⟩ := hR.2.2.1 r a1
  have hfv : fN (σ 244 r) = v := by rw [hv]; exact fN_nI (by omega)
  refine ⟨r, by omega, by rw [c6]; exact a2, by rw [hO.2.2.1]; exact a3, ?_⟩
  rw [hO.1, c1, c9]
  intro k hk
  obtain ⟨as, b1, b2⟩ := a4 k hk
  obtain ⟨t, so, as', t1, t2, -⟩ := hR.2.2.2.1 r k a1 hk
  refine ⟨as, (hO.2.2.2 k (by omega)).2.1.trans b1, ?_⟩
  rw [(hO.2.2.2 k (by omega)).1]
  rw [t2, fN_nI (by omega)] at b2 ⊢
  rw [(hV t t1).1]
  exact b2
theorem ro_Ak {σ τ : kS} {n R R' S : Nat} (hn : n ≤ 200) (hR : mRo σ n R) (hSe : mSe σ n R S) (hF : roF σ τ) (hO : ∀ s, s < S → roO σ τ (fN (σ 255 s))) (hV : roV σ τ n) (hA : mAk σ n R S) : mAk τ n R' S := by
  have hR4 := hR.1
  obtain ⟨c1, c2, c3, c4, c5, c6, c7, c8, c9⟩ := ro_c hF
  have ca : τ 288 = σ 288 ∧ τ 289 = σ 289 ∧ τ 285 = σ 285 := by
    obtain ⟨VS, V, TA, E, ET, SE, CL, OR, SO, ON, x, rfl⟩ := hF
    exact ⟨rfl, rfl, rfl⟩
  rcases hA with hA | ⟨as, fin, a0, a1, a2, a3, a4⟩
  · exact Or.inl ((ro_f hF (by decide)).trans hA)
  · refine Or.inr ⟨as, fin, a0, (ro_f hF (by decide)).trans a1, by rw [ca.1]; exact a2, ?_, ?_⟩
    · rw [c6, c9]
      intro s hs
      obtain ⟨b1, b2, b3⟩ := a3 s hs
      obtain ⟨r, r1, r2, -⟩ := hSe.2.2 s b1
      have hfr : fN (σ 255 s) = r := by rw [r2]; exact fN_nI (by omega)
      have hO := hO s b1
      obtain ⟨⟨v, hv6, hv⟩, ev, he6, hev⟩ := hR.2.2.1 r r1
      have hfv : fN (σ 244 r) = v := by rw [hv]; exact fN_nI (by omega)
      have hfe : fN (σ 247 r) = ev := by rw [hev]; exact fN_nI (by omega)
      rw [hfr] at b2 b3 hO ⊢
      refine ⟨b1, by rw [hO.2.1]; exact b2, fun k hk hb => ?_⟩
      rw [ro_bdv hF hO (by omega) (by omega)] at hb
      obtain ⟨d1, d2⟩ := b3 k hk hb
      rw [(hO.2.2.2 k hk).2.1]
      exact ⟨ro_Vz hn hR hF hO hV r1 hb.1 hk d1, d2⟩
    · rw [ca.2.1, ca.2.2, c6]
      intro i hi
      obtain ⟨st, s1, s2, s3⟩ := a4 i hi
      obtain ⟨b1, b2, -⟩ := a3 _ (List.getElem_mem hi)
      obtain ⟨r, r1, r2, -⟩ := hSe.2.2 _ b1
      have hfr : fN (σ 255 as[i]) = r := by rw [r2]; exact fN_nI (by omega)
      have hO := hO _ b1
      obtain ⟨⟨v, hv6, hv⟩, ev, he6, hev⟩ := hR.2.2.1 r r1
      have hfv : fN (σ 244 r) = v := by rw [hv]; exact fN_nI (by omega)
      have hfe : fN (σ 247 r) = ev := by rw [hev]; exact fN_nI (by omega)
      have hcnt : (as.take i).count as[i] + 1 ≤ as.count as[i] := by
        have := count_take_le as as[i] (i + 1)
        rw [List.take_succ_eq_append_getElem hi, List.count_append] at this
        simp at this
        omega
      refine ⟨st, s1, s2, fun k hk => ?_⟩
      rw [hfr] at b2 hO
      rw [s3 k hk, hfr]
      rw [propext (ro_bdv hF hO (by omega) (by omega))]
theorem ro_Cl {σ τ : kS} {R R' C : Nat} (hRR : R ≤ R') (hF : roF σ τ) (hv : ∀ r, r < R → fN (σ 244 r) ≤ fN (τ 244 r)) (hC : mCl σ R C) : mCl τ R' C := by
  obtain ⟨h1, h2, h3⟩ := hC
  have ca : τ 258 = σ 258 ∧ τ 259 = σ 259 ∧ τ 257 = σ 257 ∧ τ 260 = σ 260 ∧ τ 261 = σ 261 ∧ τ 262 = σ 262 ∧ τ 263 = σ 263 := by
    obtain ⟨VS, V, TA, E, ET, SE, CL, OR, SO, ON, x, rfl⟩ := hF
    exact ⟨rfl, rfl, rfl, rfl, rfl, rfl, rfl⟩
  obtain ⟨d1, d2, d3, d4, d5, d6, d7⟩ := ca
  refine ⟨h1, (ro_f hF (by decide)).trans h2, ?_⟩
  rw [d1, d2, d3, d4, d5, d6, d7]
  intro c hc
  obtain ⟨b, a, nn, j, b1, b2, b3, b4, b5, b6, b7, b8, b9, b10⟩ := h3 c hc
  refine ⟨b, a, nn, j, by omega, b2, b3, fun q => Nat.lt_of_lt_of_le (b4 q) (hv b b1), fun q => by have := b5 q; omega, b6, b7, b8, b9, fun k hk => ?_⟩
  obtain ⟨x, y, x1, x2, x3, x4⟩ := b10 k hk
  exact ⟨x, y, Nat.lt_of_lt_of_le x1 (hv b b1), Nat.lt_of_lt_of_le x2 (hv a x3), by omega, x4⟩
