/-! the reference: one TERM more, the rest as it was -/
def rowT : List Nat := 9 :: rowJ
/-- nothing has changed but TERMS from n on, the row and what it is made of -/
def mGr (σ τ : kS) (n : Nat) : Prop := (∀ c, c ∉ rowC → τ c = σ c) ∧ (∀ j, j ∉ rowT → τ 232 j = σ 232 j) ∧ ∀ u, u < n → τ 233 u = σ 233 u ∧ τ 234 u = σ 234 u ∧ τ 235 u = σ 235 u
theorem mGr_all {σ τ : kS} {n b t : Nat} (h : mTb σ n b) (hF : mGr σ τ n) (ht : t < n) : tvl (τ 233) (τ 234) (τ 235) t = tvl (σ 233) (σ 234) (σ 235) t ∧ tgd (τ 233) (τ 234) (τ 235) t = tgd (σ 233) (σ 234) (σ 235) t ∧ tvs (τ 233) (τ 234) (τ 235) t = tvs (σ 233) (σ 234) (σ 235) t := by
  have h200 := h.1
  have hF2 : ∀ u, u < n → τ 233 u = σ 233 u ∧ τ 234 u = σ 234 u ∧ τ 235 u = σ 235 u := fun u hu => hF.2.2 u (by omega)
  refine ⟨tA_congr (mTb_num h) (fun u hu => ⟨(hF2 u hu).1, (hF2 u hu).2.1, (hF2 u hu).2.2, rfl⟩) t ht, tA_congr (mTb_num h) (fun u hu => ⟨(hF2 u hu).1, (hF2 u hu).2.1, (hF2 u hu).2.2, by rw [(hF2 u hu).1]⟩) t ht, tA_congr (mTb_num h) (fun u hu => ⟨(hF2 u hu).1, (hF2 u hu).2.1, (hF2 u hu).2.2, by rw [(hF2 u hu).1]⟩) t ht⟩
theorem mGr_St {σ τ : kS} {n b s t : Nat} (h : mTb σ n b) (hF : mGr σ τ n) (ht : t < n) (hs : mSt σ n s t) : mSt τ n s t := by
  intro u hu
  rw [(mGr_all h hF ht).2.2] at hu
  obtain ⟨p, z, h1, h2, h3, h4, h5, h6⟩ := hs u hu
  refine ⟨p, z, h1, h2, ?_, ?_, (mGr_all h hF h2).2.1.trans h5, ?_⟩
  · rw [hF.1 241 (by decide)]
    exact h3
  · rw [hF.1 265 (by decide)]
    exact h4
  · rw [hF.1 240 (by decide), (hF.2.2 z (by have := h.1; omega)).1]
    exact h6
theorem mGr_Ro {σ τ : kS} {n b R : Nat} (h : mTb σ n b) (hF : mGr σ τ n) (hR : mRo σ n R) : mRo τ n R := by
  obtain ⟨h1, h2, h3, h4, h5, h6⟩ := hR
  have c := fun c (hc : c ∉ rowC) => hF.1 c hc
  refine ⟨h1, (hF.2.1 _ (by decide)).trans h2, ?_, ?_, ?_, ?_⟩
  · rw [c 244 (by decide), c 247 (by decide)]
    exact h3
  · rw [c 244 (by decide), c 245 (by decide), c 239 (by decide), c 241 (by decide), c 240 (by decide), c 246 (by decide)]
    intro r k hr hk
    obtain ⟨t, so, as, a1, a2, a3, a4⟩ := h4 r k hr hk
    exact ⟨t, so, as, a1, a2, ((hF.2.2 t (by have := h.1; omega)).1).trans a3, a4⟩
  · rw [c 244 (by decide), c 245 (by decide)]
    intro t ht hk
    exact h5 t ht ((hF.2.2 t (by have := h.1; omega)).1.symm.trans hk)
  · rw [c 247 (by decide), c 248 (by decide), c 239 (by decide), c 249 (by decide), c 246 (by decide), c 241 (by decide)]
    intro r e hr he
    obtain ⟨t, a1, a2, a3, a4⟩ := h6 r e hr he
    refine ⟨t, a1, a2, ?_, ?_⟩
    · rw [(mGr_all h hF a1).2.2]
      exact a3
    · rw [(mGr_all h hF a1).2.2]
      intro hs u hu ha
      obtain ⟨e', b1, b2, b3⟩ := a4 hs u hu ha
      refine ⟨e', b1, b2, ?_⟩
      obtain ⟨t', d1, d2, -⟩ := h6 r e' hr (by omega)
      rw [d2, fN_nI (by have := h.1; omega)] at b3 ⊢
      rw [(mGr_all h hF d1).2.2]
      exact b3
theorem mGr_Sn {σ τ : kS} {n b R s dn : Nat} (h : mTb σ n b) (hR : mRo σ n R) (hF : mGr σ τ n) (hS : mSn σ n R s dn) : mSn τ n R s dn := by
  obtain ⟨r, h1, h2, h3, h4, h5, h6, h7⟩ := hS
  have c := fun c (hc : c ∉ rowC) => hF.1 c hc
  refine ⟨r, h1, ?_, ?_, ?_, fun k hk => ?_, fun e he => ?_, ?_⟩
  · rw [c 255 (by decide)]; exact h2
  · rw [c 264 (by decide)]; exact h3
  · rw [c 247 (by decide)]; exact h4
  · have := h5 k hk
    unfold mVk at this ⊢
    rw [c 265 (by decide), c 244 (by decide), c 246 (by decide), c 240 (by decide), c 245 (by decide)]
    rcases this with q | ⟨z, q1, q2, q3, q4, q5⟩
    · exact Or.inl q
    · refine Or.inr ⟨z, q1, q2, (mGr_all h hF q1).2.1.trans q3, q4, ?_⟩
      rw [(hF.2.2 z (by have := h.1; omega)).1]
      exact q5
  · rw [c 248 (by decide)]
    obtain ⟨t, d1, d2, -⟩ := hR.2.2.2.2.2 r e h1 (by omega)
    have := h6 e he
    rw [d2, fN_nI (by have := h.1; omega)] at this ⊢
    exact mGr_St h hF d1 this
  · rw [c 244 (by decide), c 246 (by decide), c 265 (by decide), c 249 (by decide), c 245 (by decide), c 248 (by decide)]
    intro k hk ha hv
    obtain ⟨e, e1, e2, e3⟩ := h7 k hk ha hv
    obtain ⟨t, d1, d2, -⟩ := hR.2.2.2.2.2 r e h1 (by omega)
    refine ⟨e, e1, e2, ?_⟩
    rw [d2, fN_nI (by have := h.1; omega)] at e3 ⊢
    rw [(mGr_all h hF d1).2.2]
    exact e3
theorem mGr_Rn {σ τ : kS} {n b R S : Nat} {ds : List Nat} (h : mTb σ n b) (hR : mRo σ n R) (hF : mGr σ τ n) (hS : mRn σ n R S ds) : mRn τ n R S ds := by
  obtain ⟨h1, h2, h3, h4⟩ := hS
  refine ⟨(hF.2.1 _ (by decide)).trans h1, ?_, h3, fun s hs => mGr_Sn h hR hF (h4 s hs)⟩
  rw [hF.1 274 (by decide)]
  exact h2
theorem mGr_Se {σ τ : kS} {n b R S : Nat} (h : mTb σ n b) (hF : mGr σ τ n) (hS : mSe σ n R S) : mSe τ n R S := by
  obtain ⟨h1, h2, h3⟩ := hS
  have c := fun c (hc : c ∉ rowC) => hF.1 c hc
  refine ⟨h1, (hF.2.1 _ (by decide)).trans h2, ?_⟩
  rw [c 255 (by decide), c 250 (by decide), c 244 (by decide), c 246 (by decide), c 256 (by decide), c 240 (by decide), c 245 (by decide)]
  intro s hs
  obtain ⟨r, a1, a2, a3, a4⟩ := h3 s hs
  refine ⟨r, a1, a2, a3, fun k hk => ?_⟩
  obtain ⟨as, b1, b2⟩ := a4 k hk
  refine ⟨as, b1, ?_⟩
  rcases b2 with b2 | ⟨b2, z, b3, b4, b5⟩
  · exact Or.inl b2
  · exact Or.inr ⟨b2, z, b3, b4, (hF.2.2 z (by have := h.1; omega)).1.trans b5⟩
theorem mGr_Kn {σ τ : kS} {n b : Nat} {kl : List Nat} (h : mTb σ n b) (hF : mGr σ τ n) (hK : mKn σ n kl) : mKn τ n kl := by
  obtain ⟨h1, h2, h3, h4⟩ := hK
  refine ⟨(hF.2.1 _ (by decide)).trans h1, h2, ?_, fun t ht => ⟨(h4 t ht).1, (mGr_all h hF (h4 t ht).1).2.1.trans (h4 t ht).2⟩⟩
  rw [hF.1 254 (by decide)]
  exact h3
theorem mGr_Cl {σ τ : kS} {n R C : Nat} (hF : mGr σ τ n) (hC : mCl σ R C) : mCl τ R C := by
  unfold mCl
  rw [hF.1 258 (by decide), hF.1 259 (by decide), hF.1 257 (by decide), hF.1 244 (by decide), hF.1 260 (by decide), hF.1 261 (by decide), hF.1 262 (by decide), hF.1 263 (by decide)]
  exact ⟨hC.1, (hF.2.1 _ (by decide)).trans hC.2.1, hC.2.2⟩
theorem mGr_bdv {σ τ : kS} {n b R r dn k : Nat} (h : mTb σ n b) (hR : mRo σ n R) (hF : mGr σ τ n) (hr : r < R) (hdn : dn ≤ fN (σ 247 r)) : bdv τ r dn k ↔ bdv σ r dn k := by
  have hn := h.1
  have c := fun c (hc : c ∉ rowC) => hF.1 c hc
  unfold bdv
  rw [c 244 (by decide), c 246 (by decide), c 249 (by decide), c 245 (by decide), c 248 (by decide)]
  refine and_congr_right (fun _ => or_congr_right ?_)
  constructor
  · rintro ⟨e, e1, e2, e3⟩
    obtain ⟨t, t1, t2, -⟩ := hR.2.2.2.2.2 r e hr (by omega)
    refine ⟨e, e1, e2, ?_⟩
    rw [t2, fN_nI (by omega)] at e3 ⊢
    rw [(mGr_all h hF t1).2.2] at e3
    exact e3
  · rintro ⟨e, e1, e2, e3⟩
    obtain ⟨t, t1, t2, -⟩ := hR.2.2.2.2.2 r e hr (by omega)
    refine ⟨e, e1, e2, ?_⟩
    rw [t2, fN_nI (by omega)] at e3 ⊢
    rw [(mGr_all h hF t1).2.2]
    exact e3
theorem mGr_Vz {σ τ : kS} {n b r k : Nat} {x : Int32} (h : mTb σ n b) (hF : mGr σ τ n) (hz : mVz σ n r k x) : mVz τ n r k x := by
  obtain ⟨z, z1, z2, z3, z4⟩ := hz
  refine ⟨z, z1, z2, (mGr_all h hF z1).2.1.trans z3, ?_⟩
  rw [hF.1 240 (by decide), hF.1 245 (by decide), (hF.2.2 z (by have := h.1; omega)).1]
  exact z4
theorem mGr_Bi {σ τ : kS} {n b R S : Nat} {ds : List Nat} (h : mTb σ n b) (hR : mRo σ n R) (hF : mGr σ τ n) (hS : mRn σ n R S ds) (hB : mBi σ ds) : mBi τ ds := by
  have hn := h.1
  have hR4 := hR.1
  intro k hk
  obtain ⟨m, m1, m2, m3⟩ := hB k hk
  obtain ⟨r, r1, r2, r3, r4, -⟩ := hS.2.2.2 _ (hS.2.2.1 _ (List.getElem_mem hk))
  have hcnt : (ds.take k).count ds[k] < ds.count ds[k] := by
    have := count_take_le ds ds[k] (k + 1)
    rw [List.take_succ_eq_append_getElem hk, List.count_append] at this
    simp at this
    omega
  have hfr : fN (σ 255 ds[k]) = r := by rw [r2]; exact fN_nI (by omega)
  refine ⟨m, m1, by rw [hF.1 275 (by decide)]; exact m2, fun p hp => ?_⟩
  rw [m3 p hp, hF.1 255 (by decide), hfr]
  unfold nbv
  rw [mGr_bdv h hR hF r1 (by omega), mGr_bdv h hR hF r1 (by omega)]
theorem mGr_Ak {σ τ : kS} {n b R S : Nat} (h : mTb σ n b) (hR : mRo σ n R) (hSe : mSe σ n R S) (hF : mGr σ τ n) (hA : mAk σ n R S) : mAk τ n R S := by
  have hn := h.1
  have hR4 := hR.1
  have c := fun c (hc : c ∉ rowC) => hF.1 c hc
  rcases hA with hA | ⟨as, fin, a0, a1, a2, a3, a4⟩
  · exact Or.inl ((hF.2.1 _ (by decide)).trans hA)
  · refine Or.inr ⟨as, fin, a0, (hF.2.1 _ (by decide)).trans a1, by rw [c 288 (by decide)]; exact a2, ?_, ?_⟩
    · rw [c 247 (by decide), c 255 (by decide), c 246 (by decide), c 256 (by decide)]
      intro s hs
      obtain ⟨b1, b2, b3⟩ := a3 s hs
      obtain ⟨r, r1, r2, -⟩ := hSe.2.2 s b1
      have hfr : fN (σ 255 s) = r := by rw [r2]; exact fN_nI (by omega)
      refine ⟨b1, b2, fun k hk hb => ?_⟩
      rw [hfr] at hb b2 b3 ⊢
      rw [mGr_bdv h hR hF r1 b2] at hb
      obtain ⟨c1, c2⟩ := b3 k hk hb
      exact ⟨mGr_Vz h hF c1, c2⟩
    · rw [c 289 (by decide), c 285 (by decide), c 255 (by decide)]
      intro i hi
      obtain ⟨st, s1, s2, s3⟩ := a4 i hi
      obtain ⟨b1, b2, -⟩ := a3 _ (List.getElem_mem hi)
      obtain ⟨r, r1, r2, -⟩ := hSe.2.2 _ b1
      have hfr : fN (σ 255 as[i]) = r := by rw [r2]; exact fN_nI (by omega)
      have hcnt : (as.take i).count as[i] + 1 ≤ as.count as[i] := by
        have := count_take_le as as[i] (i + 1)
        rw [List.take_succ_eq_append_getElem hi, List.count_append] at this
        simp at this
        omega
      refine ⟨st, s1, s2, fun k hk => ?_⟩
      rw [s3 k hk, hfr]
      rw [hfr] at b2
      rw [propext (mGr_bdv h hR hF r1 (by omega))]
theorem mGr_new {σ τ : kS} {n k : Nat} {a c : Int32} (h : mNw σ τ n k a c) : mGr σ τ n := by
  obtain ⟨z, g, nx, hd, jd, rfl, -⟩ := h
  refine ⟨fun c hc => ?_, fun j hj => ?_, fun u hu => ⟨pk_un (by omega), pk_un (by omega), pk_un (by omega)⟩⟩
  · simp only [rowC, List.mem_cons, List.not_mem_nil, or_false, not_or] at hc
    simp [mU, va_up, hc]
  · simp only [rowT, rowJ, List.mem_cons, List.not_mem_nil, or_false, not_or] at hj
    show mO (σ 232) n jd j = _
    unfold mO
    rw [pk_un hj.1, pk_un hj.2.2.2.2.2.1, pk_un hj.2.2.1, pk_un hj.2.1]
/-- more TERMS -/
theorem mSt_up {σ : kS} {n n' s t : Nat} (hn : n ≤ n') (h : mSt σ n s t) : mSt σ n' s t := fun u hu => by
  obtain ⟨p, z, h1, h2, h3⟩ := h u hu
  exact ⟨p, z, h1, by omega, h3⟩
theorem mRo_up {σ : kS} {n n' R : Nat} (hn : n ≤ n') (hk : ∀ t, n ≤ t → t < n' → σ 233 t ≠ nI 3) (h : mRo σ n R) : mRo σ n' R := by
  obtain ⟨h1, h2, h3, h4, h5, h6⟩ := h
  refine ⟨h1, h2, h3, fun r k hr hkk => ?_, fun t ht ht3 => ?_, fun r e hr he => ?_⟩
  · obtain ⟨t, so, as, a1, a2⟩ := h4 r k hr hkk
    exact ⟨t, so, as, by omega, a2⟩
  · refine h5 t (Nat.not_le.mp (fun hh => hk t hh ht ht3)) ht3
  · obtain ⟨t, a1, a2⟩ := h6 r e hr he
    exact ⟨t, by omega, a2⟩
theorem mVz_up {σ : kS} {n n' r k : Nat} {x : Int32} (hn : n ≤ n') (h : mVz σ n r k x) : mVz σ n' r k x := by
  obtain ⟨z, z1, z2⟩ := h
  exact ⟨z, by omega, z2⟩
theorem mSn_up {σ : kS} {n n' R s dn : Nat} (hn : n ≤ n') (h : mSn σ n R s dn) : mSn σ n' R s dn := by
  obtain ⟨r, h1, h2, h3, h4, h5, h6, h7⟩ := h
  refine ⟨r, h1, h2, h3, h4, fun k hk => ?_, fun e he => mSt_up hn (h6 e he), h7⟩
  rcases h5 k hk with q | ⟨z, q1, q2⟩
  · exact Or.inl q
  · exact Or.inr ⟨z, by omega, q2⟩
theorem mRn_up {σ : kS} {n n' R S : Nat} {ds : List Nat} (hn : n ≤ n') (h : mRn σ n R S ds) : mRn σ n' R S ds := ⟨h.1, h.2.1, h.2.2.1, fun s hs => mSn_up hn (h.2.2.2 s hs)⟩
theorem mSe_up {σ : kS} {n n' R S : Nat} (hn : n ≤ n') (h : mSe σ n R S) : mSe σ n' R S := by
  obtain ⟨h1, h2, h3⟩ := h
  refine ⟨h1, h2, fun s hs => ?_⟩
  obtain ⟨r, a1, a2, a3, a4⟩ := h3 s hs
  refine ⟨r, a1, a2, a3, fun k hk => ?_⟩
  obtain ⟨as, b1, b2⟩ := a4 k hk
  refine ⟨as, b1, ?_⟩
  rcases b2 with b2 | ⟨b2, z, b3, b4⟩
  · exact Or.inl b2
  · exact Or.inr ⟨b2, z, by omega, b4⟩
theorem mKn_up {σ : kS} {n n' : Nat} {kl : List Nat} (hn : n ≤ n') (h : mKn σ n kl) : mKn σ n' kl := ⟨h.1, h.2.1, h.2.2.1, fun t ht => ⟨by have := (h.2.2.2 t ht).1; omega, (h.2.2.2 t ht).2⟩⟩
theorem mAk_up {σ : kS} {n n' R S : Nat} (hn : n ≤ n') (h : mAk σ n R S) : mAk σ n' R S := by
  rcases h with h | ⟨as, fin, a0, a1, a2, a3, a4⟩
  · exact Or.inl h
  · refine Or.inr ⟨as, fin, a0, a1, a2, fun s hs => ?_, a4⟩
    obtain ⟨b1, b2, b3⟩ := a3 s hs
    exact ⟨b1, b2, fun k hk hb => ⟨mVz_up hn (b3 k hk hb).1, (b3 k hk hb).2⟩⟩
/-- all stays, with more TERMS, none of them a VARIABLE; the row is gone -/
theorem mI_gr {σ τ : kS} {n n' b R S C : Nat} {kl : List Nat} (h : mI σ n b R S C kl) (hG : mGr σ τ n) (hn : n ≤ n') (hk : ∀ t, n ≤ t → t < n' → τ 233 t ≠ nI 3) (hT : mTb τ n' 200) (hr : τ 232 47 = 0) : mI τ n' 200 R S C kl := by
  obtain ⟨h1, h2, h3, h4, h5, h6, h7⟩ := h
  refine ⟨hT, mRo_up hn hk (mGr_Ro h1 hG h2), mSe_up hn (mGr_Se h1 hG h3), mKn_up hn (mGr_Kn h1 hG h4), mGr_Cl hG h5, ?_, mAk_up hn (mGr_Ak h1 h2 h3 hG h7)⟩
  rcases h6 with h6 | ⟨h6, ds, g1, g2, g3⟩
  · exact Or.inl ((hG.2.1 _ (by decide)).trans h6)
  · exact Or.inr ⟨(hG.2.1 _ (by decide)).trans h6, ds, mRn_up hn (mGr_Rn h1 h2 hG g1), mGr_Bi h1 h2 hG g1 g2, Or.inl hr⟩
theorem mLow_gr {σ τ : kS} {n : Nat} (h : mGr σ τ n) : mLow σ τ := fun c hc => h.1 c (fun q => by
  simp only [rowC, List.mem_cons, List.not_mem_nil, or_false] at q
  omega)
theorem mI_new {σ τ : kS} {n b R S C k : Nat} {kl : List Nat} {a c : Int32} (h : mI σ n b R S C kl) (hN : mNw σ τ n k a c) (hk : k ≠ 3) (hk9 : k ≤ 9) : mI τ (n + 1) 200 R S C kl := by
  have hG := mGr_new hN
  obtain ⟨z, g, nx, hd, jd, rfl, hT⟩ := hN
  refine mI_gr h hG (by omega) (fun t h1 h2 => ?_) hT rfl
  obtain rfl : t = n := by omega
  show upd (σ 233) t (nI k) t ≠ nI 3
  rw [pk_us]
  exact nI_ne hk
theorem mI_rs {σ τ : kS} {n b R S C : Nat} {kl : List Nat} (h : mI σ n b R S C kl) (hN : mRs σ τ n) : mGr σ τ n ∧ mI τ n 200 R S C kl := by
  obtain ⟨hd, jd, rfl, hT⟩ := hN
  have hG : mGr σ (mU σ (σ 233) (σ 234) (σ 235) (σ 236) (σ 237) (σ 243) hd (mO0 (σ 232) jd)) n := by
    refine ⟨fun c hc => ?_, fun j hj => ?_, fun u hu => ⟨rfl, rfl, rfl⟩⟩
    · simp only [rowC, List.mem_cons, List.not_mem_nil, or_false, not_or] at hc
      simp [mU, va_up, hc]
    · simp only [rowT, rowJ, List.mem_cons, List.not_mem_nil, or_false, not_or] at hj
      show mO0 (σ 232) jd j = _
      unfold mO0
      rw [pk_un hj.2.2.2.2.2.1, pk_un hj.2.2.1, pk_un hj.2.1]
  exact ⟨hG, mI_gr h hG (Nat.le_refl _) (fun t h1 h2 => by omega) hT rfl⟩
