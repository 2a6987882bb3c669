section
/-! alike: TERMS that come -/
theorem bJ_up {m m' : Nat} {σ : kS} (hm : m ≤ m') (h : bJ m σ) : bJ m' σ := by
  obtain ⟨n, b, R, S, C, kl, h1, h2, h3, h4, h5, h6, h7, h8, h9, h10⟩ := h
  exact ⟨n, b, R, S, C, kl, h1, h2, h3, h4, h5, h6, h7, h8, h9, aM_eq hm (fun _ _ _ => rfl) h10⟩
theorem fG_fr {σ ω : kS} {n : Nat} (hn : n ≤ 200) (hl : ∀ c, c < 232 → ω c = σ c) (hF : mFr σ ω n) : fG σ ω n := by
  refine ⟨fun c _ h2 _ _ _ _ => hF.1 c h2, fun j hj => hF.2.1 j (fun q => hj (List.mem_cons_of_mem _ q)), fun u hu => ⟨(hF.2.2 u (by omega)).1, (hF.2.2 u (by omega)).2.1, (hF.2.2 u (by omega)).2.2, by rw [hF.1 240 (by decide)], by rw [hF.1 241 (by decide)], by rw [hF.1 238 (by decide)]⟩, fun c _ c2 => hl c c2⟩
theorem lst_inj {A : Nat → Int32} {l l' : List Nat} (h1 : l.length ≤ 24) (h2 : l'.length ≤ 24) (h3 : ∀ s ∈ l, s < 4) (h4 : ∀ s ∈ l', s < 4) (e : nI l.length = nI l'.length) (a : lst A l) (b : lst A l') : l = l' := by
  have el : l.length = l'.length := nI_inj e
  refine List.ext_getElem el (fun i i1 i2 => ?_)
  have := (a i i1).symm.trans (b i i2)
  have q1 := h3 _ (List.getElem_mem i1)
  have q2 := h4 _ (List.getElem_mem i2)
  exact nI_inj this
/-- the class's own parts stay when its cells do -/
theorem aT_low {σ ω : kS} {n : Nat} (hl : ∀ c, c < 232 → ω c = σ c) (hr : ∀ t, t < n → ω 233 t = σ 233 t ∧ ω 234 t = σ 234 t ∧ ω 235 t = σ 235 t ∧ ω 236 t = σ 236 t ∧ ω 237 t = σ 237 t ∧ ω 238 t = σ 238 t ∧ ω 239 t = σ 239 t ∧ ω 240 t = σ 240 t ∧ ω 241 t = σ 241 t) (h : aT σ n) : aT ω n := by
  constructor
  · intro t ht
    obtain ⟨e1, e2, e3, e4, e5, e6, e7, e8, e9⟩ := hr t ht
    have := h.1 t ht
    unfold aT1 at this ⊢
    rw [hl 2 (by decide), hl 3 (by decide), hl 4 (by decide), hl 5 (by decide), hl 8 (by decide), hl 9 (by decide), hl 10 (by decide), hl 11 (by decide), hl 12 (by decide), e1, e2, e3, e4, e5, e6, e7, e8, e9]
    exact this
  · have := h.2
    unfold cCn cpt at this ⊢
    rw [hl 2 (by decide), hl 3 (by decide), hl 4 (by decide), hl 7 (by decide), hl 6 (by decide)]
    exact this
/-- sizes and ground of numbered TERMS are told by the tree -/
theorem mTb_sg {σ ω : kS} {n b n' b' t : Nat} (h : mTb σ n b) (h' : mTb ω n' b') (hn : n ≤ n') (hF : ∀ u, u < n → ω 233 u = σ 233 u ∧ ω 234 u = σ 234 u ∧ ω 235 u = σ 235 u) (ht : t < n) : ω 236 t = σ 236 t ∧ ω 237 t = σ 237 t := by
  have e := fT_all h hF ht
  have es : tsz (ω 233) (ω 234) (ω 235) t = tsz (σ 233) (σ 234) (σ 235) t := tA_congr (mTb_num h) (fun u hu => ⟨(hF u hu).1, (hF u hu).2.1, (hF u hu).2.2, rfl⟩) t ht
  constructor
  · rw [h'.2.2.2.2.2.1.2.1 t (Or.inl (by omega)), h.2.2.2.2.2.1.2.1 t (Or.inl ht), es]
  · rw [h'.2.2.2.2.2.2.1 t (Or.inl (by omega)), h.2.2.2.2.2.2.1 t (Or.inl ht), e.2.1]
/-- nothing but the reference's row has changed -/
theorem aB_fr {σ ω : kS} {n b R S C m : Nat} {kl : List Nat} (hI : mI σ n b R S C kl) (hl : ∀ c, c < 232 → ω c = σ c) (hF : mFr σ ω n) (h : aB σ n R S C kl m) : aB ω n R S C kl m := by
  have hG := fG_fr hI.1.1 hl hF
  obtain ⟨h1, h2, h3, h4, h5, h6, h7⟩ := h
  obtain ⟨i1, i2, i3, i4, i5, i6, i7⟩ := hI
  have hR4 := i2.1
  refine ⟨fun r hr => fR_aR1 i1 i2 (fG_R hG (by omega)) hr (h1 r hr), fun s hs => fS_aS1 i1.1 i2 i3 hs (fG_S hG i2 i3 hs) (h2 s hs), fun c hc => fC_aC1 i5 hc (fG_C hG (by have := i5.1; omega)) (h3 c hc), aK_eq (by rw [hl 13 (by decide)]) (hl _ (by decide)) h4, ?_, ?_, aM_eq (Nat.le_refl _) (fun c c1 c2 => hl c (by omega)) h7⟩
  · unfold aU at h5 ⊢
    rw [hl 181 (by decide), hl 17 (by decide), hl 183 (by decide), hl 182 (by decide), hF.2.1 52 (by decide), hF.2.1 55 (by decide), hF.1 274 (by decide), hF.1 264 (by decide), hF.1 265 (by decide)]
    refine ⟨h5.1, fun q => ?_⟩
    obtain ⟨g1, g2, g3, g5, g4⟩ := h5.2 q
    refine ⟨g1, g2, g3, g5, fun hg => ?_⟩
    obtain ⟨ds, d1, d2, d4, d5, d3⟩ := g4 hg
    refine ⟨ds, d1, d2, d4, d5, ?_⟩
    rcases i6 with i6 | ⟨-, ds', p1, -⟩
    · exact absurd i6 q
    · have e : ds' = ds := lst_inj (mRn_len i2 i3.1 p1) d4 (fun s hs => by have := p1.2.2.1 s hs; have := i3.1; omega) (fun s hs => by have := d5 s hs; have := i3.1; omega) (p1.1.symm.trans d1) p1.2.1 d2
      subst e
      rw [mFr_trRun i1 i2 hF i4 p1]
      exact kOk_eq (fun c _ c2 => hl c (by omega)) (fun c _ c2 => hl c (by omega)) (fun t ht => (hF.2.2 t ht).1) (hF.1 _ (by decide)) d3
  · refine aF_fr i1 i2 i3 (hl _ (by decide)) (hl _ (by decide)) (hl _ (by decide)) (hl _ (by decide)) ⟨hF.2.1 _ (by decide), hF.2.1 _ (by decide), hF.2.1 _ (by decide), hF.2.1 _ (by decide)⟩ (hF.1 _ (by decide)) (hF.1 _ (by decide)) (hF.1 _ (by decide)) (fun s _ => by rw [hF.1 255 (by decide)]) (fun s hs => ?_) h6
    obtain ⟨r, r1, r2, -⟩ := i3.2.2 s hs
    exact fG_R hG (by rw [r2, fN_nI (by omega)]; omega)
/-- only the reference's row has changed: all stays alike -/
theorem bJ_fr {σ ω : kS} {n b b' R S C m : Nat} {kl : List Nat} (h : aJ σ n b R S C kl m) (hl : ∀ c, c < 232 → ω c = σ c) (hF : mFr σ ω n) (hI : mI ω n b' R S C kl) : bJ m ω := by
  obtain ⟨h1, h2, h3, h4⟩ := h
  have hn := h1.1.1
  refine ⟨n, b', R, S, C, kl, hI, cJ_low hl h2, aT_low hl (fun t ht => ?_) h3, aB_fr h1 hl hF h4⟩
  have hk : ∀ u, u < n → ω 233 u = σ 233 u ∧ ω 234 u = σ 234 u ∧ ω 235 u = σ 235 u := fun u hu => hF.2.2 u (by omega)
  have := mTb_sg h1.1 hI.1 (Nat.le_refl _) hk ht
  exact ⟨(hk t ht).1, (hk t ht).2.1, (hk t ht).2.2, this.1, this.2, by rw [hF.1 238 (by decide)], by rw [hF.1 239 (by decide)], by rw [hF.1 240 (by decide)], by rw [hF.1 241 (by decide)]⟩
/-- a TERM more on both sides: τ behind the class, ω behind the reference -/
theorem bJ_new {σ τ ω : kS} {n b R S C m : Nat} {kl : List Nat} (h : aJ σ n b R S C kl m) (hT : cT τ (n + 1)) (hG : cGr σ τ n) (hcl : ∀ t, t < n → τ 2 t = σ 2 t ∧ τ 3 t = σ 3 t ∧ τ 4 t = σ 4 t ∧ τ 5 t = σ 5 t ∧ τ 8 t = σ 8 t ∧ τ 9 t = σ 9 t ∧ τ 10 t = σ 10 t ∧ τ 11 t = σ 11 t ∧ τ 12 t = σ 12 t) (hC : cCn τ (n + 1)) (hI : mI ω (n + 1) 200 R S C kl) (hL : mLow τ ω)
    (hc : ∀ c, 232 < c → c ∉ rowC → c ≠ 238 → c ≠ 240 → c ≠ 239 → c ≠ 241 → ω c = τ c) (ho : ∀ j, j ∉ rowT → ω 232 j = τ 232 j) (hr : ∀ u, u < n → ω 233 u = τ 233 u ∧ ω 234 u = τ 234 u ∧ ω 235 u = τ 235 u ∧ ω 240 u = τ 240 u ∧ ω 241 u = τ 241 u ∧ ω 238 u = τ 238 u ∧ ω 239 u = τ 239 u) (hnew : aT1 ω n) : bJ m ω := by
  obtain ⟨h1, h2, h3, h4⟩ := h
  have hn := hT.1
  have hi := cGr_hi hG
  have hk : ∀ u, u < n → ω 233 u = σ 233 u ∧ ω 234 u = σ 234 u ∧ ω 235 u = σ 235 u := fun u hu => by
    have := hr u hu
    rw [hi 233 (by decide), hi 234 (by decide), hi 235 (by decide)] at this
    exact ⟨this.1, this.2.1, this.2.2.1⟩
  have hFG : fG σ ω n := by
    refine ⟨fun c c1 c2 c3 c4 c5 c6 => (hc c c1 c2 c3 c4 c5 c6).trans (hi c (by omega)), fun j hj => (ho j hj).trans (by rw [hi 232 (by decide)]), fun u hu => ?_, fun c c1 c2 => (hL c c2).trans (hG.1 c (fun q => by have := tC_lt q; omega))⟩
    have := hr u hu
    rw [hi 240 (by decide), hi 241 (by decide), hi 238 (by decide)] at this
    exact ⟨(hk u hu).1, (hk u hu).2.1, (hk u hu).2.2, this.2.2.2.1, this.2.2.2.2.1, this.2.2.2.2.2.1⟩
  refine ⟨n + 1, 200, R, S, C, kl, hI, cJ_low hL (cJ_gr h2 hG (by omega) hT), ⟨fun t ht => ?_, ?_⟩, aB_gr h1 h2 hFG (by omega) hn h4⟩
  · by_cases e : t = n
    · subst e
      exact hnew
    · have ht : t < n := by omega
      obtain ⟨g1, g2, g3, g4, g5, g6, g7, g8, g9⟩ := hcl t ht
      have hsg := mTb_sg h1.1 hI.1 (by omega) hk ht
      have hrt := hr t ht
      rw [hi 240 (by decide), hi 241 (by decide), hi 238 (by decide), hi 239 (by decide)] at hrt
      have := h3.1 t ht
      unfold aT1 at this ⊢
      rw [hL 2 (by decide), hL 3 (by decide), hL 4 (by decide), hL 5 (by decide), hL 8 (by decide), hL 9 (by decide), hL 10 (by decide), hL 11 (by decide), hL 12 (by decide), g1, g2, g3, g4, g5, g6, g7, g8, g9, (hk t ht).1, (hk t ht).2.1, (hk t ht).2.2, hsg.1, hsg.2, hrt.2.2.2.1, hrt.2.2.2.2.1, hrt.2.2.2.2.2.1, hrt.2.2.2.2.2.2]
      exact this
  · unfold cCn cpt at hC ⊢
    rw [hL 2 (by decide), hL 3 (by decide), hL 4 (by decide), hL 7 (by decide), hL 6 (by decide)]
    exact hC
end
section
/-! alike: agent, atom, term, of -/
theorem cCn_0 {σ τ : kS} {n k : Nat} (h : cCn σ n) (e : ∀ t, t < n → τ 2 t = σ 2 t ∧ τ 3 t = σ 3 t ∧ τ 4 t = σ 4 t) (hk : τ 2 n = nI k) (h3 : k ≤ 3) (eh : τ 7 = σ 7) (en : τ 6 = σ 6) : cCn τ (n + 1) := by
  unfold cCn
  rw [eh, en]
  refine hcP_congr (fun t => ?_) (fun t ht => ?_) h
  · constructor
    · rintro ⟨h1, h2⟩
      exact ⟨by omega, by rw [(e t h1).1]; exact h2⟩
    · rintro ⟨h1, h2⟩
      by_cases q : t = n
      · subst q
        rw [hk, fN_nI (by omega)] at h2
        omega
      · have : t < n := by omega
        exact ⟨this, by rw [← (e t this).1]; exact h2⟩
  · unfold cpt
    rw [(e t ht.1).1, (e t ht.1).2.1, (e t ht.1).2.2]
theorem cCn_co {σ : kS} {n k : Nat} {a c : Int32} (h : cCn σ n) (hn : n < 200) (hk : 3 < k) (hk9 : k ≤ 9) : cCn (cCo σ n k a c) (n + 1) := by
  have ep : cpt (cCo σ n k a c) n = fN (cSl (nI k) a c) := by
    show fN (cSl (upd (σ 2) n (nI k) n) (upd (σ 3) n a n) (upd (σ 4) n c n)) = _
    rw [pk_us, pk_us, pk_us]
  have g : hcP 256 1928 (fun t => t < n ∧ 3 < fN (σ 2 t)) (cpt (cCo σ n k a c)) (σ 7) (σ 6) := by
    refine hcP_congr (fun t => Iff.rfl) (fun t ht => ?_) h
    have ne : t ≠ n := by omega
    show _ = fN (cSl (upd (σ 2) n (nI k) t) (upd (σ 3) n a t) (upd (σ 4) n c t))
    rw [pk_un ne, pk_un ne, pk_un ne]
    rfl
  have g2 := hcP_push (t := n) g (fun t' ht' => ht'.1) (by omega) (by rw [ep]; exact (cSl_ok _ _ _).1)
  rw [ep] at g2
  refine hcP_congr (fun t => ?_) (fun t _ => rfl) g2
  show ((t < n ∧ 3 < fN (σ 2 t)) ∨ t = n) ↔ t < n + 1 ∧ 3 < fN (upd (σ 2) n (nI k) t)
  constructor
  · rintro (⟨h1, h2⟩ | rfl)
    · exact ⟨by omega, by rw [pk_un (by omega)]; exact h2⟩
    · exact ⟨by omega, by rw [pk_us, fN_nI (by omega)]; exact hk⟩
  · rintro ⟨h1, h2⟩
    by_cases q : t = n
    · exact Or.inr q
    · exact Or.inl ⟨by omega, by rw [pk_un q] at h2; exact h2⟩
/-- the class's word on GROUND -/
theorem cG_tgd {σ : kS} {n b t : Nat} (h : mTb σ n b) (hA : aT σ n) (ht : t < n) : cG σ n (nI t) ↔ tgd (σ 233) (σ 234) (σ 235) t = true := by
  have hn := h.1
  have e : σ 8 t = bI (tgd (σ 233) (σ 234) (σ 235) t) := by
    rw [(hA.1 t ht).2.2.2.2.1]
    exact h.2.2.2.2.2.2.1 t (Or.inl ht)
  constructor
  · intro q
    have := q t ht rfl
    rw [e] at this
    exact (bI_ne _).mp (by rw [this]; decide)
  · intro q z z1 z2
    rw [← nI_inj z2, e, q]
    rfl
theorem czs_tsz {σ : kS} {n b t : Nat} (h : mTb σ n b) (hA : aT σ n) (ht : t < n) : czs σ n (nI t) = nI (tsz (σ 233) (σ 234) (σ 235) t) := by
  rw [czs_t ht h.1, (hA.1 t ht).2.2.2.1]
  exact h.2.2.2.2.2.1.2.1 t (Or.inl ht)
/-- the SIZE as both sides tell it -/
theorem czs_msz {σ : kS} {n b k x y : Nat} {a c : Int32} (h : mTb σ n b) (hA : aT σ n) (hk : 3 < k) (hw : tNw k a c x y n) (h6 : k = 6 ∨ k = 8 → mAG σ n y) (h7 : k = 7 → mAG σ n x) : (1 + czs σ n a + czs σ n c : Int32) = msz (σ 236) k x y := by
  have hn := h.1
  have hs1 : ∀ z, mAG σ n z → σ 236 z = nI 1 := fun z hz => by
    rw [h.2.2.2.2.2.1.2.1 z (Or.inl hz.1)]
    have : tsz (σ 233) (σ 234) (σ 235) z = 1 := by
      rcases hz.2 with q | q
      · exact tA_0 q (by omega)
      · exact tA_0 q.1 (by omega)
    rw [this]
  have hz : ∀ z, z < n → czs σ n (nI z) = σ 236 z := fun z hz => by rw [czs_t hz hn, (hA.1 z hz).2.2.2.1]
  unfold msz
  rcases hw with ⟨q, -, -⟩ | ⟨q, rfl, rfl, q1, q2⟩ | ⟨q, rfl, rfl, q1⟩
  · omega
  · rw [if_neg (by omega), if_neg (by omega), hz x q1, hz y q2]
    by_cases e : k = 4 ∨ k = 5
    · rw [if_pos e]
      rfl
    · rw [if_neg e, if_neg (by omega), hs1 y (h6 (by omega))]
      rfl
  · rw [if_neg (by omega), hz x q1, czs_m1 hn]
    by_cases e : k = 7
    · rw [if_pos e, hs1 x (h7 e)]
      decide
    · rw [if_neg e, if_neg (by omega), if_pos (by omega)]
      rfl
theorem aT1_co {σ ω : kS} {n b k x y : Nat} {a c : Int32} (h : mTb σ n b) (hA : aT σ n) (hn : n < 200) (hk : 3 < k) (hw : tNw k a c x y n) (hN : mNw (cCo σ n k a c) ω n k a c) : aT1 ω n := by
  have hk9 := tNw_9 hw
  obtain ⟨z, g, nx, hd, jd, rfl, hT⟩ := hN
  have hk0 : ∀ u, u < n → (mU (cCo σ n k a c) (upd (σ 233) n (nI k)) (upd (σ 234) n a) (upd (σ 235) n c) (upd (σ 236) n z) (upd (σ 237) n g) nx hd (mO (σ 232) n jd)) 233 u = σ 233 u ∧ (mU (cCo σ n k a c) (upd (σ 233) n (nI k)) (upd (σ 234) n a) (upd (σ 235) n c) (upd (σ 236) n z) (upd (σ 237) n g) nx hd (mO (σ 232) n jd)) 234 u = σ 234 u ∧ (mU (cCo σ n k a c) (upd (σ 233) n (nI k)) (upd (σ 234) n a) (upd (σ 235) n c) (upd (σ 236) n z) (upd (σ 237) n g) nx hd (mO (σ 232) n jd)) 235 u = σ 235 u := fun u hu => ⟨pk_un (by omega), pk_un (by omega), pk_un (by omega)⟩
  have hnum := mTb_num hT
  have esz := hT.2.2.2.2.2.1.2.1 n (Or.inl (by omega))
  have egr := hT.2.2.2.2.2.2.1 n (Or.inl (by omega))
  have cs : ∀ u, u < n → tsz (upd (σ 233) n (nI k)) (upd (σ 234) n a) (upd (σ 235) n c) u = tsz (σ 233) (σ 234) (σ 235) u := fun u hu => tA_congr (mTb_num h) (fun v hv => ⟨pk_un (by omega), pk_un (by omega), pk_un (by omega), rfl⟩) u hu
  have cg : ∀ u, u < n → tgd (upd (σ 233) n (nI k)) (upd (σ 234) n a) (upd (σ 235) n c) u = tgd (σ 233) (σ 234) (σ 235) u := fun u hu => tA_congr (mTb_num h) (fun v hv => ⟨pk_un (by omega), pk_un (by omega), pk_un (by omega), by rw [pk_un (by omega)]⟩) u hu
  refine ⟨pk_us.trans pk_us.symm, pk_us.trans pk_us.symm, pk_us.trans pk_us.symm, ?_, ?_, fun q => ?_, fun q => ?_⟩
  · refine Eq.trans (b := (1 + czs σ n a + czs σ n c : Int32)) pk_us (Eq.trans ?_ esz.symm)
    show _ = nI (tsz (upd (σ 233) n (nI k)) (upd (σ 234) n a) (upd (σ 235) n c) n)
    rcases hw with ⟨q, -, -⟩ | ⟨q, rfl, rfl, q1, q2⟩ | ⟨q, rfl, rfl, q1⟩
    · omega
    · have e : tsz (upd (σ 233) n (nI k)) (upd (σ 234) n (nI x)) (upd (σ 235) n (nI y)) n = 1 + tsz (upd (σ 233) n (nI k)) (upd (σ 234) n (nI x)) (upd (σ 235) n (nI y)) x + tsz (upd (σ 233) n (nI k)) (upd (σ 234) n (nI x)) (upd (σ 235) n (nI y)) y := tA_2 hnum pk_us pk_us pk_us hk hk9 q1 q2 (by omega) (by omega)
      rw [e, cs x q1, cs y q2, czs_tsz h hA q1, czs_tsz h hA q2, ← nI_add, ← nI_add]
      rfl
    · have e : tsz (upd (σ 233) n (nI k)) (upd (σ 234) n (nI x)) (upd (σ 235) n (-1)) n = 1 + tsz (upd (σ 233) n (nI k)) (upd (σ 234) n (nI x)) (upd (σ 235) n (-1)) x + 0 := tA_1 hnum pk_us pk_us pk_us hk hk9 q1 (by omega)
      rw [e, cs x q1, czs_tsz h hA q1, czs_m1 h.1, ← nI_add, ← nI_add]
      rfl
  · refine Eq.trans (b := isB (cG σ n a ∧ cG σ n c)) pk_us (Eq.trans ?_ egr.symm)
    show _ = bI (tgd (upd (σ 233) n (nI k)) (upd (σ 234) n a) (upd (σ 235) n c) n)
    rcases hw with ⟨q, -, -⟩ | ⟨q, rfl, rfl, q1, q2⟩ | ⟨q, rfl, rfl, q1⟩
    · omega
    · have e : tgd (upd (σ 233) n (nI k)) (upd (σ 234) n (nI x)) (upd (σ 235) n (nI y)) n = (tgd (upd (σ 233) n (nI k)) (upd (σ 234) n (nI x)) (upd (σ 235) n (nI y)) x && tgd (upd (σ 233) n (nI k)) (upd (σ 234) n (nI x)) (upd (σ 235) n (nI y)) y) := tA_2 hnum pk_us pk_us pk_us hk hk9 q1 q2 (by omega) (by omega)
      rw [e, cg x q1, cg y q2]
      refine isB_of (bI_01 _) ?_
      rw [cG_tgd h hA q1, cG_tgd h hA q2]
      cases tgd (σ 233) (σ 234) (σ 235) x <;> cases tgd (σ 233) (σ 234) (σ 235) y <;> decide
    · have e : tgd (upd (σ 233) n (nI k)) (upd (σ 234) n (nI x)) (upd (σ 235) n (-1)) n = (tgd (upd (σ 233) n (nI k)) (upd (σ 234) n (nI x)) (upd (σ 235) n (-1)) x && true) := tA_1 hnum pk_us pk_us pk_us hk hk9 q1 (by omega)
      rw [e, cg x q1]
      refine isB_of (bI_01 _) ?_
      have h1 := h.1
      rw [cG_tgd h hA q1]
      have := cG_m1 σ n h1
      cases tgd (σ 233) (σ 234) (σ 235) x
      · exact ⟨fun q => absurd q (by decide), fun q => absurd q.1 (by decide)⟩
      · exact ⟨fun _ => ⟨rfl, this⟩, fun _ => rfl⟩
  · have q : upd (σ 233) n (nI k) n = nI 0 := q
    rw [pk_us] at q
    have := nI_inj q
    omega
  · have q : upd (σ 233) n (nI k) n = nI 3 := q
    rw [pk_us] at q
    have := nI_inj q
    omega
end
section
/-! alike: calls about TERMS -/
theorem aJ_hi {σ τ : kS} {n b R S C m : Nat} {kl : List Nat} (h : aJ σ n b R S C kl m) (e : ∀ c, 232 ≤ c → τ c = σ c) : mI τ n b R S C kl := mI_hi e h.1
set_option maxRecDepth 100000 in
set_option maxHeartbeats 4000000 in
theorem bo_comp (L : Nat) (xs : Nat → Int32) (d d' : Nat) (σ : kS) (n b R S C m k x y : Nat) (kl : List Nat) (a c : Int32) (h : aJ σ n b R S C kl m) (hk : 3 < k) (hw : tNw k a c x y n) (h6 : k = 6 ∨ k = 8 → mAG σ n y) (h7 : k = 7 → mAG σ n x) : kXM kT L xs (d + 5) 142 [.ref 0, .int (nI k), .int a, .int c] σ (fun r τ => ∃ z, r = some (.int z) ∧ mI τ n b R S C kl ∧ (∀ e, 232 ≤ e → τ e = σ e) ∧ kXM kT L xs (d' + 4) 157 [.ref 232, .int (nI k), .int a, .int c] τ (fun r' ω => r' = some (.int z) ∧ bJ m ω)) := by
  have hI := h.1
  have hT := h.2.1.1
  have hA := h.2.2.1
  have hn := hT.1
  have hk9 := tNw_9 hw
  have hsz := czs_msz hI.1 hA hk hw h6 h7
  have hss : mI σ n b R S C kl ∧ ∀ e, 232 ≤ e → σ e = σ e := ⟨hI, fun _ _ => rfl⟩
  -- what the class has looked for
  have hnone : (∀ t, (t < n ∧ 3 < fN (σ 2 t)) → ¬ cIs σ t (nI k) a c) → ∀ t, t < n → ¬ mIs σ t (nI k) a c := fun q t ht z => by
    have e := hA.1 t ht
    refine q t ⟨ht, ?_⟩ ⟨e.1.trans z.1, e.2.1.trans z.2.1, e.2.2.1.trans z.2.2⟩
    rw [e.1, z.1, fN_nI (by omega)]
    exact hk
  unfold kXM
  iterate 4 (refine kX_one rfl ?_)
  refine kX_cal (mf_sizeOf L xs (d + 2) σ n a hn hT.2.1) rfl (Or.inr rfl) rfl rfl rfl (fun r1 σ1 q1 => ?_)
  obtain ⟨rfl, rfl⟩ := q1
  iterate 4 (refine kX_one rfl ?_)
  refine kX_cal (mf_sizeOf L xs (d + 2) σ n c hn hT.2.1) rfl (Or.inr rfl) rfl rfl rfl (fun r1 σ1 q1 => ?_)
  obtain ⟨rfl, rfl⟩ := q1
  iterate 2 (refine kX_one rfl ?_)
  repeat refine kX_one rfl ?_
  refine kX_if (fun q => ?_) (fun q => ?_)
  · have q : (1 + czs σ n a + czs σ n c : Int32) ≤ nI 24 := of_decide_eq_true q
    rw [hsz] at q
    iterate 5 (refine kX_one rfl ?_)
    refine kX_cal (mf_find L xs (d + 2) σ n (nI k) a c hn hA.2) rfl (Or.inr rfl) rfl rfl rfl (fun r1 σ1 q1 => ?_)
    obtain ⟨hq, rfl⟩ := q1
    rcases hq with ⟨rfl, hno⟩ | ⟨t, t1, rfl, t2⟩
    · have hno := hnone hno
      iterate 6 (refine kX_one rfl ?_)
      refine kX_cal (mc_isFull L xs (d + 3) σ n hn hT.2.1) rfl (Or.inr rfl) rfl rfl rfl (fun r1 σ1 q1 => ?_)
      obtain ⟨rfl, rfl⟩ := q1
      repeat refine kX_one rfl ?_
      refine kX_if (fun q2 => ?_) (fun q2 => ?_)
      · have hlt : n < 200 := by
          have : ¬ n = 200 := fun z => isB_ne.mpr z (qeq q2)
          omega
        iterate 5 (refine kX_one rfl ?_)
        refine kX_cal (mf_newCompound L xs d σ n k a c hT hlt) rfl (Or.inr rfl) rfl rfl rfl (fun r1 σ1 q1 => ?_)
        obtain ⟨rfl, rfl⟩ := q1
        have hx : ∃ x', x' < n ∧ a = nI x' := ⟨x, (tNw_x hw hk).2, (tNw_x hw hk).1⟩
        have hy : (∃ y', y' < n ∧ c = nI y') ∨ (c = -1 ∧ (k = 7 ∨ k = 9)) := by
          rcases hw with ⟨q, -, -⟩ | ⟨q, q1, q2, q3, q4⟩ | ⟨q, q1, q2, q3⟩
          · omega
          · exact Or.inl ⟨y, q4, q2⟩
          · exact Or.inr ⟨q2, q⟩
        have hcx : cCh n a := by
          obtain ⟨x', x1, x2⟩ := hx
          exact Or.inr ⟨x', by omega, x2, Or.inl x1⟩
        have hcy : cCh n c := by
          rcases hy with ⟨y', y1, y2⟩ | ⟨y2, -⟩
          · exact Or.inr ⟨y', by omega, y2, Or.inl y1⟩
          · exact Or.inl y2
        obtain ⟨g1, g2⟩ := cT_co (k := k) (x := a) (y := c) hT hlt (by omega) hk9 hcx hcy (fun _ => by obtain ⟨x', x1, x2⟩ := hx; exact ⟨x', x1, x2, hy⟩)
        have hIt := aJ_hi h (cGr_hi g2)
        refine kX_ret (i := .ireturn) (len := 1) rfl (Or.inr rfl) rfl (⟨_, rfl, hIt, cGr_hi g2, ?_⟩)
        refine kXM_mono (mr_oldOrNew L xs d' (cCo σ n k a c) n b k a c x y hIt.1 hk hw h6 h7) (fun r' ω q1 => ?_)
        rcases q1 with ⟨z, -⟩ | ⟨-, ⟨t, t1, t2, -⟩, -⟩ | ⟨-, -, z, -⟩ | ⟨-, -, -, rfl, hN⟩
        · exact absurd q z
        · exact absurd t2 (hno t t1)
        · omega
        · refine ⟨rfl, ?_⟩
          have hGn := mGr_new hN
          refine bJ_new h g1 g2 (fun t ht => ⟨pk_un (by omega), pk_un (by omega), pk_un (by omega), pk_un (by omega), pk_un (by omega), pk_un (by omega), rfl, rfl, rfl⟩) (cCn_co hA.2 hlt hk hk9) (mI_new hIt hN (by omega) hk9) (mLow_gr hGn) (fun e _ e2 _ _ _ _ => hGn.1 e e2) hGn.2.1 (fun u hu => ⟨(hGn.2.2 u hu).1, (hGn.2.2 u hu).2.1, (hGn.2.2 u hu).2.2, by rw [hGn.1 240 (by decide)], by rw [hGn.1 241 (by decide)], by rw [hGn.1 238 (by decide)], by rw [hGn.1 239 (by decide)]⟩) (aT1_co hI.1 hA hlt hk hw hN)
      · have hf : n = 200 := isB_ne.mp (qeqF q2)
        repeat refine kX_one rfl ?_
        refine kX_ret (i := .ireturn) (len := 1) rfl (Or.inr rfl) rfl (⟨_, rfl, hss.1, hss.2, ?_⟩)
        refine kXM_mono (mr_oldOrNew L xs d' σ n b k a c x y hI.1 hk hw h6 h7) (fun r' ω q1 => ?_)
        rcases q1 with ⟨z, -⟩ | ⟨-, ⟨t, t1, t2, -⟩, -⟩ | ⟨-, -, -, rfl, z⟩ | ⟨-, -, z, -⟩
        · exact absurd q z
        · exact absurd t2 (hno t t1)
        · refine ⟨rfl, ?_⟩
          rcases z with rfl | z
          · exact ⟨n, b, R, S, C, kl, h⟩
          · obtain ⟨z1, z2⟩ := mI_rs hI z
            refine bJ_fr h (mLow_gr z1) ?_ z2
            obtain ⟨hd, jd, rfl, -⟩ := z
            refine ⟨z1.1, fun j hj => ?_, fun u _ => ⟨rfl, rfl, rfl⟩⟩
            simp only [rowJ, List.mem_cons, List.not_mem_nil, or_false, not_or] at hj
            show mO0 (σ 232) jd j = _
            unfold mO0
            rw [pk_un hj.2.2.2.2.1, pk_un hj.2.1, pk_un hj.1]
        · omega
    · have e := hA.1 t t1.1
      have ht2 : mIs σ t (nI k) a c := ⟨e.1.symm.trans t2.1, e.2.1.symm.trans t2.2.1, e.2.2.1.symm.trans t2.2.2⟩
      iterate 3 (refine kX_one rfl ?_)
      repeat refine kX_one rfl ?_
      refine kX_if (fun q2 => ?_) (fun q2 => ?_)
      · exact absurd (qeq q2) (nI_m1 (by omega))
      · repeat refine kX_one rfl ?_
        refine kX_ret (i := .ireturn) (len := 1) rfl (Or.inr rfl) rfl (⟨_, rfl, hss.1, hss.2, ?_⟩)
        refine kXM_mono (mr_oldOrNew L xs d' σ n b k a c x y hI.1 hk hw h6 h7) (fun r' ω q1 => ?_)
        rcases q1 with ⟨z, -⟩ | ⟨-, ⟨u, u1, u2, rfl⟩, rfl⟩ | ⟨-, z, -⟩ | ⟨-, z, -⟩
        · exact absurd q z
        · have : u = t := hI.1.2.2.2.2.2.1.2.2 u t (Or.inl u1) (Or.inl t1.1) (by rw [u2.1, fN_nI (by omega)]; exact hk) (u2.1.trans ht2.1.symm) (u2.2.1.trans ht2.2.1.symm) (u2.2.2.trans ht2.2.2.symm)
          subst this
          exact ⟨rfl, n, b, R, S, C, kl, h⟩
        · exact absurd ht2 (z t t1.1)
        · exact absurd ht2 (z t t1.1)
  · have q : ¬ (1 + czs σ n a + czs σ n c : Int32) ≤ nI 24 := of_decide_eq_false q
    rw [hsz] at q
    repeat refine kX_one rfl ?_
    refine kX_ret (i := .ireturn) (len := 1) rfl (Or.inr rfl) rfl (⟨_, rfl, hss.1, hss.2, ?_⟩)
    refine kXM_mono (mr_oldOrNew L xs d' σ n b k a c x y hI.1 hk hw h6 h7) (fun r' ω q1 => ?_)
    rcases q1 with ⟨-, rfl, rfl⟩ | ⟨z, -⟩ | ⟨z, -⟩ | ⟨z, -⟩
    · exact ⟨rfl, n, b, R, S, C, kl, h⟩
    · exact absurd z q
    · exact absurd z q
    · exact absurd z q
/-- an ATOM more on both sides -/
theorem bJ_at {σ ω : kS} {n b R S C m k : Nat} {kl : List Nat} {v : Int32} {f : Nat → Int32} (h : aJ σ n b R S C kl m) (hn : n < 200) (hk : k ≤ 2) (hN : mNw (cAt σ n k v) ω n k (-1) (-1)) (hf : k = 0 → f n = v) (hf2 : ∀ u, u < n → f u = σ 238 u) : bJ m (va_up ω 238 f) := by
  have hT := h.2.1.1
  have hA := h.2.2.1
  obtain ⟨g1, g2⟩ := cT_at (k := k) (b := v) hT hn hk
  have hIt := aJ_hi h (cGr_hi g2)
  have hGn := mGr_new hN
  have hIn := mI_hon (f := f) (mI_new hIt hN (by omega) (by omega)) (mNw_rit hN)
  refine bJ_new h g1 g2 (fun t ht => ⟨pk_un (by omega), pk_un (by omega), pk_un (by omega), pk_un (by omega), pk_un (by omega), (pk_un (by omega)).trans (pk_un (by omega)), rfl, rfl, rfl⟩) (cCn_0 (k := k) hA.2 (fun t ht => ⟨pk_un (by omega), pk_un (by omega), pk_un (by omega)⟩) pk_us (by omega) rfl rfl) hIn (mLow_trans (mLow_gr hGn) (mLow_up ω _ (by decide))) (fun e _ e2 e3 _ _ _ => by
    show va_up ω 238 f e = _
    rw [show va_up ω 238 f e = ω e from if_neg e3]
    exact hGn.1 e e2) (fun j hj => hGn.2.1 j hj) (fun u hu => ⟨(hGn.2.2 u hu).1, (hGn.2.2 u hu).2.1, (hGn.2.2 u hu).2.2, by
      show ω 240 u = _
      rw [hGn.1 240 (by decide)], by
      show ω 241 u = _
      rw [hGn.1 241 (by decide)], hf2 u hu, by
      show ω 239 u = _
      rw [hGn.1 239 (by decide)]⟩) ?_
  have hTn := hIn.1
  have esz := hTn.2.2.2.2.2.1.2.1 n (Or.inl (by omega))
  have egr := hTn.2.2.2.2.2.2.1 n (Or.inl (by omega))
  obtain ⟨z, g, nx, hd, jd, rfl, -⟩ := hN
  refine ⟨pk_us.trans pk_us.symm, pk_us.trans pk_us.symm, pk_us.trans pk_us.symm, ?_, ?_, fun q => ?_, fun q => ?_⟩
  · refine Eq.trans (b := (1 : Int32)) pk_us (Eq.trans ?_ esz.symm)
    show _ = nI (tsz (upd (σ 233) n (nI k)) (upd (σ 234) n (-1)) (upd (σ 235) n (-1)) n)
    have e : tsz (upd (σ 233) n (nI k)) (upd (σ 234) n (-1)) (upd (σ 235) n (-1)) n = 1 := tA_0 (k := k) pk_us (by omega)
    rw [e]
    rfl
  · refine Eq.trans (b := (1 : Int32)) pk_us (Eq.trans ?_ egr.symm)
    show _ = bI (tgd (upd (σ 233) n (nI k)) (upd (σ 234) n (-1)) (upd (σ 235) n (-1)) n)
    have e : tgd (upd (σ 233) n (nI k)) (upd (σ 234) n (-1)) (upd (σ 235) n (-1)) n = decide (upd (σ 233) n (nI k) n ≠ nI 3) := tA_0 (k := k) pk_us (by omega)
    rw [e, pk_us, decide_eq_true (nI_ne (by omega))]
    rfl
  · have q : upd (σ 233) n (nI k) n = nI 0 := q
    rw [pk_us] at q
    have := hf (nI_inj q)
    show upd (upd (σ 9) n 0) n v n = f n
    rw [pk_us, this]
  · have q : upd (σ 233) n (nI k) n = nI 3 := q
    rw [pk_us] at q
    have := nI_inj q
    omega
theorem va_same (σ : kS) (c : Nat) : va_up σ c (σ c) = σ := by
  funext e
  unfold va_up
  split
  · next q => rw [q]
  · rfl
set_option maxRecDepth 100000 in
set_option maxHeartbeats 4000000 in
theorem bo_agent (L : Nat) (xs : Nat → Int32) (d d' m : Nat) (σ : kS) (v : Int32) (hv : v = 0 ∨ v = 1) (h : bJ m σ) : kXM kT L xs (d + 5) 109 [.ref 0, .int v] σ (fun r τ => ∃ z, r = some (.int z) ∧ kXM kT L xs (d' + 4) 155 [.ref 232, .int v] τ (fun r' ω => r' = some (.int z) ∧ bJ m ω)) := by
  obtain ⟨n, b, R, S, C, kl, h⟩ := h
  have hI := h.1
  have hT := h.2.1.1
  unfold kXM
  iterate 2 (refine kX_one rfl ?_)
  refine kX_cal (mc_isFull L xs (d + 3) σ n hT.1 hT.2.1) rfl (Or.inr rfl) rfl rfl rfl (fun r1 σ1 q1 => ?_)
  obtain ⟨rfl, rfl⟩ := q1
  repeat refine kX_one rfl ?_
  refine kX_if (fun q => ?_) (fun q => ?_)
  · have hlt : n < 200 := by
      have : ¬ n = 200 := fun z => isB_ne.mpr z (qeq q)
      have := hT.1
      omega
    iterate 4 (refine kX_one rfl ?_)
    refine kX_cal (mf_newAtom L xs d σ n 0 v hT (by decide) hv hlt) rfl (Or.inr rfl) rfl rfl rfl (fun r1 σ1 q1 => ?_)
    obtain ⟨rfl, rfl⟩ := q1
    have hIt := aJ_hi h (cGr_hi (cT_at (k := 0) (b := v) hT hlt (by decide)).2)
    refine kX_ret (i := .ireturn) (len := 1) rfl (Or.inr rfl) rfl (⟨_, rfl, ?_⟩)
    refine kXM_mono (mr_agent L xs d' _ n b hIt.1 v hv) (fun r' ω q1 => ?_)
    rcases q1 with ⟨z, -⟩ | ⟨-, rfl, ω', hN, rfl⟩
    · omega
    · exact ⟨rfl, bJ_at h hlt (by decide) hN (fun _ => pk_us) (fun u hu => pk_un (by omega))⟩
  · have hf : n = 200 := isB_ne.mp (qeqF q)
    repeat refine kX_one rfl ?_
    refine kX_ret (i := .ireturn) (len := 1) rfl (Or.inr rfl) rfl (⟨_, rfl, ?_⟩)
    refine kXM_mono (mr_agent L xs d' _ n b hI.1 v hv) (fun r' ω q1 => ?_)
    rcases q1 with ⟨-, rfl, rfl⟩ | ⟨z, -⟩
    · exact ⟨rfl, n, b, R, S, C, kl, h⟩
    · omega
end
section
/-! alike: atom, term, of -/
set_option maxRecDepth 100000 in
set_option maxHeartbeats 4000000 in
theorem bo_atom (L : Nat) (xs : Nat → Int32) (d d' m : Nat) (σ : kS) (x : Int32) (h : bJ m σ) : kXM kT L xs (d + 5) 110 [.ref 0, .int x] σ (fun r τ => ∃ z, r = some (.int z) ∧ kXM kT L xs (d' + 4) 156 [.ref 232, .int x] τ (fun r' ω => r' = some (.int z) ∧ bJ m ω)) := by
  obtain ⟨n, b, R, S, C, kl, h⟩ := h
  have hI := h.1
  have hT := h.2.1.1
  -- the reference
  have mg : ∀ (τ : kS) (Q : Option Value → kS → Prop), mI τ n b R S C kl → (¬ (x = nI 1 ∨ x = nI 2) → Q (some (.int (-2))) τ) → (∀ k, 1 ≤ k → k ≤ 2 → x = nI k → n = 200 → Q (some (.int (-4))) τ) → (∀ k ω, 1 ≤ k → k ≤ 2 → x = nI k → n < 200 → mNw τ ω n k (-1) (-1) → Q (some (.int (nI n))) ω) → kXM kT L xs (d' + 4) 156 [.ref 232, .int x] τ Q := by
    intro τ Q hI hO hF hN
    have h1 := hI.1
    have hn := h1.1
    unfold kXM
    repeat refine kX_one rfl ?_
    refine kX_cal (mr_in L xs (d' + 3) τ _ _ _) rfl (Or.inr rfl) rfl rfl rfl (fun r1 σ1 q1 => ?_)
    obtain ⟨rfl, rfl⟩ := q1
    rw [isB_dec]
    repeat refine kX_one rfl ?_
    refine kX_if (fun q => ?_) (fun q => ?_)
    · obtain ⟨k, k1, k2, hk⟩ := in_R (lo := 1) (hi := 2) (by omega) (by omega) (isB_ne.mp (qne q)).1 (isB_ne.mp (qne q)).2
      repeat refine kX_one rfl ?_
      refine kX_if (fun q => ?_) (fun q => ?_)
      · have q : n ≠ 200 := fun e => qne q (by rw [h1.2.2.2.1, e]; decide)
        subst hk
        repeat refine kX_one rfl ?_
        refine kX_cal (mr_last L xs d' τ n b k (-1) (-1) 0 0 h1 (by omega) (Or.inl ⟨by omega, rfl, rfl⟩) (by omega) (by omega) (by omega) (by unfold msz; rw [if_pos (by omega)]; decide)) rfl (Or.inr rfl) rfl rfl rfl (fun r1 σ1 q1 => ?_)
        obtain ⟨rfl, hnew⟩ := q1
        repeat refine kX_one rfl ?_
        refine kX_ret (i := .ireturn) (len := 1) rfl (Or.inr rfl) rfl (hN k _ k1 k2 rfl (by omega) hnew)
      · have q : n = 200 := by
          have := qneF q
          rw [h1.2.2.2.1] at this
          exact nI_inj this
        repeat refine kX_one rfl ?_
        refine kX_ret (i := .ireturn) (len := 1) rfl (Or.inr rfl) rfl (hF k k1 k2 hk q)
    · have q := qneF q
      repeat refine kX_one rfl ?_
      refine kX_ret (i := .ireturn) (len := 1) rfl (Or.inr rfl) rfl (hO (fun z => isB_ne.mpr (by rcases z with rfl | rfl <;> decide) q))
  unfold kXM
  have k13 : ∀ k, 1 ≤ k → k ≤ 2 → x = nI k → kX kT L xs (d + 5) 110 13 (lv_args 0 [.ref 0, .int x]) [] σ (fun r τ => ∃ z, r = some (.int z) ∧ kXM kT L xs (d' + 4) 156 [.ref 232, .int x] τ (fun r' ω => r' = some (.int z) ∧ bJ m ω)) := by
    intro k k1 hk hx
    iterate 2 (refine kX_one rfl ?_)
    refine kX_cal (mc_isFull L xs (d + 3) σ n hT.1 hT.2.1) rfl (Or.inr rfl) rfl rfl rfl (fun r1 σ1 q1 => ?_)
    obtain ⟨rfl, rfl⟩ := q1
    repeat refine kX_one rfl ?_
    refine kX_if (fun q => ?_) (fun q => ?_)
    · have hlt : n < 200 := by
        have : ¬ n = 200 := fun z => isB_ne.mpr z (qeq q)
        have := hT.1
        omega
      iterate 4 (refine kX_one rfl ?_)
      refine kX_cal (y := 104) (as := [.ref 1, .int x, .int 0]) (by rw [hx]; exact mf_newAtom L xs d σ n k 0 hT hk (Or.inl rfl) hlt) rfl (Or.inr rfl) rfl rfl rfl (fun r1 σ1 q1 => ?_)
      obtain ⟨rfl, rfl⟩ := q1
      have hIt := aJ_hi h (cGr_hi (cT_at (k := k) (b := 0) hT hlt hk).2)
      refine kX_ret (i := .ireturn) (len := 1) rfl (Or.inr rfl) rfl (⟨_, rfl, mg _ _ hIt (fun z => absurd (show x = nI 1 ∨ x = nI 2 by rw [hx]; rcases (show k = 1 ∨ k = 2 by omega) with rfl | rfl <;> simp) z) (fun _ _ _ _ z => by omega) (fun k' ω k1' k2' e _ hN => ⟨rfl, ?_⟩)⟩)
      obtain rfl : k' = k := nI_inj (e.symm.trans hx)
      have := bJ_at (f := ω 238) h hlt hk hN (by omega) (fun u hu => by rw [(mGr_new hN).1 238 (by decide)]; rfl)
      rw [va_same] at this
      exact this
    · have hf : n = 200 := isB_ne.mp (qeqF q)
      repeat refine kX_one rfl ?_
      refine kX_ret (i := .ireturn) (len := 1) rfl (Or.inr rfl) rfl (⟨_, rfl, mg _ _ hI (fun z => absurd (show x = nI 1 ∨ x = nI 2 by rw [hx]; rcases (show k = 1 ∨ k = 2 by omega) with rfl | rfl <;> simp) z) (fun _ _ _ _ z => ⟨rfl, n, b, R, S, C, kl, h⟩) (fun _ _ _ _ _ z => by omega)⟩)
  repeat refine kX_one rfl ?_
  refine kX_if (fun q => ?_) (fun q => ?_)
  · exact k13 1 (by decide) (by decide) (qeq q)
  · have q1 := qeqF q
    repeat refine kX_one rfl ?_
    refine kX_if (fun q => ?_) (fun q => ?_)
    · exact k13 2 (by decide) (by decide) (qeq q)
    · have q2 := qeqF q
      have q3 : ¬ (x = nI 1 ∨ x = nI 2) := fun z => z.elim q1 q2
      repeat refine kX_one rfl ?_
      refine kX_ret (i := .ireturn) (len := 1) rfl (Or.inr rfl) rfl (⟨_, rfl, mg _ _ hI (fun _ => ⟨rfl, n, b, R, S, C, kl, h⟩) (fun k k1 k2 e => absurd (show x = nI 1 ∨ x = nI 2 by rw [e]; rcases (show k = 1 ∨ k = 2 by omega) with rfl | rfl <;> simp) q3) (fun k _ k1 k2 e => absurd (show x = nI 1 ∨ x = nI 2 by rw [e]; rcases (show k = 1 ∨ k = 2 by omega) with rfl | rfl <;> simp) q3)⟩)
set_option maxRecDepth 100000 in
set_option maxHeartbeats 4000000 in
theorem mg_term (L : Nat) (xs : Nat → Int32) (d : Nat) (σ : kS) (n b : Nat) (w x y : Int32) (Q : Option Value → kS → Prop) (h1 : mTb σ n b) (hU : ¬ (isN x n ∧ (w = nI 9 ∨ isN y n)) → Q (some (.int (-1))) σ) (hO : isN x n ∧ (w = nI 9 ∨ isN y n) → ¬ (w = nI 4 ∨ w = nI 5 ∨ w = nI 9) → Q (some (.int (-2))) σ) (hC : isN x n ∧ (w = nI 9 ∨ isN y n) → (w = nI 4 ∨ w = nI 5 ∨ w = nI 9) → kXM kT L xs (d + 4) 157 [.ref 232, .int w, .int x, .int (cit (w = nI 9) (-1) y)] σ (fun r τ => ∃ z, r = some (.int z) ∧ Q (some (.int z)) τ)) : kXM kT L xs (d + 5) 158 [.ref 232, .int w, .int x, .int y] σ Q := by
  have hn := h1.1
  unfold kXM
  repeat refine kX_one rfl ?_
  refine kX_cal (mr_isTerm L xs (d + 3) σ n x h1.2.2.2.1 (by omega)) rfl (Or.inr rfl) rfl rfl rfl (fun r1 σ1 q1 => ?_)
  obtain ⟨rfl, rfl⟩ := q1
  repeat refine kX_one rfl ?_
  refine kX_if (fun q => ?_) (fun q => ?_)
  · have q : ¬ isN x n := fun z => isB_ne.mpr z (qeq q)
    repeat refine kX_one rfl ?_
    refine kX_ret (i := .ireturn) (len := 1) rfl (Or.inr rfl) rfl (hU (fun z => q z.1))
  · have hx := isB_ne.mp (qeqF q)
    repeat refine kX_one rfl ?_
    refine kX_if (fun q => ?_) (fun q => ?_)
    · have q : w = nI 9 := qeq q
      have hC := hC ⟨hx, Or.inl q⟩ (Or.inr (Or.inr q))
      rw [cit_T q] at hC
      subst q
      repeat refine kX_one rfl ?_
      refine kX_cal hC rfl (Or.inr rfl) rfl rfl rfl (fun r1 σ1 q1 => ?_)
      obtain ⟨z, rfl, q1⟩ := q1
      repeat refine kX_one rfl ?_
      refine kX_ret (i := .ireturn) (len := 1) rfl (Or.inr rfl) rfl (q1)
    · have q9 : w ≠ nI 9 := qeqF q
      repeat refine kX_one rfl ?_
      refine kX_cal (mr_isTerm L xs (d + 3) σ n y h1.2.2.2.1 (by omega)) rfl (Or.inr rfl) rfl rfl rfl (fun r1 σ1 q1 => ?_)
      obtain ⟨rfl, rfl⟩ := q1
      repeat refine kX_one rfl ?_
      refine kX_if (fun q => ?_) (fun q => ?_)
      · have hy := isB_ne.mp (qne q)
        repeat refine kX_one rfl ?_
        refine kX_if (fun q => ?_) (fun q => ?_)
        · have q : w = nI 4 := qeq q
          have hC := hC ⟨hx, Or.inr hy⟩ (Or.inl q)
          rw [cit_F q9] at hC
          subst q
          repeat refine kX_one rfl ?_
          refine kX_cal hC rfl (Or.inr rfl) rfl rfl rfl (fun r1 σ1 q1 => ?_)
          obtain ⟨z, rfl, q1⟩ := q1
          repeat refine kX_one rfl ?_
          refine kX_ret (i := .ireturn) (len := 1) rfl (Or.inr rfl) rfl (q1)
        · have q4 : w ≠ nI 4 := qeqF q
          repeat refine kX_one rfl ?_
          refine kX_if (fun q => ?_) (fun q => ?_)
          · have q : w = nI 5 := qeq q
            have hC := hC ⟨hx, Or.inr hy⟩ (Or.inr (Or.inl q))
            rw [cit_F q9] at hC
            subst q
            repeat refine kX_one rfl ?_
            refine kX_cal hC rfl (Or.inr rfl) rfl rfl rfl (fun r1 σ1 q1 => ?_)
            obtain ⟨z, rfl, q1⟩ := q1
            repeat refine kX_one rfl ?_
            refine kX_ret (i := .ireturn) (len := 1) rfl (Or.inr rfl) rfl (q1)
          · have q5 : w ≠ nI 5 := qeqF q
            repeat refine kX_one rfl ?_
            refine kX_if (fun q => ?_) (fun q => ?_)
            · exact absurd (qeq q) q9
            · repeat refine kX_one rfl ?_
              refine kX_ret (i := .ireturn) (len := 1) rfl (Or.inr rfl) rfl (hO ⟨hx, Or.inr hy⟩ (fun z => z.elim q4 (fun z => z.elim q5 q9)))
      · have q : ¬ isN y n := fun z => isB_ne.mpr z (qneF q)
        repeat refine kX_one rfl ?_
        refine kX_ret (i := .ireturn) (len := 1) rfl (Or.inr rfl) rfl (hU (fun z => z.2.elim q9 q))
set_option maxRecDepth 100000 in
set_option maxHeartbeats 4000000 in
theorem kg_term (L : Nat) (xs : Nat → Int32) (d : Nat) (σ : kS) (n : Nat) (w x y : Int32) (Q : Option Value → kS → Prop) (hT : cT σ n) (hU : ¬ (isN x n ∧ (w = nI 9 ∨ isN y n)) → Q (some (.int (-1))) σ) (hO : isN x n ∧ (w = nI 9 ∨ isN y n) → ¬ (w = nI 4 ∨ w = nI 5 ∨ w = nI 9) → Q (some (.int (-2))) σ) (hC : isN x n ∧ (w = nI 9 ∨ isN y n) → (w = nI 4 ∨ w = nI 5 ∨ w = nI 9) → kXM kT L xs (d + 5) 142 [.ref 0, .int w, .int x, .int (cit (w = nI 9) (-1) y)] σ (fun r τ => ∃ z, r = some (.int z) ∧ Q (some (.int z)) τ)) : kXM kT L xs (d + 6) 111 [.ref 0, .int w, .int x, .int y] σ Q := by
  have hn := hT.1
  unfold kXM
  have k28 : ¬ (isN x n ∧ (w = nI 9 ∨ isN y n)) → kX kT L xs (d + 6) 111 28 (lv_args 0 [.ref 0, .int w, .int x, .int y]) [] σ Q := by
    intro q
    repeat refine kX_one rfl ?_
    refine kX_ret (i := .ireturn) (len := 1) rfl (Or.inr rfl) rfl (hU q)
  have k30 : isN x n ∧ (w = nI 9 ∨ isN y n) → kX kT L xs (d + 6) 111 30 (lv_args 0 [.ref 0, .int w, .int x, .int y]) [] σ Q := by
    intro hA
    have k49 : (w = nI 4 ∨ w = nI 5 ∨ w = nI 9) → kX kT L xs (d + 6) 111 49 (lv_args 0 [.ref 0, .int w, .int x, .int y]) [] σ Q := by
      intro hB
      have hC := hC hA hB
      iterate 5 (refine kX_one rfl ?_)
      repeat refine kX_one rfl ?_
      refine kX_if (fun q => ?_) (fun q => ?_)
      · have q : w ≠ nI 9 := qne q
        rw [cit_F q] at hC
        iterate 1 (refine kX_one rfl ?_)
        refine kX_cal hC rfl (Or.inr rfl) rfl rfl rfl (fun r1 σ1 q1 => ?_)
        obtain ⟨v, rfl, hq⟩ := q1
        refine kX_ret (i := .ireturn) (len := 1) rfl (Or.inr rfl) rfl (hq)
      · have q : w = nI 9 := qneF q
        rw [cit_T q] at hC
        iterate 2 (refine kX_one rfl ?_)
        refine kX_cal hC rfl (Or.inr rfl) rfl rfl rfl (fun r1 σ1 q1 => ?_)
        obtain ⟨v, rfl, hq⟩ := q1
        refine kX_ret (i := .ireturn) (len := 1) rfl (Or.inr rfl) rfl (hq)
    repeat refine kX_one rfl ?_
    refine kX_if (fun q => ?_) (fun q => ?_)
    · exact k49 (Or.inl (qeq q))
    · have q4 : w ≠ nI 4 := qeqF q
      repeat refine kX_one rfl ?_
      refine kX_if (fun q => ?_) (fun q => ?_)
      · exact k49 (Or.inr (Or.inl (qeq q)))
      · have q5 : w ≠ nI 5 := qeqF q
        repeat refine kX_one rfl ?_
        refine kX_if (fun q => ?_) (fun q => ?_)
        · exact k49 (Or.inr (Or.inr (qeq q)))
        · have q9 : w ≠ nI 9 := qeqF q
          repeat refine kX_one rfl ?_
          refine kX_ret (i := .ireturn) (len := 1) rfl (Or.inr rfl) rfl (hO hA (fun z => z.elim q4 (fun z => z.elim q5 q9)))
  iterate 3 (refine kX_one rfl ?_)
  refine kX_cal (mc_has L xs (d + 4) σ n x hn hT.2.1) rfl (Or.inr rfl) rfl rfl rfl (fun r1 σ1 q1 => ?_)
  obtain ⟨rfl, rfl⟩ := q1
  repeat refine kX_one rfl ?_
  refine kX_if (fun q => ?_) (fun q => ?_)
  · exact k28 (fun z => isB_ne.mpr z.1 (qeq q))
  · have hx := isB_ne.mp (qeqF q)
    repeat refine kX_one rfl ?_
    refine kX_if (fun q => ?_) (fun q => ?_)
    · exact k30 ⟨hx, Or.inl (qeq q)⟩
    · have q9 : w ≠ nI 9 := qeqF q
      iterate 3 (refine kX_one rfl ?_)
      refine kX_cal (mc_has L xs (d + 4) σ n y hn hT.2.1) rfl (Or.inr rfl) rfl rfl rfl (fun r1 σ1 q1 => ?_)
      obtain ⟨rfl, rfl⟩ := q1
      repeat refine kX_one rfl ?_
      refine kX_if (fun q2 => ?_) (fun q2 => ?_)
      · exact k30 ⟨hx, Or.inr (isB_ne.mp (qne q2))⟩
      · exact k28 (fun z => z.2.elim q9 (fun z => isB_ne.mpr z (qneF q2)))
theorem bo_term (L : Nat) (xs : Nat → Int32) (d d' m : Nat) (σ : kS) (w x y : Int32) (h : bJ m σ) : kXM kT L xs (d + 6) 111 [.ref 0, .int w, .int x, .int y] σ (fun r τ => ∃ z, r = some (.int z) ∧ kXM kT L xs (d' + 5) 158 [.ref 232, .int w, .int x, .int y] τ (fun r' ω => r' = some (.int z) ∧ bJ m ω)) := by
  have hb := h
  obtain ⟨n, b, R, S, C, kl, h⟩ := h
  have hn := h.1.1.1
  refine kg_term L xs d σ n w x y _ h.2.1.1 (fun q => ⟨_, rfl, ?_⟩) (fun q q2 => ⟨_, rfl, ?_⟩) (fun q q2 => ?_)
  · exact mg_term L xs d' σ n b w x y _ h.1.1 (fun _ => ⟨rfl, hb⟩) (fun z => absurd z q) (fun z => absurd z q)
  · exact mg_term L xs d' σ n b w x y _ h.1.1 (fun z => absurd q z) (fun _ _ => ⟨rfl, hb⟩) (fun _ z => absurd z q2)
  · obtain ⟨⟨u, hu, rfl⟩, hy⟩ := q
    have key : ∃ k v, 3 < k ∧ w = nI k ∧ tNw k (nI u) (cit (w = nI 9) (-1) y) u v n ∧ k ≠ 6 ∧ k ≠ 7 ∧ k ≠ 8 := by
      by_cases q9 : w = nI 9
      · rw [cit_T q9]
        exact ⟨9, 0, by decide, q9, Or.inr (Or.inr ⟨Or.inr rfl, rfl, rfl, hu⟩), by decide, by decide, by decide⟩
      · rw [cit_F q9]
        obtain ⟨v, hv, rfl⟩ := hy.elim (fun z => absurd z q9) id
        rcases q2 with z | z | z
        · exact ⟨4, v, by decide, z, Or.inr (Or.inl ⟨Or.inl rfl, rfl, rfl, hu, hv⟩), by decide, by decide, by decide⟩
        · exact ⟨5, v, by decide, z, Or.inr (Or.inl ⟨Or.inr (Or.inl rfl), rfl, rfl, hu, hv⟩), by decide, by decide, by decide⟩
        · exact absurd z q9
    obtain ⟨k, v, k3, rfl, hw, k6, k7, k8⟩ := key
    refine kXM_mono (bo_comp L xs d d' σ n b R S C m k u v kl _ _ h k3 hw (by omega) (by omega)) (fun r τ q => ?_)
    obtain ⟨z, rfl, t1, t2, t3⟩ := q
    refine ⟨z, rfl, z, rfl, mg_term L xs d' τ n b _ _ _ _ t1.1 (fun q => absurd ⟨⟨u, hu, rfl⟩, hy⟩ q) (fun _ q => absurd q2 q) (fun _ _ => kXM_mono t3 (fun r ω q => ⟨z, q.1, rfl, q.2⟩))⟩
end
section
/-! alike: of, about -/
set_option maxRecDepth 100000 in
set_option maxHeartbeats 4000000 in
theorem mg_of (L : Nat) (xs : Nat → Int32) (d : Nat) (σ : kS) (n b : Nat) (w y z : Int32) (Q : Option Value → kS → Prop) (h1 : mTb σ n b) (hU : ¬ (isN z n ∧ (w = nI 7 ∨ isN y n)) → Q (some (.int (-1))) σ) (hO : isN z n ∧ (w = nI 7 ∨ isN y n) → ¬ ((w = nI 6 ∨ w = nI 7 ∨ w = nI 8) ∧ mAG σ n (fN z)) → Q (some (.int (-2))) σ) (hC : isN z n ∧ (w = nI 7 ∨ isN y n) → (w = nI 6 ∨ w = nI 7 ∨ w = nI 8) ∧ mAG σ n (fN z) → kXM kT L xs (d + 4) 157 [.ref 232, .int w, .int (cit (w = nI 7) z y), .int (cit (w = nI 7) (-1) z)] σ (fun r τ => ∃ z, r = some (.int z) ∧ Q (some (.int z)) τ)) : kXM kT L xs (d + 5) 159 [.ref 232, .int w, .int y, .int z] σ Q := by
  have hn := h1.1
  have key : (w = nI 7 ∨ isN y n) → kX kT L xs (d + 5) 159 14 [(0, .ref 232), (1, .int w), (2, .int y), (3, .int z)] [] σ Q := by
    intro hy
    repeat refine kX_one rfl ?_
    refine kX_cal (mr_isTerm L xs (d + 3) σ n z h1.2.2.2.1 (by omega)) rfl (Or.inr rfl) rfl rfl rfl (fun r1 σ1 q1 => ?_)
    obtain ⟨rfl, rfl⟩ := q1
    repeat refine kX_one rfl ?_
    refine kX_if (fun q => ?_) (fun q => ?_)
    · have hz := isB_ne.mp (qne q)
      have hA : isN z n ∧ (w = nI 7 ∨ isN y n) := ⟨hz, hy⟩
      obtain ⟨v, hv, rfl⟩ := hz
      rw [fN_nI (by omega)] at hO hC
      repeat refine kX_one rfl ?_
      refine kX_cal (mr_in L xs (d + 4) σ _ _ _) rfl (Or.inr rfl) rfl rfl rfl (fun r1 σ1 q1 => ?_)
      obtain ⟨rfl, rfl⟩ := q1
      rw [isB_dec]
      repeat refine kX_one rfl ?_
      refine kX_if (fun q => ?_) (fun q => ?_)
      · have q := qeq q
        repeat refine kX_one rfl ?_
        refine kX_ret (i := .ireturn) (len := 1) rfl (Or.inr rfl) rfl (hO hA (fun z => isB_ne.mpr (by rcases z.1 with rfl | rfl | rfl <;> decide) q))
      · obtain ⟨k, k1, k2, rfl⟩ := in_R (lo := 6) (hi := 8) (by omega) (by omega) (isB_ne.mp (qeqF q)).1 (isB_ne.mp (qeqF q)).2
        have hk : nI k = nI 6 ∨ nI k = nI 7 ∨ nI k = nI 8 := by
          rcases (show k = 6 ∨ k = 7 ∨ k = 8 by omega) with rfl | rfl | rfl <;> simp
        have fin : mAG σ n v → kX kT L xs (d + 5) 159 69 [(0, .ref 232), (1, .int (nI k)), (2, .int y), (3, .int (nI v))] [] σ Q := by
          intro hG
          have hC := hC hA ⟨hk, hG⟩
          repeat refine kX_one rfl ?_
          refine kX_if (fun q => ?_) (fun q => ?_)
          · have q : nI k ≠ nI 7 := qne q
            rw [cit_F q, cit_F q] at hC
            repeat refine kX_one rfl ?_
            refine kX_cal hC rfl (Or.inr rfl) rfl rfl rfl (fun r1 σ1 q1 => ?_)
            obtain ⟨z, rfl, q1⟩ := q1
            repeat refine kX_one rfl ?_
            refine kX_ret (i := .ireturn) (len := 1) rfl (Or.inr rfl) rfl (q1)
          · have q : nI k = nI 7 := qneF q
            rw [cit_T q, cit_T q] at hC
            repeat refine kX_one rfl ?_
            refine kX_cal hC rfl (Or.inr rfl) rfl rfl rfl (fun r1 σ1 q1 => ?_)
            obtain ⟨z, rfl, q1⟩ := q1
            repeat refine kX_one rfl ?_
            refine kX_ret (i := .ireturn) (len := 1) rfl (Or.inr rfl) rfl (q1)
        repeat refine kX_one rfl ?_
        refine kX_ialdN rfl rfl (by decide) (v) (by first | rfl | decide) (by omega) ?_
        repeat refine kX_one rfl ?_
        refine kX_if (fun q => ?_) (fun q => ?_)
        · exact fin ⟨hv, Or.inl (qeq q)⟩
        · have q0 : σ 233 v ≠ nI 0 := qeqF q
          repeat refine kX_one rfl ?_
          refine kX_ialdN rfl rfl (by decide) (v) (by first | rfl | decide) (by omega) ?_
          repeat refine kX_one rfl ?_
          refine kX_if (fun q => ?_) (fun q => ?_)
          · have q3 : σ 233 v ≠ nI 3 := qne q
            repeat refine kX_one rfl ?_
            refine kX_ret (i := .ireturn) (len := 1) rfl (Or.inr rfl) rfl (hO hA (fun z => z.2.2.elim q0 (fun z => q3 z.1)))
          · have q3 : σ 233 v = nI 3 := qneF q
            repeat refine kX_one rfl ?_
            refine kX_ialdN rfl rfl (by decide) (v) (by first | rfl | decide) (by omega) ?_
            repeat refine kX_one rfl ?_
            refine kX_if (fun q => ?_) (fun q => ?_)
            · exact fin ⟨hv, Or.inr ⟨q3, qeq q⟩⟩
            · have q4 : σ 240 v ≠ nI 0 := qeqF q
              repeat refine kX_one rfl ?_
              refine kX_ret (i := .ireturn) (len := 1) rfl (Or.inr rfl) rfl (hO hA (fun z => z.2.2.elim q0 (fun z => q4 z.2)))
    · have q := qneF q
      repeat refine kX_one rfl ?_
      refine kX_ret (i := .ireturn) (len := 1) rfl (Or.inr rfl) rfl (hU (fun z => isB_ne.mpr z.1 q))
  unfold kXM
  repeat refine kX_one rfl ?_
  refine kX_if (fun q => ?_) (fun q => ?_)
  · exact key (Or.inl (qeq q))
  · have q7 : w ≠ nI 7 := qeqF q
    repeat refine kX_one rfl ?_
    refine kX_cal (mr_isTerm L xs (d + 3) σ n y h1.2.2.2.1 (by omega)) rfl (Or.inr rfl) rfl rfl rfl (fun r1 σ1 q1 => ?_)
    obtain ⟨rfl, rfl⟩ := q1
    repeat refine kX_one rfl ?_
    refine kX_if (fun q => ?_) (fun q => ?_)
    · have q := qeq q
      repeat refine kX_one rfl ?_
      refine kX_ret (i := .ireturn) (len := 1) rfl (Or.inr rfl) rfl (hU (fun z => z.2.elim q7 (fun z => isB_ne.mpr z q)))
    · exact key (Or.inr (isB_ne.mp (qeqF q)))
set_option maxRecDepth 100000 in
set_option maxHeartbeats 4000000 in
theorem kg_of (L : Nat) (xs : Nat → Int32) (d : Nat) (σ : kS) (n : Nat) (w y z : Int32) (Q : Option Value → kS → Prop) (hT : cT σ n) (hA : aT σ n) (hU : ¬ (isN z n ∧ (w = nI 7 ∨ isN y n)) → Q (some (.int (-1))) σ) (hO : isN z n ∧ (w = nI 7 ∨ isN y n) → ¬ ((w = nI 6 ∨ w = nI 7 ∨ w = nI 8) ∧ mAG σ n (fN z)) → Q (some (.int (-2))) σ) (hC : isN z n ∧ (w = nI 7 ∨ isN y n) → (w = nI 6 ∨ w = nI 7 ∨ w = nI 8) ∧ mAG σ n (fN z) → kXM kT L xs (d + 5) 142 [.ref 0, .int w, .int (cit (w = nI 7) z y), .int (cit (w = nI 7) (-1) z)] σ (fun r τ => ∃ z, r = some (.int z) ∧ Q (some (.int z)) τ)) : kXM kT L xs (d + 6) 112 [.ref 0, .int w, .int y, .int z] σ Q := by
  have hn := hT.1
  unfold kXM
  have k28 : ¬ (isN z n ∧ (w = nI 7 ∨ isN y n)) → kX kT L xs (d + 6) 112 28 (lv_args 0 [.ref 0, .int w, .int y, .int z]) [] σ Q := by
    intro q
    repeat refine kX_one rfl ?_
    refine kX_ret (i := .ireturn) (len := 1) rfl (Or.inr rfl) rfl (hU q)
  have k30 : isN z n ∧ (w = nI 7 ∨ isN y n) → kX kT L xs (d + 6) 112 30 (lv_args 0 [.ref 0, .int w, .int y, .int z]) [] σ Q := by
    intro hAA
    have hO := hO hAA
    have hC := hC hAA
    obtain ⟨⟨v, hv, rfl⟩, -⟩ := hAA
    rw [fN_nI (by omega)] at hO hC
    have e := hA.1 v hv
    have hag : (σ 2 v = 0 ∨ (σ 2 v = 3 ∧ σ 11 v = 0)) ↔ mAG σ n v := by
      unfold mAG
      rw [e.1]
      constructor
      · rintro (q | ⟨q, q2⟩)
        · exact ⟨hv, Or.inl q⟩
        · exact ⟨hv, Or.inr ⟨q, (e.2.2.2.2.2.2 q).2.1.symm.trans q2⟩⟩
      · rintro ⟨-, q | ⟨q, q2⟩⟩
        · exact Or.inl q
        · exact Or.inr ⟨q, (e.2.2.2.2.2.2 q).2.1.trans q2⟩
    have k59 : ¬ ((w = nI 6 ∨ w = nI 7 ∨ w = nI 8) ∧ mAG σ n v) → kX kT L xs (d + 6) 112 59 (lv_args 0 [.ref 0, .int w, .int y, .int (nI v)]) [] σ Q := by
      intro q
      repeat refine kX_one rfl ?_
      refine kX_ret (i := .ireturn) (len := 1) rfl (Or.inr rfl) rfl (hO q)
    have k48 : (w = nI 6 ∨ w = nI 7 ∨ w = nI 8) → kX kT L xs (d + 6) 112 48 (lv_args 0 [.ref 0, .int w, .int y, .int (nI v)]) [] σ Q := by
      intro hw
      iterate 3 (refine kX_one rfl ?_)
      refine kX_cal (mc_mayBeAgent L xs (d + 2) σ n v hn hT.2.1 hv) rfl (Or.inr rfl) rfl rfl rfl (fun r1 σ1 q1 => ?_)
      obtain ⟨rfl, rfl⟩ := q1
      repeat refine kX_one rfl ?_
      refine kX_if (fun q => ?_) (fun q => ?_)
      · have hC := hC ⟨hw, hag.mp (isB_ne.mp (qne q))⟩
        iterate 2 (refine kX_one rfl ?_)
        repeat refine kX_one rfl ?_
        refine kX_if (fun q2 => ?_) (fun q2 => ?_)
        · have q2 : w ≠ nI 7 := qne q2
          rw [cit_F q2, cit_F q2] at hC
          iterate 4 (refine kX_one rfl ?_)
          refine kX_cal hC rfl (Or.inr rfl) rfl rfl rfl (fun r1 σ1 q1 => ?_)
          obtain ⟨v, rfl, hA⟩ := q1
          refine kX_ret (i := .ireturn) (len := 1) rfl (Or.inr rfl) rfl (hA)
        · have q2 : w = nI 7 := qneF q2
          rw [cit_T q2, cit_T q2] at hC
          subst q2
          iterate 4 (refine kX_one rfl ?_)
          refine kX_cal hC rfl (Or.inr rfl) rfl rfl rfl (fun r1 σ1 q1 => ?_)
          obtain ⟨v, rfl, hA⟩ := q1
          iterate 1 (refine kX_one rfl ?_)
          refine kX_ret (i := .ireturn) (len := 1) rfl (Or.inr rfl) rfl (hA)
      · exact k59 (fun z => isB_ne.mpr (hag.mpr z.2) (qneF q))
    repeat refine kX_one rfl ?_
    refine kX_if (fun q => ?_) (fun q => ?_)
    · exact k48 (Or.inl (qeq q))
    · have q6 : w ≠ nI 6 := qeqF q
      repeat refine kX_one rfl ?_
      refine kX_if (fun q => ?_) (fun q => ?_)
      · exact k48 (Or.inr (Or.inl (qeq q)))
      · have q7 : w ≠ nI 7 := qeqF q
        repeat refine kX_one rfl ?_
        refine kX_if (fun q => ?_) (fun q => ?_)
        · have q8 : w ≠ nI 8 := qne q
          exact k59 (fun z => z.1.elim q6 (fun z => z.elim q7 q8))
        · exact k48 (Or.inr (Or.inr (qneF q)))
  iterate 3 (refine kX_one rfl ?_)
  refine kX_cal (mc_has L xs (d + 4) σ n z hn hT.2.1) rfl (Or.inr rfl) rfl rfl rfl (fun r1 σ1 q1 => ?_)
  obtain ⟨rfl, rfl⟩ := q1
  repeat refine kX_one rfl ?_
  refine kX_if (fun q => ?_) (fun q => ?_)
  · exact k28 (fun z => isB_ne.mpr z.1 (qeq q))
  · have hz := isB_ne.mp (qeqF q)
    repeat refine kX_one rfl ?_
    refine kX_if (fun q => ?_) (fun q => ?_)
    · exact k30 ⟨hz, Or.inl (qeq q)⟩
    · have q7 : w ≠ nI 7 := qeqF q
      iterate 3 (refine kX_one rfl ?_)
      refine kX_cal (mc_has L xs (d + 4) σ n y hn hT.2.1) rfl (Or.inr rfl) rfl rfl rfl (fun r1 σ1 q1 => ?_)
      obtain ⟨rfl, rfl⟩ := q1
      repeat refine kX_one rfl ?_
      refine kX_if (fun q2 => ?_) (fun q2 => ?_)
      · exact k30 ⟨hz, Or.inr (isB_ne.mp (qne q2))⟩
      · exact k28 (fun z => z.2.elim q7 (fun z => isB_ne.mpr z (qneF q2)))
theorem mAG_eq {σ τ : kS} {n y : Nat} (e : ∀ c, 232 ≤ c → τ c = σ c) : mAG τ n y ↔ mAG σ n y := by
  unfold mAG
  rw [e 233 (by decide), e 240 (by decide)]
theorem bo_of (L : Nat) (xs : Nat → Int32) (d d' m : Nat) (σ : kS) (w y z : Int32) (h : bJ m σ) : kXM kT L xs (d + 6) 112 [.ref 0, .int w, .int y, .int z] σ (fun r τ => ∃ z', r = some (.int z') ∧ kXM kT L xs (d' + 5) 159 [.ref 232, .int w, .int y, .int z] τ (fun r' ω => r' = some (.int z') ∧ bJ m ω)) := by
  have hb := h
  obtain ⟨n, b, R, S, C, kl, h⟩ := h
  have hn := h.1.1.1
  refine kg_of L xs d σ n w y z _ h.2.1.1 h.2.2.1 (fun q => ⟨_, rfl, ?_⟩) (fun q q2 => ⟨_, rfl, ?_⟩) (fun q q2 => ?_)
  · exact mg_of L xs d' σ n b w y z _ h.1.1 (fun _ => ⟨rfl, hb⟩) (fun z => absurd z q) (fun z => absurd z q)
  · exact mg_of L xs d' σ n b w y z _ h.1.1 (fun z => absurd q z) (fun _ _ => ⟨rfl, hb⟩) (fun _ z => absurd z q2)
  · have hq := q
    obtain ⟨⟨v, hv, rfl⟩, hy⟩ := q
    have key : ∃ k x0 y0, 3 < k ∧ w = nI k ∧ tNw k (cit (w = nI 7) (nI v) y) (cit (w = nI 7) (-1) (nI v)) x0 y0 n ∧ (k = 6 ∨ k = 8 → mAG σ n y0) ∧ (k = 7 → mAG σ n x0) := by
      have hG := q2.2
      rw [fN_nI (by omega)] at hG
      by_cases q7 : w = nI 7
      · rw [cit_T q7, cit_T q7]
        exact ⟨7, v, 0, by decide, q7, Or.inr (Or.inr ⟨Or.inl rfl, rfl, rfl, hv⟩), by omega, fun _ => hG⟩
      · rw [cit_F q7, cit_F q7]
        obtain ⟨u, hu, rfl⟩ := hy.elim (fun z => absurd z q7) id
        rcases q2.1 with z | z | z
        · exact ⟨6, u, v, by decide, z, Or.inr (Or.inl ⟨by omega, rfl, rfl, hu, hv⟩), fun _ => hG, by omega⟩
        · exact absurd z q7
        · exact ⟨8, u, v, by decide, z, Or.inr (Or.inl ⟨by omega, rfl, rfl, hu, hv⟩), fun _ => hG, by omega⟩
    obtain ⟨k, x0, y0, k3, rfl, hw, k6, k7⟩ := key
    refine kXM_mono (bo_comp L xs d d' σ n b R S C m k x0 y0 kl _ _ h k3 hw k6 k7) (fun r τ q => ?_)
    obtain ⟨z, rfl, t1, t2, t3⟩ := q
    refine ⟨z, rfl, z, rfl, mg_of L xs d' τ n b _ _ _ _ t1.1 (fun q => absurd hq q) (fun _ q => absurd ⟨q2.1, (mAG_eq t2).mpr q2.2⟩ q) (fun _ _ => kXM_mono t3 (fun r ω q => ⟨z, q.1, rfl, q.2⟩))⟩
/-- calls that only tell -/
theorem bo_same {L : Nat} {xs : Nat → Int32} {d d' y y' m : Nat} {as as' : List Value} {σ : kS} {v : Int32} (h : bJ m σ) (h1 : kXM kT L xs d y as σ (fun r σ' => r = some (.int v) ∧ σ = σ')) (h2 : kXM kT L xs d' y' as' σ (fun r σ' => r = some (.int v) ∧ σ = σ')) : kXM kT L xs d y as σ (fun r τ => ∃ z, r = some (.int z) ∧ kXM kT L xs d' y' as' τ (fun r' ω => r' = some (.int z) ∧ bJ m ω)) := by
  refine kXM_mono h1 (fun r τ q => ?_)
  obtain ⟨rfl, rfl⟩ := q
  refine ⟨v, rfl, kXM_mono h2 (fun r ω q => ?_)⟩
  obtain ⟨rfl, rfl⟩ := q
  exact ⟨rfl, h⟩
noncomputable def abV (σ : kS) (t : Nat) : Nat → Int32
  | 0 => σ 233 t
  | 1 => if σ 234 t < 0 then -6 else σ 234 t
  | 2 => if σ 235 t < 0 then -6 else σ 235 t
  | 3 => σ 236 t
  | 4 => isB (σ 237 t ≠ 0)
  | 5 => cit (σ 233 t = nI 0) (isB (σ 238 t ≠ 0)) (-6)
  | 6 => cit (σ 233 t = nI 3) (σ 239 t) (-6)
  | 7 => cit (σ 233 t = nI 3) (σ 240 t) (-6)
  | _ => cit (σ 233 t = nI 3) (σ 241 t) (-6)
noncomputable def abA (σ : kS) (n : Nat) (x w : Int32) : Int32 := cit (isN x n) (cit (isN w 9) (abV σ (fN x) (fN w)) (-2)) (-1)
theorem abA_t {σ : kS} {n t k : Nat} (ht : t < n) (hn : n ≤ 200) (hk : k < 9) : abA σ n (nI t) (nI k) = abV σ t k := by
  unfold abA
  rw [cit_T ⟨t, ht, rfl⟩, cit_T ⟨k, hk, rfl⟩, fN_nI (by omega), fN_nI (by omega)]
end
section
/-! alike: about -/
theorem ite_iff {P Q : Prop} [Decidable P] [Decidable Q] {α : Type} {a b : α} (h : P ↔ Q) : (if P then a else b) = if Q then a else b := by
  by_cases p : P
  · rw [if_pos p, if_pos (h.mp p)]
  · rw [if_neg p, if_neg (fun q => p (h.mpr q))]
theorem m1_lt {σ : kS} {n b t : Nat} (h : mTb σ n b) (ht : t < n) : (σ 234 t < 0 ↔ σ 234 t = -1) ∧ (σ 235 t < 0 ↔ σ 235 t = -1) := by
  have hp : ∀ x : Nat, x < 100000 → (nI x < 0 ↔ nI x = -1) := fun x hx => ⟨fun q => absurd q (nI_pos (by omega)), fun q => absurd q (nI_m1 (by omega))⟩
  have hm : (-1 : Int32) < 0 ↔ (-1 : Int32) = -1 := by decide
  have hn := h.1
  rcases (mTb_num h t ht).2 with ⟨k, -, -, q1, q2⟩ | ⟨k, x, y, -, -, q1, q2, q3, q4, -⟩ | ⟨k, x, -, -, q1, q2, q3, -⟩
  · rw [q1, q2]
    exact ⟨hm, hm⟩
  · rw [q1, q2]
    exact ⟨hp x (by omega), hp y (by omega)⟩
  · rw [q1, q2]
    exact ⟨hp x (by omega), hm⟩
set_option maxRecDepth 100000 in
set_option maxHeartbeats 4000000 in
theorem mt_about (L : Nat) (xs : Nat → Int32) (d : Nat) (σ : kS) (n b : Nat) (x y : Int32) (h1 : mTb σ n b) : kXM kT L xs (d + 2) 160 [.ref 232, .int x, .int y] σ (fun r σ' => r = some (.int (abA σ n x y)) ∧ σ = σ') := by
  have hn := h1.1
  unfold kXM
  repeat refine kX_one rfl ?_
  refine kX_cal (mr_isTerm L xs d σ n x h1.2.2.2.1 (by omega)) rfl (Or.inr rfl) rfl rfl rfl (fun r1 σ1 q1 => ?_)
  obtain ⟨rfl, rfl⟩ := q1
  repeat refine kX_one rfl ?_
  refine kX_if (fun q => ?_) (fun q => ?_)
  · obtain ⟨t, ht, rfl⟩ := isB_ne.mp (qne q)
    have key : ∀ w, w = isB (σ 233 t = nI 3) → kX kT L xs (d + 2) 160 26 [(3, .int w), (0, .ref 232), (1, .int (nI t)), (2, .int y)] [] σ (fun r σ' => r = some (.int (abA σ n (nI t) y)) ∧ σ = σ') := by
      intro w hw
      by_cases hy : ∃ k, k < 9 ∧ y = nI k
      · obtain ⟨k, hk, rfl⟩ := hy
        rw [abA_t ht hn hk]
        have : k = 0 ∨ k = 1 ∨ k = 2 ∨ k = 3 ∨ k = 4 ∨ k = 5 ∨ k = 6 ∨ k = 7 ∨ k = 8 := by omega
        rcases this with rfl | rfl | rfl | rfl | rfl | rfl | rfl | rfl | rfl
        · repeat refine kX_one rfl ?_
          refine kX_ialdN rfl rfl (by decide) (t) (by first | rfl | decide) (by omega) ?_
          repeat refine kX_one rfl ?_
          refine kX_ret (i := .ireturn) (len := 1) rfl (Or.inr rfl) rfl (⟨rfl, rfl⟩)
        · repeat refine kX_one rfl ?_
          refine kX_ialdN rfl rfl (by decide) (t) (by first | rfl | decide) (by omega) ?_
          repeat refine kX_one rfl ?_
          refine kX_if (fun q => ?_) (fun q => ?_)
          · have q : ¬ σ 234 t < 0 := fun z => absurd (of_decide_eq_true q) (Int32.not_le.mpr z)
            repeat refine kX_one rfl ?_
            refine kX_ialdN rfl rfl (by decide) (t) (by first | rfl | decide) (by omega) ?_
            repeat refine kX_one rfl ?_
            refine kX_ret (i := .ireturn) (len := 1) rfl (Or.inr rfl) rfl (⟨congrArg (fun z => some (Value.int z)) (show _ = (if σ 234 t < 0 then (-6 : Int32) else σ 234 t) by rw [if_neg q]), rfl⟩)
          · have q : σ 234 t < 0 := Int32.not_le.mp (of_decide_eq_false q)
            repeat refine kX_one rfl ?_
            refine kX_ret (i := .ireturn) (len := 1) rfl (Or.inr rfl) rfl (⟨congrArg (fun z => some (Value.int z)) (show _ = (if σ 234 t < 0 then (-6 : Int32) else σ 234 t) by rw [if_pos q]; rfl), rfl⟩)
        · repeat refine kX_one rfl ?_
          refine kX_ialdN rfl rfl (by decide) (t) (by first | rfl | decide) (by omega) ?_
          repeat refine kX_one rfl ?_
          refine kX_if (fun q => ?_) (fun q => ?_)
          · have q : ¬ σ 235 t < 0 := fun z => absurd (of_decide_eq_true q) (Int32.not_le.mpr z)
            repeat refine kX_one rfl ?_
            refine kX_ialdN rfl rfl (by decide) (t) (by first | rfl | decide) (by omega) ?_
            repeat refine kX_one rfl ?_
            refine kX_ret (i := .ireturn) (len := 1) rfl (Or.inr rfl) rfl (⟨congrArg (fun z => some (Value.int z)) (show _ = (if σ 235 t < 0 then (-6 : Int32) else σ 235 t) by rw [if_neg q]), rfl⟩)
          · have q : σ 235 t < 0 := Int32.not_le.mp (of_decide_eq_false q)
            repeat refine kX_one rfl ?_
            refine kX_ret (i := .ireturn) (len := 1) rfl (Or.inr rfl) rfl (⟨congrArg (fun z => some (Value.int z)) (show _ = (if σ 235 t < 0 then (-6 : Int32) else σ 235 t) by rw [if_pos q]; rfl), rfl⟩)
        · repeat refine kX_one rfl ?_
          refine kX_ialdN rfl rfl (by decide) (t) (by first | rfl | decide) (by omega) ?_
          repeat refine kX_one rfl ?_
          refine kX_ret (i := .ireturn) (len := 1) rfl (Or.inr rfl) rfl (⟨rfl, rfl⟩)
        · repeat refine kX_one rfl ?_
          refine kX_baldN rfl rfl (by decide) (t) (by first | rfl | decide) (by omega) ?_
          repeat refine kX_one rfl ?_
          refine kX_if (fun q => ?_) (fun q => ?_)
          · repeat refine kX_one rfl ?_
            refine kX_ret (i := .ireturn) (len := 1) rfl (Or.inr rfl) rfl (⟨rF (fun z => z (qeq q)), rfl⟩)
          · repeat refine kX_one rfl ?_
            refine kX_ret (i := .ireturn) (len := 1) rfl (Or.inr rfl) rfl (⟨rT (qeqF q), rfl⟩)
        · repeat refine kX_one rfl ?_
          refine kX_ialdN rfl rfl (by decide) (t) (by first | rfl | decide) (by omega) ?_
          repeat refine kX_one rfl ?_
          refine kX_if (fun q => ?_) (fun q => ?_)
          · have q0 : σ 233 t = nI 0 := qeq q
            repeat refine kX_one rfl ?_
            refine kX_baldN rfl rfl (by decide) (t) (by first | rfl | decide) (by omega) ?_
            repeat refine kX_one rfl ?_
            refine kX_if (fun q => ?_) (fun q => ?_)
            · repeat refine kX_one rfl ?_
              refine kX_ret (i := .ireturn) (len := 1) rfl (Or.inr rfl) rfl (⟨congrArg (fun z => some (Value.int z)) (show _ = cit (σ 233 t = nI 0) (isB (σ 238 t ≠ 0)) (-6) by rw [cit_T q0, isB_F (fun z => z (qeq q))]; rfl), rfl⟩)
            · repeat refine kX_one rfl ?_
              refine kX_ret (i := .ireturn) (len := 1) rfl (Or.inr rfl) rfl (⟨congrArg (fun z => some (Value.int z)) (show _ = cit (σ 233 t = nI 0) (isB (σ 238 t ≠ 0)) (-6) by rw [cit_T q0, isB_T (qeqF q)]; rfl), rfl⟩)
          · have q0 : ¬ σ 233 t = nI 0 := qeqF q
            repeat refine kX_one rfl ?_
            refine kX_ret (i := .ireturn) (len := 1) rfl (Or.inr rfl) rfl (⟨congrArg (fun z => some (Value.int z)) (show _ = cit (σ 233 t = nI 0) (isB (σ 238 t ≠ 0)) (-6) by rw [cit_F q0]; rfl), rfl⟩)
        · repeat refine kX_one rfl ?_
          refine kX_if (fun q => ?_) (fun q => ?_)
          · have q : ¬ σ 233 t = nI 3 := fun z => isB_ne.mpr z (hw.symm.trans (qeq q))
            repeat refine kX_one rfl ?_
            refine kX_ret (i := .ireturn) (len := 1) rfl (Or.inr rfl) rfl (⟨congrArg (fun z => some (Value.int z)) (show _ = cit (σ 233 t = nI 3) (σ 239 t) (-6) by rw [cit_F q]; rfl), rfl⟩)
          · have q : σ 233 t = nI 3 := isB_ne.mp (fun z => qeqF q (hw.trans z))
            repeat refine kX_one rfl ?_
            refine kX_ialdN rfl rfl (by decide) (t) (by first | rfl | decide) (by omega) ?_
            repeat refine kX_one rfl ?_
            refine kX_ret (i := .ireturn) (len := 1) rfl (Or.inr rfl) rfl (⟨congrArg (fun z => some (Value.int z)) (show _ = cit (σ 233 t = nI 3) (σ 239 t) (-6) by rw [cit_T q]), rfl⟩)
        · repeat refine kX_one rfl ?_
          refine kX_if (fun q => ?_) (fun q => ?_)
          · have q : ¬ σ 233 t = nI 3 := fun z => isB_ne.mpr z (hw.symm.trans (qeq q))
            repeat refine kX_one rfl ?_
            refine kX_ret (i := .ireturn) (len := 1) rfl (Or.inr rfl) rfl (⟨congrArg (fun z => some (Value.int z)) (show _ = cit (σ 233 t = nI 3) (σ 240 t) (-6) by rw [cit_F q]; rfl), rfl⟩)
          · have q : σ 233 t = nI 3 := isB_ne.mp (fun z => qeqF q (hw.trans z))
            repeat refine kX_one rfl ?_
            refine kX_ialdN rfl rfl (by decide) (t) (by first | rfl | decide) (by omega) ?_
            repeat refine kX_one rfl ?_
            refine kX_ret (i := .ireturn) (len := 1) rfl (Or.inr rfl) rfl (⟨congrArg (fun z => some (Value.int z)) (show _ = cit (σ 233 t = nI 3) (σ 240 t) (-6) by rw [cit_T q]), rfl⟩)
        · repeat refine kX_one rfl ?_
          refine kX_if (fun q => ?_) (fun q => ?_)
          · have q : ¬ σ 233 t = nI 3 := fun z => isB_ne.mpr z (hw.symm.trans (qeq q))
            repeat refine kX_one rfl ?_
            refine kX_ret (i := .ireturn) (len := 1) rfl (Or.inr rfl) rfl (⟨congrArg (fun z => some (Value.int z)) (show _ = cit (σ 233 t = nI 3) (σ 241 t) (-6) by rw [cit_F q]; rfl), rfl⟩)
          · have q : σ 233 t = nI 3 := isB_ne.mp (fun z => qeqF q (hw.trans z))
            repeat refine kX_one rfl ?_
            refine kX_ialdN rfl rfl (by decide) (t) (by first | rfl | decide) (by omega) ?_
            repeat refine kX_one rfl ?_
            refine kX_ret (i := .ireturn) (len := 1) rfl (Or.inr rfl) rfl (⟨congrArg (fun z => some (Value.int z)) (show _ = cit (σ 233 t = nI 3) (σ 241 t) (-6) by rw [cit_T q]), rfl⟩)
      · iterate 1 (refine kX_one rfl ?_)
        refine kX_tabO rfl (kp_out 9 (fun k hk e => hy ⟨k, hk, e⟩) (by decide)) rfl ?_
        repeat refine kX_one rfl ?_
        refine kX_ret (i := .ireturn) (len := 1) rfl (Or.inr rfl) rfl (⟨congrArg (fun z => some (Value.int z)) (show _ = abA σ n (nI t) y by unfold abA; rw [cit_T ⟨t, ht, rfl⟩, cit_F (P := isN y 9) hy]; rfl), rfl⟩)
    repeat refine kX_one rfl ?_
    refine kX_ialdN rfl rfl (by decide) (t) (by first | rfl | decide) (by omega) ?_
    repeat refine kX_one rfl ?_
    refine kX_if (fun q => ?_) (fun q => ?_)
    · iterate 2 (refine kX_one rfl ?_)
      exact key 0 (isB_F (show ¬ σ 233 t = nI 3 from qne q)).symm
    · iterate 3 (refine kX_one rfl ?_)
      exact key 1 (isB_T (show σ 233 t = nI 3 from qneF q)).symm
  · have q : ¬ isN x n := fun z => isB_ne.mpr z (qneF q)
    repeat refine kX_one rfl ?_
    refine kX_ret (i := .ireturn) (len := 1) rfl (Or.inr rfl) rfl (⟨congrArg (fun z => some (Value.int z)) (show _ = abA σ n x y by unfold abA; rw [cit_F q]; rfl), rfl⟩)
set_option maxRecDepth 100000 in
set_option maxHeartbeats 4000000 in
theorem kt_about (L : Nat) (xs : Nat → Int32) (d : Nat) (σ : kS) (n b : Nat) (x w : Int32) (h1 : mTb σ n b) (hT : cT σ n) (hA : aT σ n) : kXM kT L xs (d + 2) 113 [.ref 0, .int x, .int w] σ (fun r σ' => r = some (.int (abA σ n x w)) ∧ σ = σ') := by
  have hn := hT.1
  unfold kXM
  iterate 3 (refine kX_one rfl ?_)
  refine kX_cal (mc_has L xs d σ n x hn hT.2.1) rfl (Or.inr rfl) rfl rfl rfl (fun r1 σ1 q1 => ?_)
  obtain ⟨rfl, rfl⟩ := q1
  repeat refine kX_one rfl ?_
  refine kX_if (fun q => ?_) (fun q => ?_)
  · obtain ⟨t, ht, rfl⟩ := isB_ne.mp (qne q)
    obtain ⟨e1, e2, e3, e4, e5, e6, e7⟩ := hA.1 t ht
    have em := m1_lt h1 ht
    repeat refine kX_one rfl ?_
    refine kX_if (fun q2 => ?_) (fun q2 => ?_)
    · have q2 : w < 0 := of_decide_eq_true q2
      have q2 : ¬ isN w 9 := fun ⟨j, j1, j2⟩ => nI_pos (show j < 2147483648 by omega) (by rw [← j2]; exact q2)
      repeat refine kX_one rfl ?_
      refine kX_ret (i := .ireturn) (len := 1) rfl (Or.inr rfl) rfl (⟨congrArg (fun z => some (Value.int z)) (show _ = abA σ n (nI t) w by unfold abA; rw [cit_T ⟨t, ht, rfl⟩, cit_F q2]; rfl), rfl⟩)
    · have q2 : ¬ w < 0 := of_decide_eq_false q2
      obtain ⟨k, hk, rfl⟩ := nI_of q2
      repeat refine kX_one rfl ?_
      refine kX_if (fun q3 => ?_) (fun q3 => ?_)
      · have q3 := qle q3 k 8
        rw [abA_t ht hn (by omega)]
        iterate 4 (refine kX_one rfl ?_)
        refine kX_ialdN rfl rfl (by decide) (t) (by first | rfl | decide) (by omega) ?_
        have : k = 0 ∨ k = 1 ∨ k = 2 ∨ k = 3 ∨ k = 4 ∨ k = 5 ∨ k = 6 ∨ k = 7 ∨ k = 8 := by omega
        rcases this with rfl | rfl | rfl | rfl | rfl | rfl | rfl | rfl | rfl
        · repeat refine kX_one rfl ?_
          refine kX_ret (i := .ireturn) (len := 1) rfl (Or.inr rfl) rfl (⟨congrArg (fun z => some (Value.int z)) e1, rfl⟩)
        · repeat refine kX_one rfl ?_
          refine kX_ialdN rfl rfl (by decide) (t) (by first | rfl | decide) (by omega) ?_
          refine kX_cal (mc_orNone L xs d σ _) rfl (Or.inr rfl) rfl rfl rfl (fun r1 σ1 q1 => ?_)
          obtain ⟨rfl, rfl⟩ := q1
          refine kX_ret (i := .ireturn) (len := 1) rfl (Or.inr rfl) rfl (⟨congrArg (fun z => some (Value.int z)) (show _ = (if σ 234 t < 0 then (-6 : Int32) else σ 234 t) by rw [e2]; exact ite_iff em.1.symm), rfl⟩)
        · repeat refine kX_one rfl ?_
          refine kX_ialdN rfl rfl (by decide) (t) (by first | rfl | decide) (by omega) ?_
          refine kX_cal (mc_orNone L xs d σ _) rfl (Or.inr rfl) rfl rfl rfl (fun r1 σ1 q1 => ?_)
          obtain ⟨rfl, rfl⟩ := q1
          refine kX_ret (i := .ireturn) (len := 1) rfl (Or.inr rfl) rfl (⟨congrArg (fun z => some (Value.int z)) (show _ = (if σ 235 t < 0 then (-6 : Int32) else σ 235 t) by rw [e3]; exact ite_iff em.2.symm), rfl⟩)
        · repeat refine kX_one rfl ?_
          refine kX_ialdN rfl rfl (by decide) (t) (by first | rfl | decide) (by omega) ?_
          refine kX_ret (i := .ireturn) (len := 1) rfl (Or.inr rfl) rfl (⟨congrArg (fun z => some (Value.int z)) e4, rfl⟩)
        · repeat refine kX_one rfl ?_
          refine kX_baldN rfl rfl (by decide) (t) (by first | rfl | decide) (by omega) ?_
          refine kX_cal (mc_asNumber L xs d σ _) rfl (Or.inr rfl) rfl rfl rfl (fun r1 σ1 q1 => ?_)
          obtain ⟨rfl, rfl⟩ := q1
          refine kX_ret (i := .ireturn) (len := 1) rfl (Or.inr rfl) rfl (⟨congrArg (fun z => some (Value.int z)) (show _ = isB (σ 237 t ≠ 0) by rw [e5]), rfl⟩)
        · repeat refine kX_one rfl ?_
          refine kX_if (fun q4 => ?_) (fun q4 => ?_)
          · have q4 : ¬ σ 233 t = nI 0 := fun z => qne q4 (e1.trans z)
            repeat refine kX_one rfl ?_
            refine kX_ret (i := .ireturn) (len := 1) rfl (Or.inr rfl) rfl (⟨congrArg (fun z => some (Value.int z)) (show _ = cit (σ 233 t = nI 0) (isB (σ 238 t ≠ 0)) (-6) by rw [cit_F q4]; rfl), rfl⟩)
          · have q4 : σ 233 t = nI 0 := e1.symm.trans (qneF q4)
            repeat refine kX_one rfl ?_
            refine kX_baldN rfl rfl (by decide) (t) (by first | rfl | decide) (by omega) ?_
            refine kX_cal (mc_asNumber L xs d σ _) rfl (Or.inr rfl) rfl rfl rfl (fun r1 σ1 q1 => ?_)
            obtain ⟨rfl, rfl⟩ := q1
            repeat refine kX_one rfl ?_
            refine kX_ret (i := .ireturn) (len := 1) rfl (Or.inr rfl) rfl (⟨congrArg (fun z => some (Value.int z)) (show _ = cit (σ 233 t = nI 0) (isB (σ 238 t ≠ 0)) (-6) by rw [cit_T q4, e6 q4]), rfl⟩)
        · repeat refine kX_one rfl ?_
          refine kX_if (fun q4 => ?_) (fun q4 => ?_)
          · have q4 : ¬ σ 233 t = nI 3 := fun z => qne q4 (e1.trans z)
            repeat refine kX_one rfl ?_
            refine kX_ret (i := .ireturn) (len := 1) rfl (Or.inr rfl) rfl (⟨congrArg (fun z => some (Value.int z)) (show _ = cit (σ 233 t = nI 3) (σ 239 t) (-6) by rw [cit_F q4]; rfl), rfl⟩)
          · have q4 : σ 233 t = nI 3 := e1.symm.trans (qneF q4)
            repeat refine kX_one rfl ?_
            refine kX_ialdN rfl rfl (by decide) (t) (by first | rfl | decide) (by omega) ?_
            repeat refine kX_one rfl ?_
            refine kX_ret (i := .ireturn) (len := 1) rfl (Or.inr rfl) rfl (⟨congrArg (fun z => some (Value.int z)) (show _ = cit (σ 233 t = nI 3) (σ 239 t) (-6) by rw [cit_T q4, (e7 q4).1]), rfl⟩)
        · repeat refine kX_one rfl ?_
          refine kX_if (fun q4 => ?_) (fun q4 => ?_)
          · have q4 : ¬ σ 233 t = nI 3 := fun z => qne q4 (e1.trans z)
            repeat refine kX_one rfl ?_
            refine kX_ret (i := .ireturn) (len := 1) rfl (Or.inr rfl) rfl (⟨congrArg (fun z => some (Value.int z)) (show _ = cit (σ 233 t = nI 3) (σ 240 t) (-6) by rw [cit_F q4]; rfl), rfl⟩)
          · have q4 : σ 233 t = nI 3 := e1.symm.trans (qneF q4)
            repeat refine kX_one rfl ?_
            refine kX_ialdN rfl rfl (by decide) (t) (by first | rfl | decide) (by omega) ?_
            repeat refine kX_one rfl ?_
            refine kX_ret (i := .ireturn) (len := 1) rfl (Or.inr rfl) rfl (⟨congrArg (fun z => some (Value.int z)) (show _ = cit (σ 233 t = nI 3) (σ 240 t) (-6) by rw [cit_T q4, (e7 q4).2.1]), rfl⟩)
        · repeat refine kX_one rfl ?_
          refine kX_if (fun q4 => ?_) (fun q4 => ?_)
          · have q4 : ¬ σ 233 t = nI 3 := fun z => qne q4 (e1.trans z)
            repeat refine kX_one rfl ?_
            refine kX_ret (i := .ireturn) (len := 1) rfl (Or.inr rfl) rfl (⟨congrArg (fun z => some (Value.int z)) (show _ = cit (σ 233 t = nI 3) (σ 241 t) (-6) by rw [cit_F q4]; rfl), rfl⟩)
          · have q4 : σ 233 t = nI 3 := e1.symm.trans (qneF q4)
            repeat refine kX_one rfl ?_
            refine kX_ialdN rfl rfl (by decide) (t) (by first | rfl | decide) (by omega) ?_
            repeat refine kX_one rfl ?_
            refine kX_ret (i := .ireturn) (len := 1) rfl (Or.inr rfl) rfl (⟨congrArg (fun z => some (Value.int z)) (show _ = cit (σ 233 t = nI 3) (σ 241 t) (-6) by rw [cit_T q4, (e7 q4).2.2]), rfl⟩)
      · have q3 := qleF q3 k 8
        have q3 : ¬ isN (nI k) 9 := fun ⟨j, j1, j2⟩ => by
          have := nI_inj j2
          omega
        repeat refine kX_one rfl ?_
        refine kX_ret (i := .ireturn) (len := 1) rfl (Or.inr rfl) rfl (⟨congrArg (fun z => some (Value.int z)) (show _ = abA σ n (nI t) (nI k) by unfold abA; rw [cit_T ⟨t, ht, rfl⟩, cit_F q3]; rfl), rfl⟩)
  · have q : ¬ isN x n := fun z => isB_ne.mpr z (qneF q)
    repeat refine kX_one rfl ?_
    refine kX_ret (i := .ireturn) (len := 1) rfl (Or.inr rfl) rfl (⟨congrArg (fun z => some (Value.int z)) (show _ = abA σ n x w by unfold abA; rw [cit_F q]; rfl), rfl⟩)
theorem bo_about (L : Nat) (xs : Nat → Int32) (d d' m : Nat) (σ : kS) (x w : Int32) (h : bJ m σ) : kXM kT L xs (d + 2) 113 [.ref 0, .int x, .int w] σ (fun r τ => ∃ z, r = some (.int z) ∧ kXM kT L xs (d' + 2) 160 [.ref 232, .int x, .int w] τ (fun r' ω => r' = some (.int z) ∧ bJ m ω)) := by
  have hb := h
  obtain ⟨n, b, R, S, C, kl, h⟩ := h
  exact bo_same hb (kt_about L xs d σ n b x w h.1.1 h.2.1.1 h.2.2.1) (mt_about L xs d' σ n b x w h.1.1)
end
section
/-! alike: told, found, attack, done, stands -/
theorem rV {x y : Int32} (h : x = y) : some (Value.int x) = some (Value.int y) := by rw [h]
noncomputable def tdV (σ : kS) : Nat → Int32
  | 0 => σ 232 9
  | 1 => σ 232 13
  | 2 => σ 232 27
  | 3 => σ 232 30
  | 4 => σ 232 26
  | _ => cit (σ 232 52 ≠ 0) (σ 232 55) (-6)
noncomputable def tdA (σ : kS) (x : Int32) : Int32 := cit (isN x 6) (tdV σ (fN x)) (-2)
theorem tdA_k {σ : kS} {k : Nat} (hk : k < 6) : tdA σ (nI k) = tdV σ k := by
  unfold tdA
  rw [cit_T ⟨k, hk, rfl⟩, fN_nI (by omega)]
set_option maxRecDepth 100000 in
set_option maxHeartbeats 4000000 in
theorem bo_told (L : Nat) (xs : Nat → Int32) (d d' m : Nat) (σ : kS) (x : Int32) (h : bJ m σ) : kXM kT L xs (d + 1) 136 [.ref 0, .int x] σ (fun r τ => ∃ z, r = some (.int z) ∧ kXM kT L xs (d' + 1) 224 [.ref 232, .int x] τ (fun r' ω => r' = some (.int z) ∧ bJ m ω)) := by
  have hb := h
  obtain ⟨n, b, R, S, C, kl, hI, hJ, hT, hR, hS, hC, hK, hU, hF, -⟩ := h
  refine bo_same (v := tdA σ x) hb ?_ ?_
  · unfold kXM
    by_cases hy : ∃ k, k < 6 ∧ x = nI k
    · obtain ⟨k, hk, rfl⟩ := hy
      rw [tdA_k hk]
      have : k = 0 ∨ k = 1 ∨ k = 2 ∨ k = 3 ∨ k = 4 ∨ k = 5 := by omega
      rcases this with rfl | rfl | rfl | rfl | rfl | rfl
      · repeat refine kX_one rfl ?_
        refine kX_ret (i := .ireturn) (len := 1) rfl (Or.inr rfl) rfl (⟨rV (hJ.1.2.1.trans hI.1.2.2.2.1.symm), rfl⟩)
      · repeat refine kX_one rfl ?_
        refine kX_ret (i := .ireturn) (len := 1) rfl (Or.inr rfl) rfl (⟨rV (hJ.2.1.2.1.trans hI.2.1.2.1.symm), rfl⟩)
      · repeat refine kX_one rfl ?_
        refine kX_ret (i := .ireturn) (len := 1) rfl (Or.inr rfl) rfl (⟨rV (hJ.2.2.1.2.1.trans hI.2.2.1.2.1.symm), rfl⟩)
      · repeat refine kX_one rfl ?_
        refine kX_ret (i := .ireturn) (len := 1) rfl (Or.inr rfl) rfl (⟨rV (hJ.2.2.2.1.2.1.trans hI.2.2.2.2.1.2.1.symm), rfl⟩)
      · repeat refine kX_one rfl ?_
        refine kX_ret (i := .ireturn) (len := 1) rfl (Or.inr rfl) rfl (⟨rV (hK.1.trans hI.2.2.2.1.1.symm), rfl⟩)
      · repeat refine kX_one rfl ?_
        refine kX_if (fun q => ?_) (fun q => ?_)
        · have q : σ 181 8 = 0 := qeq q
          have q2 : ¬ σ 232 52 ≠ 0 := fun z => hU.1.mpr z q
          repeat refine kX_one rfl ?_
          refine kX_ret (i := .ireturn) (len := 1) rfl (Or.inr rfl) rfl (⟨rV (show _ = cit (σ 232 52 ≠ 0) (σ 232 55) (-6) by rw [cit_F q2]; rfl), rfl⟩)
        · have q : σ 232 52 ≠ 0 := hU.1.mp (qeqF q)
          repeat refine kX_one rfl ?_
          refine kX_ret (i := .ireturn) (len := 1) rfl (Or.inr rfl) rfl (⟨rV (show _ = cit (σ 232 52 ≠ 0) (σ 232 55) (-6) by rw [cit_T q, ← (hU.2 q).1]), rfl⟩)
    · iterate 1 (refine kX_one rfl ?_)
      refine kX_tabO rfl (kp_out 6 (fun k hk e => hy ⟨k, hk, e⟩) (by decide)) rfl ?_
      repeat refine kX_one rfl ?_
      refine kX_ret (i := .ireturn) (len := 1) rfl (Or.inr rfl) rfl (⟨rV (show _ = tdA σ x by unfold tdA; rw [cit_F (P := isN x 6) hy]; rfl), rfl⟩)
  · unfold kXM
    by_cases hy : ∃ k, k < 6 ∧ x = nI k
    · obtain ⟨k, hk, rfl⟩ := hy
      rw [tdA_k hk]
      have : k = 0 ∨ k = 1 ∨ k = 2 ∨ k = 3 ∨ k = 4 ∨ k = 5 := by omega
      rcases this with rfl | rfl | rfl | rfl | rfl | rfl
      · repeat refine kX_one rfl ?_
        refine kX_ret (i := .ireturn) (len := 1) rfl (Or.inr rfl) rfl (⟨rfl, rfl⟩)
      · repeat refine kX_one rfl ?_
        refine kX_ret (i := .ireturn) (len := 1) rfl (Or.inr rfl) rfl (⟨rfl, rfl⟩)
      · repeat refine kX_one rfl ?_
        refine kX_ret (i := .ireturn) (len := 1) rfl (Or.inr rfl) rfl (⟨rfl, rfl⟩)
      · repeat refine kX_one rfl ?_
        refine kX_ret (i := .ireturn) (len := 1) rfl (Or.inr rfl) rfl (⟨rfl, rfl⟩)
      · repeat refine kX_one rfl ?_
        refine kX_ret (i := .ireturn) (len := 1) rfl (Or.inr rfl) rfl (⟨rfl, rfl⟩)
      · repeat refine kX_one rfl ?_
        refine kX_if (fun q => ?_) (fun q => ?_)
        · have q2 : ¬ σ 232 52 ≠ 0 := fun z => z (qeq q)
          repeat refine kX_one rfl ?_
          refine kX_ret (i := .ireturn) (len := 1) rfl (Or.inr rfl) rfl (⟨rV (show _ = cit (σ 232 52 ≠ 0) (σ 232 55) (-6) by rw [cit_F q2]; rfl), rfl⟩)
        · have q : σ 232 52 ≠ 0 := qeqF q
          repeat refine kX_one rfl ?_
          refine kX_ret (i := .ireturn) (len := 1) rfl (Or.inr rfl) rfl (⟨rV (show _ = cit (σ 232 52 ≠ 0) (σ 232 55) (-6) by rw [cit_T q]), rfl⟩)
    · iterate 1 (refine kX_one rfl ?_)
      refine kX_tabO rfl (kp_out 6 (fun k hk e => hy ⟨k, hk, e⟩) (by decide)) rfl ?_
      repeat refine kX_one rfl ?_
      refine kX_ret (i := .ireturn) (len := 1) rfl (Or.inr rfl) rfl (⟨rV (show _ = tdA σ x by unfold tdA; rw [cit_F (P := isN x 6) hy]; rfl), rfl⟩)
noncomputable def fdV (σ : kS) : Nat → Int32
  | 0 => σ 232 69
  | 1 => σ 232 70
  | 2 => σ 232 72
  | _ => σ 232 71
noncomputable def fdA (σ : kS) (x : Int32) : Int32 := cit (isN x 4) (fdV σ (fN x)) (-2)
theorem fdA_k {σ : kS} {k : Nat} (hk : k < 4) : fdA σ (nI k) = fdV σ k := by
  unfold fdA
  rw [cit_T ⟨k, hk, rfl⟩, fN_nI (by omega)]
set_option maxRecDepth 100000 in
set_option maxHeartbeats 4000000 in
theorem bo_found (L : Nat) (xs : Nat → Int32) (d d' m : Nat) (σ : kS) (x : Int32) (h : bJ m σ) : kXM kT L xs (d + 2) 133 [.ref 0, .int x] σ (fun r τ => ∃ z, r = some (.int z) ∧ kXM kT L xs (d' + 1) 221 [.ref 232, .int x] τ (fun r' ω => r' = some (.int z) ∧ bJ m ω)) := by
  have hb := h
  obtain ⟨n, b, R, S, C, kl, hI, hJ, hT, hR, hS, hC, hK, hU, hF, -⟩ := h
  refine bo_same (v := fdA σ x) hb ?_ ?_
  · unfold kXM
    by_cases hy : ∃ k, k < 4 ∧ x = nI k
    · obtain ⟨k, hk, rfl⟩ := hy
      rw [fdA_k hk]
      have : k = 0 ∨ k = 1 ∨ k = 2 ∨ k = 3 := by omega
      rcases this with rfl | rfl | rfl | rfl
      · repeat refine kX_one rfl ?_
        refine kX_ret (i := .ireturn) (len := 1) rfl (Or.inr rfl) rfl (⟨rV hF.1, rfl⟩)
      · repeat refine kX_one rfl ?_
        refine kX_ret (i := .ireturn) (len := 1) rfl (Or.inr rfl) rfl (⟨rV hF.2.1, rfl⟩)
      · repeat refine kX_one rfl ?_
        refine kX_cal (mc_hasAttack L xs d σ) rfl (Or.inr rfl) rfl rfl rfl (fun r1 σ1 q1 => ?_)
        obtain ⟨rfl, rfl⟩ := q1
        have e := hF.2.2.2.1
        unfold nnI at e
        repeat refine kX_one rfl ?_
        refine kX_if (fun q => ?_) (fun q => ?_)
        · have q : σ 195 9 = -1 := Classical.byContradiction (fun z => isB_ne.mpr z (qeq q))
          rw [if_pos q] at e
          repeat refine kX_one rfl ?_
          refine kX_ret (i := .ireturn) (len := 1) rfl (Or.inr rfl) rfl (⟨rV e, rfl⟩)
        · have q := isB_ne.mp (qeqF q)
          rw [if_neg q] at e
          repeat refine kX_one rfl ?_
          refine kX_ret (i := .ireturn) (len := 1) rfl (Or.inr rfl) rfl (⟨rV e, rfl⟩)
      · repeat refine kX_one rfl ?_
        refine kX_ret (i := .ireturn) (len := 1) rfl (Or.inr rfl) rfl (⟨rV hF.2.2.1, rfl⟩)
    · iterate 1 (refine kX_one rfl ?_)
      refine kX_tabO rfl (kp_out 4 (fun k hk e => hy ⟨k, hk, e⟩) (by decide)) rfl ?_
      repeat refine kX_one rfl ?_
      refine kX_ret (i := .ireturn) (len := 1) rfl (Or.inr rfl) rfl (⟨rV (show _ = fdA σ x by unfold fdA; rw [cit_F (P := isN x 4) hy]; rfl), rfl⟩)
  · unfold kXM
    by_cases hy : ∃ k, k < 4 ∧ x = nI k
    · obtain ⟨k, hk, rfl⟩ := hy
      rw [fdA_k hk]
      have : k = 0 ∨ k = 1 ∨ k = 2 ∨ k = 3 := by omega
      rcases this with rfl | rfl | rfl | rfl
      · repeat refine kX_one rfl ?_
        refine kX_ret (i := .ireturn) (len := 1) rfl (Or.inr rfl) rfl (⟨rfl, rfl⟩)
      · repeat refine kX_one rfl ?_
        refine kX_ret (i := .ireturn) (len := 1) rfl (Or.inr rfl) rfl (⟨rfl, rfl⟩)
      · repeat refine kX_one rfl ?_
        refine kX_ret (i := .ireturn) (len := 1) rfl (Or.inr rfl) rfl (⟨rfl, rfl⟩)
      · repeat refine kX_one rfl ?_
        refine kX_ret (i := .ireturn) (len := 1) rfl (Or.inr rfl) rfl (⟨rfl, rfl⟩)
    · iterate 1 (refine kX_one rfl ?_)
      refine kX_tabO rfl (kp_out 4 (fun k hk e => hy ⟨k, hk, e⟩) (by decide)) rfl ?_
      repeat refine kX_one rfl ?_
      refine kX_ret (i := .ireturn) (len := 1) rfl (Or.inr rfl) rfl (⟨rV (show _ = fdA σ x by unfold fdA; rw [cit_F (P := isN x 4) hy]; rfl), rfl⟩)
noncomputable def akA (σ : kS) (x : Int32) : Int32 := cit (isN x (fN (σ 232 72))) (σ 288 (fN x)) (-6)
set_option maxRecDepth 100000 in
set_option maxHeartbeats 4000000 in
theorem bo_attack (L : Nat) (xs : Nat → Int32) (d d' m : Nat) (σ : kS) (x : Int32) (h : bJ m σ) : kXM kT L xs (d + 2) 134 [.ref 0, .int x] σ (fun r τ => ∃ z, r = some (.int z) ∧ kXM kT L xs (d' + 1) 222 [.ref 232, .int x] τ (fun r' ω => r' = some (.int z) ∧ bJ m ω)) := by
  have hb := h
  obtain ⟨n, b, R, S, C, kl, hI, hJ, hT, hR, hS, hC, hK, hU, hF, -⟩ := h
  have e := hF.2.2.2.1
  unfold nnI at e
  have e6 : fN (-6) = 0 := by decide
  refine bo_same (v := akA σ x) hb ?_ ?_
  · unfold kXM
    iterate 2 (refine kX_one rfl ?_)
    refine kX_cal (mc_hasAttack L xs d σ) rfl (Or.inr rfl) rfl rfl rfl (fun r1 σ1 q1 => ?_)
    obtain ⟨rfl, rfl⟩ := q1
    have k37 : ¬ isN x (fN (σ 232 72)) → kX kT L xs (d + 2) 134 37 (lv_args 0 [.ref 0, .int x]) [] σ (fun r σ' => r = some (.int (akA σ x)) ∧ σ = σ') := by
      intro q
      repeat refine kX_one rfl ?_
      refine kX_ret (i := .ireturn) (len := 1) rfl (Or.inr rfl) rfl (⟨rV (show _ = akA σ x by unfold akA; rw [cit_F q]; rfl), rfl⟩)
    repeat refine kX_one rfl ?_
    refine kX_if (fun q => ?_) (fun q => ?_)
    · have q : σ 195 9 = -1 := Classical.byContradiction (fun z => isB_ne.mpr z (qeq q))
      rw [if_pos q] at e
      exact k37 (fun ⟨j, j1, j2⟩ => by rw [← e, e6] at j1; omega)
    · have q := isB_ne.mp (qeqF q)
      rw [if_neg q] at e
      obtain ⟨as, N, -, -, -, a1, a2, a3, a4, -⟩ := hF.2.2.2.2.2 q
      have l2 := e.trans a2
      repeat refine kX_one rfl ?_
      refine kX_if (fun q2 => ?_) (fun q2 => ?_)
      · have q2 : x < 0 := of_decide_eq_true q2
        exact k37 (fun ⟨j, j1, j2⟩ => by
          rw [a2, fN_nI (by omega)] at j1
          rw [j2] at q2
          exact nI_pos (by omega) q2)
      · have q2 : ¬ x < 0 := of_decide_eq_false q2
        obtain ⟨k, hk, rfl⟩ := nI_of q2
        iterate 4 (refine kX_one rfl ?_)
        refine kX_top (l2) ?_
        repeat refine kX_one rfl ?_
        refine kX_if (fun q3 => ?_) (fun q3 => ?_)
        · have q3 := qge q3 k as.length
          exact k37 (fun ⟨j, j1, j2⟩ => by
            rw [a2, fN_nI (by omega)] at j1
            have := nI_inj j2
            omega)
        · have q3 := qgeF q3 k as.length
          iterate 4 (refine kX_one rfl ?_)
          refine kX_ialdN rfl rfl (by decide) (k) (by first | rfl | decide) (by omega) ?_
          repeat refine kX_one rfl ?_
          refine kX_ret (i := .ireturn) (len := 1) rfl (Or.inr rfl) rfl (⟨rV (show _ = akA σ (nI k) by unfold akA; rw [cit_T ⟨k, by rw [a2, fN_nI (by omega)]; exact q3, rfl⟩, fN_nI (by omega), a4 k q3, a3 k q3]), rfl⟩)
  · unfold kXM
    repeat refine kX_one rfl ?_
    refine kX_cal (mr_in L xs d' σ _ _ _) rfl (Or.inr rfl) rfl rfl rfl (fun r1 σ1 q1 => ?_)
    obtain ⟨rfl, rfl⟩ := q1
    rw [isB_dec]
    repeat refine kX_one rfl ?_
    refine kX_if (fun q => ?_) (fun q => ?_)
    · have q := qeq q
      have hq : (-6 : Int32) = akA σ x := by
        unfold akA
        rw [cit_F (fun z => ?_)]
        rcases hI.2.2.2.2.2.2 with hA | ⟨as, fin, a0, a1, -⟩
        · rw [hA, e6] at z
          obtain ⟨j, j1, -⟩ := z
          omega
        · rw [a1, fN_nI (by omega)] at z
          refine isB_ne.mpr ?_ q
          show ¬ x.toInt64 < (0 : Int32).toInt64 ∧ ¬ (σ 232 72 - 1).toInt64 < x.toInt64
          rw [a1]
          exact (in_N (by omega)).mpr z
      repeat refine kX_one rfl ?_
      refine kX_ret (i := .ireturn) (len := 1) rfl (Or.inr rfl) rfl (⟨rV hq, rfl⟩)
    · obtain ⟨q1, q2⟩ := isB_ne.mp (qeqF q)
      rcases hI.2.2.2.2.2.2 with hA | ⟨as, fin, a0, a1, -⟩
      · exfalso
        have q1 : ¬ x.toInt64 < (0 : Int32).toInt64 := q1
        have q2 : ¬ (σ 232 72 - 1).toInt64 < x.toInt64 := q2
        rw [i64_lt] at q1 q2
        rw [hA] at q2
        obtain ⟨j, hj, rfl⟩ := nI_of q1
        rw [Int32.lt_iff_toInt_lt, nI_toInt hj] at q2
        have : ((-6 : Int32) - 1).toInt = -7 := by decide
        omega
      · have q2 : ¬ (σ 232 72 - 1).toInt64 < x.toInt64 := q2
        rw [a1] at q2
        obtain ⟨j, hj, rfl⟩ := (in_N (by omega)).mp ⟨q1, q2⟩
        repeat refine kX_one rfl ?_
        refine kX_ialdN rfl rfl (by decide) (j) (by first | rfl | decide) (by omega) ?_
        repeat refine kX_one rfl ?_
        refine kX_ret (i := .ireturn) (len := 1) rfl (Or.inr rfl) rfl (⟨rV (show _ = akA σ (nI j) by unfold akA; rw [cit_T ⟨j, by rw [a1, fN_nI (by omega)]; exact hj, rfl⟩, fN_nI (by omega)]), rfl⟩)
noncomputable def dnA (σ : kS) (S : Nat) (x : Int32) : Int32 := cit (isN x S) (cit (σ 232 52 ≠ 0) (σ 264 (fN x)) (-3)) (-1)
set_option maxRecDepth 100000 in
set_option maxHeartbeats 4000000 in
theorem bo_done (L : Nat) (xs : Nat → Int32) (d d' m : Nat) (σ : kS) (x : Int32) (h : bJ m σ) : kXM kT L xs (d + 2) 129 [.ref 0, .int x] σ (fun r τ => ∃ z, r = some (.int z) ∧ kXM kT L xs (d' + 2) 206 [.ref 232, .int x] τ (fun r' ω => r' = some (.int z) ∧ bJ m ω)) := by
  have hb := h
  obtain ⟨n, b, R, S, C, kl, hI, hJ, hT, hR, hS, hC, hK, hU, hF, -⟩ := h
  have hS4 := hJ.2.2.1.1
  refine bo_same (v := dnA σ S x) hb ?_ ?_
  · unfold kXM
    iterate 3 (refine kX_one rfl ?_)
    refine kX_cal (mc_hasSession L xs d σ S x hS4 hJ.2.2.1.2.1) rfl (Or.inr rfl) rfl rfl rfl (fun r1 σ1 q1 => ?_)
    obtain ⟨rfl, rfl⟩ := q1
    repeat refine kX_one rfl ?_
    refine kX_if (fun q => ?_) (fun q => ?_)
    · have hx := isB_ne.mp (qne q)
      obtain ⟨s, hs, rfl⟩ := hx
      repeat refine kX_one rfl ?_
      refine kX_if (fun q2 => ?_) (fun q2 => ?_)
      · have q2 : ¬ σ 232 52 ≠ 0 := fun z => hU.1.mpr z (qeq q2)
        repeat refine kX_one rfl ?_
        refine kX_ret (i := .ireturn) (len := 1) rfl (Or.inr rfl) rfl (⟨rV (show _ = dnA σ S (nI s) by unfold dnA; rw [cit_T ⟨s, hs, rfl⟩, cit_F q2]; rfl), rfl⟩)
      · have q2 : σ 232 52 ≠ 0 := hU.1.mp (qeqF q2)
        repeat refine kX_one rfl ?_
        refine kX_cal (mc_doneBy L xs d σ 182 28 0 s (fun _ => 0) rfl (by decide) (by omega)) rfl (Or.inr rfl) rfl rfl rfl (fun r1 σ1 q1 => ?_)
        obtain ⟨rfl, rfl⟩ := q1
        repeat refine kX_one rfl ?_
        refine kX_ret (i := .ireturn) (len := 1) rfl (Or.inr rfl) rfl (⟨rV (show _ = dnA σ S (nI s) by unfold dnA; rw [cit_T ⟨s, hs, rfl⟩, cit_T q2, fN_nI (by omega), Nat.zero_add]; exact ((hU.2 q2).2.2.1 s hs).1), rfl⟩)
    · have q : ¬ isN x S := fun z => isB_ne.mpr z (qneF q)
      repeat refine kX_one rfl ?_
      refine kX_ret (i := .ireturn) (len := 1) rfl (Or.inr rfl) rfl (⟨rV (show _ = dnA σ S x by unfold dnA; rw [cit_F q]; rfl), rfl⟩)
  · unfold kXM
    repeat refine kX_one rfl ?_
    refine kX_cal (mr_isSession L xs d' σ S x hI.2.2.1.2.1 (by omega)) rfl (Or.inr rfl) rfl rfl rfl (fun r1 σ1 q1 => ?_)
    obtain ⟨rfl, rfl⟩ := q1
    repeat refine kX_one rfl ?_
    refine kX_if (fun q => ?_) (fun q => ?_)
    · obtain ⟨s, hs, rfl⟩ := isB_ne.mp (qne q)
      repeat refine kX_one rfl ?_
      refine kX_if (fun q2 => ?_) (fun q2 => ?_)
      · have q2 : ¬ σ 232 52 ≠ 0 := fun z => z (qeq q2)
        repeat refine kX_one rfl ?_
        refine kX_ret (i := .ireturn) (len := 1) rfl (Or.inr rfl) rfl (⟨rV (show _ = dnA σ S (nI s) by unfold dnA; rw [cit_T ⟨s, hs, rfl⟩, cit_F q2]; rfl), rfl⟩)
      · have q2 : σ 232 52 ≠ 0 := qeqF q2
        repeat refine kX_one rfl ?_
        refine kX_ialdN rfl rfl (by decide) (s) (by first | rfl | decide) (by omega) ?_
        repeat refine kX_one rfl ?_
        refine kX_ret (i := .ireturn) (len := 1) rfl (Or.inr rfl) rfl (⟨rV (show _ = dnA σ S (nI s) by unfold dnA; rw [cit_T ⟨s, hs, rfl⟩, cit_T q2, fN_nI (by omega)]), rfl⟩)
    · have q : ¬ isN x S := fun z => isB_ne.mpr z (qneF q)
      repeat refine kX_one rfl ?_
      refine kX_ret (i := .ireturn) (len := 1) rfl (Or.inr rfl) rfl (⟨rV (show _ = dnA σ S x by unfold dnA; rw [cit_F q]; rfl), rfl⟩)
noncomputable def saA (σ : kS) (S : Nat) (x y : Int32) : Int32 := cit (isN x S ∧ isN y (fN (σ 244 (fN (σ 255 (fN x)))))) (cit (σ 232 52 ≠ 0) (σ 265 (6 * fN x + fN y)) (-3)) (-1)
set_option maxRecDepth 100000 in
set_option maxHeartbeats 4000000 in
theorem bo_stands (L : Nat) (xs : Nat → Int32) (d d' m : Nat) (σ : kS) (x y : Int32) (h : bJ m σ) : kXM kT L xs (d + 3) 128 [.ref 0, .int x, .int y] σ (fun r τ => ∃ z, r = some (.int z) ∧ kXM kT L xs (d' + 2) 205 [.ref 232, .int x, .int y] τ (fun r' ω => r' = some (.int z) ∧ bJ m ω)) := by
  have hb := h
  obtain ⟨n, b, R, S, C, kl, hI, hJ, hT, hR, hS, hC, hK, hU, hF, -⟩ := h
  have hS4 := hJ.2.2.1.1
  have hR4 := hI.2.1.1
  refine bo_same (v := saA σ S x y) hb ?_ ?_
  · unfold kXM
    iterate 3 (refine kX_one rfl ?_)
    refine kX_cal (mc_hasSession L xs (d + 1) σ S x hS4 hJ.2.2.1.2.1) rfl (Or.inr rfl) rfl rfl rfl (fun r1 σ1 q1 => ?_)
    obtain ⟨rfl, rfl⟩ := q1
    repeat refine kX_one rfl ?_
    refine kX_if (fun q => ?_) (fun q => ?_)
    · have q : ¬ isN x S := fun z => isB_ne.mpr z (qeq q)
      repeat refine kX_one rfl ?_
      refine kX_ret (i := .ireturn) (len := 1) rfl (Or.inr rfl) rfl (⟨rV (show _ = saA σ S x y by unfold saA; rw [cit_F (fun z => q z.1)]; rfl), rfl⟩)
    · obtain ⟨s, hs, rfl⟩ := isB_ne.mp (qeqF q)
      obtain ⟨r, r1, r2, -⟩ := hI.2.2.1.2.2 s hs
      obtain ⟨⟨v0, hv6, hv⟩, -⟩ := hI.2.1.2.2.1 r r1
      have efr : fN (σ 255 s) = r := by rw [r2, fN_nI (by omega)]
      iterate 6 (refine kX_one rfl ?_)
      refine kX_ialdN rfl rfl (by decide) (s) (by first | rfl | decide) (by omega) ?_
      iterate 1 (refine kX_one rfl ?_)
      refine kX_cal (mc_hasVariable L xs d σ n R _ y hJ.2.1) rfl (Or.inr rfl) rfl rfl rfl (fun r1 σ1 q1 => ?_)
      obtain ⟨rfl, rfl⟩ := q1
      repeat refine kX_one rfl ?_
      refine kX_if (fun q2 => ?_) (fun q2 => ?_)
      · obtain ⟨ro, v, o1, o2, v6, rfl, v7⟩ := isB_ne.mp (qne q2)
        obtain rfl : ro = r := by
          rw [(hS s hs).1, r2] at o2
          exact (nI_inj o2).symm
        rw [(hR ro o1).1] at v7
        have hP : isN (nI s) S ∧ isN (nI v) (fN (σ 244 (fN (σ 255 (fN (nI s)))))) := ⟨⟨s, hs, rfl⟩, v, by rw [fN_nI (show s < 2147483648 by omega), efr]; exact v7, rfl⟩
        repeat refine kX_one rfl ?_
        refine kX_if (fun q3 => ?_) (fun q3 => ?_)
        · have q3 : σ 232 52 ≠ 0 := hU.1.mp (qne q3)
          repeat refine kX_one rfl ?_
          refine kX_cal (mc_valueOf L xs (d + 1) σ 182 28 0 s v (fun _ => 0) rfl (by decide) (by omega)) rfl (Or.inr rfl) rfl rfl rfl (fun r1 σ1 q1 => ?_)
          obtain ⟨rfl, rfl⟩ := q1
          refine kX_cal (mc_orNone L xs (d + 1) σ _) rfl (Or.inr rfl) rfl rfl rfl (fun r1 σ1 q1 => ?_)
          obtain ⟨rfl, rfl⟩ := q1
          refine kX_ret (i := .ireturn) (len := 1) rfl (Or.inr rfl) rfl (⟨rV (show _ = saA σ S (nI s) (nI v) by unfold saA; rw [cit_T hP, cit_T q3, fN_nI (by omega), fN_nI (by omega), Nat.zero_add]; exact ((hU.2 q3).2.2.1 s hs).2 v (by omega)), rfl⟩)
        · have q3 : ¬ σ 232 52 ≠ 0 := fun z => hU.1.mpr z (qneF q3)
          repeat refine kX_one rfl ?_
          refine kX_ret (i := .ireturn) (len := 1) rfl (Or.inr rfl) rfl (⟨rV (show _ = saA σ S (nI s) (nI v) by unfold saA; rw [cit_T hP, cit_F q3]; rfl), rfl⟩)
      · have q2 := qneF q2
        have hq : (-1 : Int32) = saA σ S (nI s) y := by
          unfold saA
          rw [cit_F (fun z => ?_)]
          obtain ⟨-, v, v1, rfl⟩ := z
          rw [fN_nI (show s < 2147483648 by omega), efr] at v1
          refine isB_ne.mpr ⟨r, v, r1, (hS s hs).1.trans r2, ?_, rfl, ?_⟩ q2
          · rw [hv, fN_nI (by omega)] at v1
            omega
          · rw [(hR r r1).1]
            exact v1
        repeat refine kX_one rfl ?_
        refine kX_ret (i := .ireturn) (len := 1) rfl (Or.inr rfl) rfl (⟨rV hq, rfl⟩)
  · unfold kXM
    repeat refine kX_one rfl ?_
    refine kX_cal (mr_isSession L xs d' σ S x hI.2.2.1.2.1 (by omega)) rfl (Or.inr rfl) rfl rfl rfl (fun r1 σ1 q1 => ?_)
    obtain ⟨rfl, rfl⟩ := q1
    repeat refine kX_one rfl ?_
    refine kX_if (fun q => ?_) (fun q => ?_)
    · have q : ¬ isN x S := fun z => isB_ne.mpr z (qeq q)
      repeat refine kX_one rfl ?_
      refine kX_ret (i := .ireturn) (len := 1) rfl (Or.inr rfl) rfl (⟨rV (show _ = saA σ S x y by unfold saA; rw [cit_F (fun z => q z.1)]; rfl), rfl⟩)
    · obtain ⟨s, hs, rfl⟩ := isB_ne.mp (qeqF q)
      obtain ⟨r, r1, r2, -⟩ := hI.2.2.1.2.2 s hs
      obtain ⟨⟨v, hv6, hv⟩, -⟩ := hI.2.1.2.2.1 r r1
      have efr : fN (σ 255 s) = r := by rw [r2, fN_nI (by omega)]
      have evr : fN (σ 244 (fN (σ 255 (fN (nI s))))) = v := by rw [fN_nI (show s < 2147483648 by omega), efr, hv, fN_nI (by omega)]
      repeat refine kX_one rfl ?_
      refine kX_ialdV rfl rfl (by decide) (s) (by first | rfl | decide) (by omega) (r2) ?_
      refine kX_ialdV rfl rfl (by decide) (r) (by first | rfl | decide) (by omega) (hv) ?_
      repeat refine kX_one rfl ?_
      refine kX_cal (mr_in L xs (d' + 1) σ _ _ _) rfl (Or.inr rfl) rfl rfl rfl (fun r1 σ1 q1 => ?_)
      obtain ⟨rfl, rfl⟩ := q1
      repeat refine kX_one rfl ?_
      refine kX_if (fun q2 => ?_) (fun q2 => ?_)
      · have q2 := of_decide_eq_true ((bI_ne _).mp (qne q2))
        obtain ⟨k, hk, rfl⟩ : isN y v := (in_N (by omega)).mp q2
        have hP : isN (nI s) S ∧ isN (nI k) (fN (σ 244 (fN (σ 255 (fN (nI s)))))) := ⟨⟨s, hs, rfl⟩, k, by rw [evr]; exact hk, rfl⟩
        repeat refine kX_one rfl ?_
        refine kX_if (fun q3 => ?_) (fun q3 => ?_)
        · have q3 : ¬ σ 232 52 ≠ 0 := fun z => z (qeq q3)
          repeat refine kX_one rfl ?_
          refine kX_ret (i := .ireturn) (len := 1) rfl (Or.inr rfl) rfl (⟨rV (show _ = saA σ S (nI s) (nI k) by unfold saA; rw [cit_T hP, cit_F q3]; rfl), rfl⟩)
        · have q3 : σ 232 52 ≠ 0 := qeqF q3
          repeat refine kX_one rfl ?_
          refine kX_ialdN rfl rfl (by decide) (6 * s + k) (ix6 s k) (by omega) ?_
          repeat refine kX_one rfl ?_
          refine kX_ret (i := .ireturn) (len := 1) rfl (Or.inr rfl) rfl (⟨rV (show _ = saA σ S (nI s) (nI k) by unfold saA; rw [cit_T hP, cit_T q3, fN_nI (by omega), fN_nI (by omega)]), rfl⟩)
      · have q2 : ¬ isN y v := fun z => by
          have := of_decide_eq_false ((bI_eq _).mp (qneF q2))
          exact this ((in_N (by omega)).mpr z)
        repeat refine kX_one rfl ?_
        refine kX_ret (i := .ireturn) (len := 1) rfl (Or.inr rfl) rfl (⟨rV (show _ = saA σ S (nI s) y by unfold saA; rw [cit_F (fun z => q2 (by rw [evr] at z; exact z.2))]; rfl), rfl⟩)
end
