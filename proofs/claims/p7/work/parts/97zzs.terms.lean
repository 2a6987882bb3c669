/-! alike: agent, atom, term, of -/
theorem cCn_0 {σ τ : kS} {n k : Nat} (h : cCn σ n) (e : ∀ t, t < n → τ 2 t = σ 2 t ∧ τ 3 t = σ 3 t ∧ τ 4 t = σ 4 t) (hk : τ 2 n = nI k) (h3 : k ≤ 3) (eh : τ 7 = σ 7) (en : τ 6 = σ 6) : cCn τ (n + 1) := by
  unfold cCn
  rw [eh, en]
  refine hcP_congr (fun t => ?_) (fun t ht => ?_) h
  · constructor
    · rintro ⟨h1, h2⟩
      exact ⟨by omega, by rw [(e t h1).1]; exact h2⟩
    · rintro ⟨h1, h2⟩
      by_cases q : t = n
      · subst q
        rw [hk, fN_nI (by omega)] at h2
        omega
      · have : t < n := by omega
        exact ⟨this, by rw [← (e t this).1]; exact h2⟩
  · unfold cpt
    rw [(e t ht.1).1, (e t ht.1).2.1, (e t ht.1).2.2]
theorem cCn_co {σ : kS} {n k : Nat} {a c : Int32} (h : cCn σ n) (hn : n < 200) (hk : 3 < k) (hk9 : k ≤ 9) : cCn (cCo σ n k a c) (n + 1) := by
  have ep : cpt (cCo σ n k a c) n = fN (cSl (nI k) a c) := by
    show fN (cSl (upd (σ 2) n (nI k) n) (upd (σ 3) n a n) (upd (σ 4) n c n)) = _
    rw [pk_us, pk_us, pk_us]
  have g : hcP 256 1928 (fun t => t < n ∧ 3 < fN (σ 2 t)) (cpt (cCo σ n k a c)) (σ 7) (σ 6) := by
    refine hcP_congr (fun t => Iff.rfl) (fun t ht => ?_) h
    have ne : t ≠ n := by omega
    show _ = fN (cSl (upd (σ 2) n (nI k) t) (upd (σ 3) n a t) (upd (σ 4) n c t))
    rw [pk_un ne, pk_un ne, pk_un ne]
    rfl
  have g2 := hcP_push (t := n) g (fun t' ht' => ht'.1) (by omega) (by rw [ep]; exact (cSl_ok _ _ _).1)
  rw [ep] at g2
  refine hcP_congr (fun t => ?_) (fun t _ => rfl) g2
  show ((t < n ∧ 3 < fN (σ 2 t)) ∨ t = n) ↔ t < n + 1 ∧ 3 < fN (upd (σ 2) n (nI k) t)
  constructor
  · rintro (⟨h1, h2⟩ | rfl)
    · exact ⟨by omega, by rw [pk_un (by omega)]; exact h2⟩
    · exact ⟨by omega, by rw [pk_us, fN_nI (by omega)]; exact hk⟩
  · rintro ⟨h1, h2⟩
    by_cases q : t = n
    · exact Or.inr q
    · exact Or.inl ⟨by omega, by rw [pk_un q] at h2; exact h2⟩
/-- the class's word on GROUND -/
theorem cG_tgd {σ : kS} {n b t : Nat} (h : mTb σ n b) (hA : aT σ n) (ht : t < n) : cG σ n (nI t) ↔ tgd (σ 233) (σ 234) (σ 235) t = true := by
  have hn := h.1
  have e : σ 8 t = bI (tgd (σ 233) (σ 234) (σ 235) t) := by
    rw [(hA.1 t ht).2.2.2.2.1]
    exact h.2.2.2.2.2.2.1 t (Or.inl ht)
  constructor
  · intro q
    have := q t ht rfl
    rw [e] at this
    exact (bI_ne _).mp (by rw [this]; decide)
  · intro q z z1 z2
    rw [← nI_inj z2, e, q]
    rfl
theorem czs_tsz {σ : kS} {n b t : Nat} (h : mTb σ n b) (hA : aT σ n) (ht : t < n) : czs σ n (nI t) = nI (tsz (σ 233) (σ 234) (σ 235) t) := by
  rw [czs_t ht h.1, (hA.1 t ht).2.2.2.1]
  exact h.2.2.2.2.2.1.2.1 t (Or.inl ht)
/-- the SIZE as both sides tell it -/
theorem czs_msz {σ : kS} {n b k x y : Nat} {a c : Int32} (h : mTb σ n b) (hA : aT σ n) (hk : 3 < k) (hw : tNw k a c x y n) (h6 : k = 6 ∨ k = 8 → mAG σ n y) (h7 : k = 7 → mAG σ n x) : (1 + czs σ n a + czs σ n c : Int32) = msz (σ 236) k x y := by
  have hn := h.1
  have hs1 : ∀ z, mAG σ n z → σ 236 z = nI 1 := fun z hz => by
    rw [h.2.2.2.2.2.1.2.1 z (Or.inl hz.1)]
    have : tsz (σ 233) (σ 234) (σ 235) z = 1 := by
      rcases hz.2 with q | q
      · exact tA_0 q (by omega)
      · exact tA_0 q.1 (by omega)
    rw [this]
  have hz : ∀ z, z < n → czs σ n (nI z) = σ 236 z := fun z hz => by rw [czs_t hz hn, (hA.1 z hz).2.2.2.1]
  unfold msz
  rcases hw with ⟨q, -, -⟩ | ⟨q, rfl, rfl, q1, q2⟩ | ⟨q, rfl, rfl, q1⟩
  · omega
  · rw [if_neg (by omega), if_neg (by omega), hz x q1, hz y q2]
    by_cases e : k = 4 ∨ k = 5
    · rw [if_pos e]
      rfl
    · rw [if_neg e, if_neg (by omega), hs1 y (h6 (by omega))]
      rfl
  · rw [if_neg (by omega), hz x q1, czs_m1 hn]
    by_cases e : k = 7
    · rw [if_pos e, hs1 x (h7 e)]
      decide
    · rw [if_neg e, if_neg (by omega), if_pos (by omega)]
      rfl
theorem aT1_co {σ ω : kS} {n b k x y : Nat} {a c : Int32} (h : mTb σ n b) (hA : aT σ n) (hn : n < 200) (hk : 3 < k) (hw : tNw k a c x y n) (hN : mNw (cCo σ n k a c) ω n k a c) : aT1 ω n := by
  have hk9 := tNw_9 hw
  obtain ⟨z, g, nx, hd, jd, rfl, hT⟩ := hN
  have hk0 : ∀ u, u < n → (mU (cCo σ n k a c) (upd (σ 233) n (nI k)) (upd (σ 234) n a) (upd (σ 235) n c) (upd (σ 236) n z) (upd (σ 237) n g) nx hd (mO (σ 232) n jd)) 233 u = σ 233 u ∧ (mU (cCo σ n k a c) (upd (σ 233) n (nI k)) (upd (σ 234) n a) (upd (σ 235) n c) (upd (σ 236) n z) (upd (σ 237) n g) nx hd (mO (σ 232) n jd)) 234 u = σ 234 u ∧ (mU (cCo σ n k a c) (upd (σ 233) n (nI k)) (upd (σ 234) n a) (upd (σ 235) n c) (upd (σ 236) n z) (upd (σ 237) n g) nx hd (mO (σ 232) n jd)) 235 u = σ 235 u := fun u hu => ⟨pk_un (by omega), pk_un (by omega), pk_un (by omega)⟩
  have hnum := mTb_num hT
  have esz := hT.2.2.2.2.2.1.2.1 n (Or.inl (by omega))
  have egr := hT.2.2.2.2.2.2.1 n (Or.inl (by omega))
  have cs : ∀ u, u < n → tsz (upd (σ 233) n (nI k)) (upd (σ 234) n a) (upd (σ 235) n c) u = tsz (σ 233) (σ 234) (σ 235) u := fun u hu => tA_congr (mTb_num h) (fun v hv => ⟨pk_un (by omega), pk_un (by omega), pk_un (by omega), rfl⟩) u hu
  have cg : ∀ u, u < n → tgd (upd (σ 233) n (nI k)) (upd (σ 234) n a) (upd (σ 235) n c) u = tgd (σ 233) (σ 234) (σ 235) u := fun u hu => tA_congr (mTb_num h) (fun v hv => ⟨pk_un (by omega), pk_un (by omega), pk_un (by omega), by rw [pk_un (by omega)]⟩) u hu
  refine ⟨pk_us.trans pk_us.symm, pk_us.trans pk_us.symm, pk_us.trans pk_us.symm, ?_, ?_, fun q => ?_, fun q => ?_⟩
  · refine Eq.trans (b := (1 + czs σ n a + czs σ n c : Int32)) pk_us (Eq.trans ?_ esz.symm)
    show _ = nI (tsz (upd (σ 233) n (nI k)) (upd (σ 234) n a) (upd (σ 235) n c) n)
    rcases hw with ⟨q, -, -⟩ | ⟨q, rfl, rfl, q1, q2⟩ | ⟨q, rfl, rfl, q1⟩
    · omega
    · have e : tsz (upd (σ 233) n (nI k)) (upd (σ 234) n (nI x)) (upd (σ 235) n (nI y)) n = 1 + tsz (upd (σ 233) n (nI k)) (upd (σ 234) n (nI x)) (upd (σ 235) n (nI y)) x + tsz (upd (σ 233) n (nI k)) (upd (σ 234) n (nI x)) (upd (σ 235) n (nI y)) y := tA_2 hnum pk_us pk_us pk_us hk hk9 q1 q2 (by omega) (by omega)
      rw [e, cs x q1, cs y q2, czs_tsz h hA q1, czs_tsz h hA q2, ← nI_add, ← nI_add]
      rfl
    · have e : tsz (upd (σ 233) n (nI k)) (upd (σ 234) n (nI x)) (upd (σ 235) n (-1)) n = 1 + tsz (upd (σ 233) n (nI k)) (upd (σ 234) n (nI x)) (upd (σ 235) n (-1)) x + 0 := tA_1 hnum pk_us pk_us pk_us hk hk9 q1 (by omega)
      rw [e, cs x q1, czs_tsz h hA q1, czs_m1 h.1, ← nI_add, ← nI_add]
      rfl
  · refine Eq.trans (b := isB (cG σ n a ∧ cG σ n c)) pk_us (Eq.trans ?_ egr.symm)
    show _ = bI (tgd (upd (σ 233) n (nI k)) (upd (σ 234) n a) (upd (σ 235) n c) n)
    rcases hw with ⟨q, -, -⟩ | ⟨q, rfl, rfl, q1, q2⟩ | ⟨q, rfl, rfl, q1⟩
    · omega
    · have e : tgd (upd (σ 233) n (nI k)) (upd (σ 234) n (nI x)) (upd (σ 235) n (nI y)) n = (tgd (upd (σ 233) n (nI k)) (upd (σ 234) n (nI x)) (upd (σ 235) n (nI y)) x && tgd (upd (σ 233) n (nI k)) (upd (σ 234) n (nI x)) (upd (σ 235) n (nI y)) y) := tA_2 hnum pk_us pk_us pk_us hk hk9 q1 q2 (by omega) (by omega)
      rw [e, cg x q1, cg y q2]
      refine isB_of (bI_01 _) ?_
      rw [cG_tgd h hA q1, cG_tgd h hA q2]
      cases tgd (σ 233) (σ 234) (σ 235) x <;> cases tgd (σ 233) (σ 234) (σ 235) y <;> decide
    · have e : tgd (upd (σ 233) n (nI k)) (upd (σ 234) n (nI x)) (upd (σ 235) n (-1)) n = (tgd (upd (σ 233) n (nI k)) (upd (σ 234) n (nI x)) (upd (σ 235) n (-1)) x && true) := tA_1 hnum pk_us pk_us pk_us hk hk9 q1 (by omega)
      rw [e, cg x q1]
      refine isB_of (bI_01 _) ?_
      have h1 := h.1
      rw [cG_tgd h hA q1]
      have := cG_m1 σ n h1
      cases tgd (σ 233) (σ 234) (σ 235) x
      · exact ⟨fun q => absurd q (by decide), fun q => absurd q.1 (by decide)⟩
      · exact ⟨fun _ => ⟨rfl, this⟩, fun _ => rfl⟩
  · have q : upd (σ 233) n (nI k) n = nI 0 := q
    rw [pk_us] at q
    have := nI_inj q
    omega
  · have q : upd (σ 233) n (nI k) n = nI 3 := q
    rw [pk_us] at q
    have := nI_inj q
    omega
