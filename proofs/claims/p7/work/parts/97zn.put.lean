/-! the class: start, find, findOrPut, groundOf -/
def nF (σ τ : kS) (K st : Nat) : Prop := (∀ c, c < K ∨ K + 9 ≤ c → c ≠ 2 → c ≠ 3 → c ≠ 4 → c ≠ 5 → c ≠ 6 → τ c = σ c) ∧ ∀ j, j < st ∨ st + 576 ≤ j → τ 2 j = σ 2 j ∧ τ 3 j = σ 3 j ∧ τ 4 j = σ 4 j ∧ τ 6 j = σ 6 j
theorem nF_refl (σ : kS) (K st : Nat) : nF σ σ K st := ⟨fun _ _ _ _ _ _ _ => rfl, fun _ _ => ⟨rfl, rfl, rfl, rfl⟩⟩
theorem nF_trans {σ τ ρ : kS} {K st : Nat} (h1 : nF σ τ K st) (h2 : nF τ ρ K st) : nF σ ρ K st := ⟨fun c a1 a2 a3 a4 a5 a6 => (h2.1 c a1 a2 a3 a4 a5 a6).trans (h1.1 c a1 a2 a3 a4 a5 a6), fun j hj => ⟨(h2.2 j hj).1.trans (h1.2 j hj).1, (h2.2 j hj).2.1.trans (h1.2 j hj).2.1, (h2.2 j hj).2.2.1.trans (h1.2 j hj).2.2.1, (h2.2 j hj).2.2.2.trans (h1.2 j hj).2.2.2⟩⟩
theorem nF_P {σ τ : kS} {K st : Nat} (hK : isK K st) (h : nP σ τ K) : nF σ τ K st := by
  have hb := isK_b hK
  refine ⟨fun c a1 _ _ _ _ _ => h.1 c a1, fun j _ => ?_⟩
  rw [h.1 2 (by omega), h.1 3 (by omega), h.1 4 (by omega), h.1 6 (by omega)]
  exact ⟨rfl, rfl, rfl, rfl⟩
theorem cT_nF {σ τ : kS} {K st n : Nat} (hK : isK K st) (hF : nF σ τ K st) (h : cT σ n) : cT τ n := by
  have hb := isK_b hK
  have hn := h.1
  refine cT_eq (by rw [hF.1 1 (by omega) (by decide) (by decide) (by decide) (by decide) (by decide)]) (hF.1 _ (by omega) (by decide) (by decide) (by decide) (by decide) (by decide)) (fun u hu => ?_) h
  obtain ⟨a1, a2, a3, a4⟩ := hF.2 u (by omega)
  rw [hF.1 8 (by omega) (by decide) (by decide) (by decide) (by decide) (by decide), hF.1 12 (by omega) (by decide) (by decide) (by decide) (by decide) (by decide)]
  exact ⟨a1, a2, a3, rfl, rfl, a4⟩
/-- an intruder's stretch, as it grows -/
def nW (σ : kS) (K st n u : Nat) : Prop := nB σ K st n u ∧ nR σ K ∧ cKe σ K st u ∧ cKg σ n st u ∧ cT σ n
theorem nW_P {σ τ : kS} {K st n u : Nat} (h : nW σ K st n u) (hP : nP σ τ K) : nW τ K st n u := by
  obtain ⟨h1, h2, h3, h4, h5⟩ := h
  have hb := isK_b h1.1
  have e : ∀ c, c < K ∨ K + 9 ≤ c → τ c = σ c := hP.1
  refine ⟨nB_P h1 hP, hP.2.2.2, ?_, ?_, cT_nF h1.1 (nF_P h1.1 hP) h5⟩
  · unfold cKe
    rw [hP.2.1, e 2 (by omega), e 3 (by omega), e 4 (by omega), e 6 (by omega)]
    exact h3
  · exact cKg_eq (fun z _ => by rw [e 8 (by omega)]) (fun g _ _ => by rw [e 3 (by omega), e 4 (by omega)]; exact ⟨rfl, rfl⟩) h4
set_option maxRecDepth 100000 in
set_option maxHeartbeats 4000000 in
theorem mc_kStart (L : Nat) (xs : Nat → Int32) (d : Nat) (σ : kS) (K st n u : Nat) (h : nB σ K st n u) (he : cKe σ K st u) : kXM kT L xs (d + 2) 45 [.ref K] σ (fun r σ' => r = none ∧ (∀ c, c < K ∨ K + 2 ≤ c → σ' c = σ c) ∧ σ' K 1 = nI st ∧ σ' K 3 = 0 ∧ σ' K 7 = 0 ∧ ∀ s, s < 256 → σ' (K + 1) s = -1) := by
  obtain ⟨h1, h2, h3, h4, h5, h6⟩ := h
  have hb := isK_b h1
  unfold kXM
  have k60 : ∀ HD, (∀ s, s < 256 → HD s = -1) → ∀ g, kX kT L xs (d + 2) 45 60 [(1, .int (nI g)), (0, .ref K)] [] (va_up σ (K + 1) HD) (fun r σ' => r = none ∧ (∀ c, c < K ∨ K + 2 ≤ c → σ' c = σ c) ∧ σ' K 1 = nI st ∧ σ' K 3 = 0 ∧ σ' K 7 = 0 ∧ ∀ s, s < 256 → σ' (K + 1) s = -1) := by
    intro HD hHD g
    iterate 2 (refine kX_one rfl ?_)
    refine kX_putN rfl rfl (kT_kn h1) rfl (rfl) rfl ?_
    iterate 2 (refine kX_one rfl ?_)
    refine kX_putN rfl rfl (kT_kn h1) rfl (rfl) rfl ?_
    iterate 2 (refine kX_one rfl ?_)
    refine kX_getN rfl rfl (kT_kn h1) rfl ?_
    iterate 2 (refine kX_one rfl ?_)
    refine kX_putN rfl rfl (kT_kn h1) rfl (rfl) rfl ?_
    iterate 2 (refine kX_one rfl ?_)
    refine kX_putN rfl rfl (kT_kn h1) rfl (rfl) rfl ?_
    refine kX_ret (i := .return_) (len := 1) rfl (Or.inr rfl) rfl ⟨rfl, fun c hc => ?_, ?_, ?_, ?_, fun s hs => ?_⟩
    · rw [up_ne (by omega), up_ne (by omega), up_ne (by omega), up_ne (by omega), up_ne (by omega)]
    · simp only [up_eq]
      rw [up_ne (by omega)]
      exact h5
    · simp only [up_eq]
      rfl
    · simp only [up_eq]
      rfl
    · rw [up_ne (by omega), up_ne (by omega), up_ne (by omega), up_ne (by omega), up_eq]
      exact hHD s hs
  have loop : ∀ q : Nat × (Nat → Int32), (st ≤ q.1 ∧ q.1 ≤ st + u ∧ ∀ s, s < 256 → q.2 s = -1 ∨ ∃ g', q.1 ≤ g' ∧ g' < st + u ∧ q.2 s = nI g' ∧ cSl (σ 2 g') (σ 3 g') (σ 4 g') = nI s) → kX kT L xs (d + 2) 45 5 [(1, .int (nI q.1)), (0, .ref K)] [] (va_up σ (K + 1) q.2) (fun r σ' => r = none ∧ (∀ c, c < K ∨ K + 2 ≤ c → σ' c = σ c) ∧ σ' K 1 = nI st ∧ σ' K 3 = 0 ∧ σ' K 7 = 0 ∧ ∀ s, s < 256 → σ' (K + 1) s = -1) := by
    refine kX_while (fun q : Nat × (Nat → Int32) => [(1, .int (nI q.1)), (0, .ref K)]) (fun q => va_up σ (K + 1) q.2) _ (fun q => st + u - q.1) ?_
    rintro ⟨g, HD⟩ ⟨i1, i2, i3⟩ ih
    dsimp only at i1 i2 i3 ih ⊢
    iterate 2 (refine kX_one rfl ?_)
    refine kX_getN rfl rfl (kT_kn h1) rfl ?_
    refine kX_top (y := nI st) (by rw [up_ne (by omega)]; exact h5) ?_
    iterate 1 (refine kX_one rfl ?_)
    refine kX_getN rfl rfl (kT_kn h1) rfl ?_
    refine kX_top (y := nI u) (by rw [up_ne (by omega)]; exact h6) ?_
    iterate 1 (refine kX_one rfl ?_)
    refine kX_top (nI_add st u) ?_
    repeat refine kX_one rfl ?_
    refine kX_if (fun q => ?_) (fun q => ?_)
    · have q := qge q g (st + u)
      refine k60 HD (fun s hs => ?_) g
      rcases i3 s hs with e | ⟨g', g1, g2, -⟩
      · exact e
      · omega
    · have q := qgeF q g (st + u)
      have hg : g < 1928 := by omega
      obtain ⟨sl, s1, s2⟩ := cSl_lt (σ 2 g) (σ 3 g) (σ 4 g)
      have eT : ∀ c, c < 13 → va_up σ (K + 1) HD c = σ c := fun c hc => up_ne (by omega)
      iterate 1 (refine kX_one rfl ?_)
      refine kX_getN rfl rfl (kT_kn h1) rfl ?_
      iterate 1 (refine kX_one rfl ?_)
      refine kX_getN rfl rfl (kT_kn h1) rfl ?_
      iterate 2 (refine kX_one rfl ?_)
      refine kX_ialdV rfl rfl (by decide) (g) (by first | rfl | decide) (hg) (congrFun (eT _ (by decide)) g) ?_
      iterate 1 (refine kX_one rfl ?_)
      refine kX_getN rfl rfl (kT_kn h1) rfl ?_
      iterate 2 (refine kX_one rfl ?_)
      refine kX_ialdV rfl rfl (by decide) (g) (by first | rfl | decide) (hg) (congrFun (eT _ (by decide)) g) ?_
      iterate 1 (refine kX_one rfl ?_)
      refine kX_getN rfl rfl (kT_kn h1) rfl ?_
      iterate 2 (refine kX_one rfl ?_)
      refine kX_ialdV rfl rfl (by decide) (g) (by first | rfl | decide) (hg) (congrFun (eT _ (by decide)) g) ?_
      refine kX_cal (mc_slot L xs d _ (σ 2 g) (σ 3 g) (σ 4 g)) rfl (Or.inr rfl) rfl rfl rfl (fun r1 σ1 q1 => ?_)
      obtain ⟨rfl, rfl⟩ := q1
      iterate 1 (refine kX_one rfl ?_)
      refine kX_iastN rfl (kT_k1 h1) (by decide) (sl) (s2) (s1) ?_
      iterate 2 (refine kX_one rfl ?_)
      have := ih (g + 1, upd HD sl (-1)) ⟨by simp only; omega, q, fun s hs => by
        simp only
        by_cases e : s = sl
        · subst e
          exact Or.inl pk_us
        · rw [pk_un e]
          rcases i3 s hs with x | ⟨g', g1, g2, g3, g4⟩
          · exact Or.inl x
          · refine Or.inr ⟨g', ?_, g2, g3, g4⟩
            have : g' ≠ g := fun z => by
              subst z
              exact e (nI_inj (g4.symm.trans s2))
            omega⟩ (by simp only; omega)
      dsimp only at this
      rw [← nI_1] at this
      refine kX_to _ _ rfl rfl rfl ?_ this
      rw [up_eq, kup_up]
      rfl
  iterate 1 (refine kX_one rfl ?_)
  refine kX_getN rfl rfl (kT_kn h1) rfl ?_
  refine kX_top (h5) ?_
  iterate 1 (refine kX_one rfl ?_)
  have := loop (st, σ (K + 1)) ⟨Nat.le_refl _, by simp only; omega, fun s hs => ?_⟩
  · dsimp only at this
    rw [kup_self] at this
    exact kX_lv _ rfl rfl rfl this
  · exact he.1 s hs
set_option maxRecDepth 100000 in
set_option maxHeartbeats 4000000 in
theorem mc_kFind (L : Nat) (xs : Nat → Int32) (d : Nat) (σ : kS) (K st n u : Nat) (w x y : Int32) (h : nB σ K st n u) (he : cKe σ K st u) (hT : cT σ n) : kXM kT L xs (d + 2) 48 [.ref K, .int w, .int x, .int y] σ (fun r σ' => (r = some (.int (-1)) ∨ (∃ t, t < n ∧ r = some (.int (nI t)) ∧ σ 2 t = w ∧ σ 3 t = x ∧ σ 4 t = y) ∨ ∃ g, st ≤ g ∧ g < st + u ∧ r = some (.int (nI g))) ∧ σ = σ') := by
  have hb := isK_b h.1
  have hn := hT.1
  have hu := h.2.2.1
  unfold kXM
  iterate 3 (refine kX_one rfl ?_)
  refine kX_cal (mc_slot L xs d σ w x y) rfl (Or.inr rfl) rfl rfl rfl (fun r1 σ1 q1 => ?_)
  obtain ⟨rfl, rfl⟩ := q1
  obtain ⟨sl, s1, s2⟩ := cSl_lt w x y
  iterate 2 (refine kX_one rfl ?_)
  refine kX_getN rfl rfl (kT_kn h.1) rfl ?_
  iterate 1 (refine kX_one rfl ?_)
  refine kX_getN rfl rfl (kT_kn h.1) rfl ?_
  iterate 2 (refine kX_one rfl ?_)
  refine kX_ialdN rfl rfl (by decide) (sl) (s2) (s1) ?_
  iterate 3 (refine kX_one rfl ?_)
  refine kX_cal (mc_findFrom L xs d σ (fun t => t < n ∧ 4 ≤ fN (σ 2 t)) (σ 7 sl) w x y (fun t ht => by omega) (fun t ht => ?_) ?_) rfl (Or.inr rfl) rfl rfl rfl (fun r1 σ1 q1 => ?_)
  · rcases (hT.2.2.2 t ht.1).2.2.2.2.2.2.2.2 ht.2 with q | ⟨u, u1, u2, u3⟩
    · exact Or.inl q
    · exact Or.inr ⟨u, ⟨by omega, u3⟩, u2⟩
  · rcases hT.2.2.1 sl s1 with q | ⟨u, u1, u2, u3⟩
    · exact Or.inl q
    · exact Or.inr ⟨u, ⟨u1, u3⟩, u2⟩
  · obtain ⟨hq, rfl⟩ := q1
    rcases hq with rfl | ⟨t, ⟨t1, -⟩, rfl, t2⟩
    · iterate 5 (refine kX_one rfl ?_)
      refine kX_getN rfl rfl (kT_kn h.1) rfl ?_
      iterate 1 (refine kX_one rfl ?_)
      refine kX_getN rfl rfl (kT_kn h.1) rfl ?_
      iterate 1 (refine kX_one rfl ?_)
      refine kX_ialdN rfl (kT_k1 h.1) (by decide) (sl) (s2) (s1) ?_
      iterate 3 (refine kX_one rfl ?_)
      refine kX_cal (mc_findFrom L xs d σ (fun g => st ≤ g ∧ g < st + u) (σ (K + 1) sl) w x y (fun t ht => by omega) (fun t ht => ?_) ?_) rfl (Or.inr rfl) rfl rfl rfl (fun r1 σ1 q1 => ?_)
      · rcases (he.2 t ht.1 ht.2).1 with q | ⟨g', g1, g2, g3⟩
        · exact Or.inl q
        · exact Or.inr ⟨g', ⟨g1, g2⟩, g3⟩
      · rcases he.1 sl s1 with q | ⟨g', g1, g2, g3, -⟩
        · exact Or.inl q
        · exact Or.inr ⟨g', ⟨g1, g2⟩, g3⟩
      · obtain ⟨hq, rfl⟩ := q1
        rcases hq with rfl | ⟨g, ⟨g1, g2⟩, rfl, -⟩
        · refine kX_ret (i := .ireturn) (len := 1) rfl (Or.inr rfl) rfl (⟨Or.inl rfl, rfl⟩)
        · refine kX_ret (i := .ireturn) (len := 1) rfl (Or.inr rfl) rfl (⟨Or.inr (Or.inr ⟨g, g1, g2, rfl⟩), rfl⟩)
    · iterate 3 (refine kX_one rfl ?_)
      repeat refine kX_one rfl ?_
      refine kX_if (fun q => ?_) (fun q => ?_)
      · exact absurd (qeq q) (nI_m1 (by omega))
      · repeat refine kX_one rfl ?_
        refine kX_ret (i := .ireturn) (len := 1) rfl (Or.inr rfl) rfl (⟨Or.inr (Or.inl ⟨t, t1, rfl, t2⟩), rfl⟩)
