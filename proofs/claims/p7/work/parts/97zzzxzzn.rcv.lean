/-! alike: receives, from one way to the next -/
def oG (os : List (List Nat)) (p j : Nat) : Nat := (os.getD p []).getD j 0
def oL (os : List (List Nat)) (p : Nat) : Nat := (os.getD p []).length
def dG (os : List (List Nat)) (w p : Nat) : Nat := (dg (os.map List.length) w).getD p 0
section OG
variable {os : List (List Nat)} {w p : Nat}
theorem og_at (h : p < os.length) : os.getD p [] = os[p]'h := by
  rw [List.getD_eq_getElem?_getD, List.getElem?_eq_getElem h]
  rfl
theorem dG_at (h : p < os.length) (h' : p < (dg (os.map List.length) w).length) : dG os w p = (dg (os.map List.length) w)[p]'h' := by
  unfold dG
  rw [List.getD_eq_getElem?_getD, List.getElem?_eq_getElem h']
  rfl
theorem dG_l : (dg (os.map List.length) w).length = os.length := by rw [dg_len, List.length_map]
theorem cs_at (h : p < os.length) (h' : p < (os.map List.length).length) : (os.map List.length)[p]'h' = oL os p := by
  unfold oL
  rw [List.getElem_map, og_at h]
theorem dG_lt (hw : w < wyN (os.map List.length)) (h : p < os.length) : dG os w p < oL os p := by
  have := dg_lt (os.map List.length) w hw p (by rw [List.length_map]; exact h)
  rw [cs_at h] at this
  rw [dG_at h (by rw [dG_l]; exact h)]
  exact this
theorem dG_mx (hw : w + 1 = wyN (os.map List.length)) (h : p < os.length) : dG os w p + 1 = oL os p := by
  have := dg_max (os.map List.length) (by omega) p (by rw [List.length_map]; exact h)
  rw [cs_at h] at this
  rw [dG_at h (by rw [dG_l]; exact h)]
  have e : w = wyN (os.map List.length) - 1 := by omega
  subst e
  exact this
theorem dG_odo (hw : w + 1 < wyN (os.map List.length)) : ∃ jj, jj < os.length ∧ dG os w jj + 1 < oL os jj ∧ dG os (w + 1) jj = dG os w jj + 1 ∧ (∀ p, p < jj → dG os (w + 1) p = dG os w p) ∧ ∀ p, p < os.length → jj < p → dG os w p + 1 = oL os p ∧ dG os (w + 1) p = 0 := by
  obtain ⟨jj, hj, o1, o2, o3, o4⟩ := odo (os.map List.length) w hw
  have hj' : jj < os.length := by rw [List.length_map] at hj; exact hj
  have hl : ∀ v p, p < os.length → p < (dg (os.map List.length) v).length := fun v p hp => by rw [dG_l]; exact hp
  refine ⟨jj, hj', ?_, ?_, fun p hp => ?_, fun p hp hjp => ?_⟩
  · rw [cs_at hj'] at o1
    rw [dG_at hj' (hl w jj hj')]
    exact o1
  · rw [dG_at hj' (hl w jj hj'), dG_at hj' (hl (w + 1) jj hj')]
    exact o2
  · rw [dG_at (show p < os.length by omega) (hl w p (by omega)), dG_at (show p < os.length by omega) (hl (w + 1) p (by omega))]
    exact o3 p (by rw [List.length_map]; omega) hp
  · obtain ⟨a1, a2⟩ := o4 p (by rw [List.length_map]; exact hp) hjp
    rw [cs_at hp] at a1
    rw [dG_at hp (hl w p hp), dG_at hp (hl (w + 1) p hp)]
    exact ⟨a1, a2⟩
theorem wyT_G (h : p < os.length) : (wyT os w).getD p 0 = oG os p (dG os w p) := by
  have h1 : p < (wyT os w).length := by rw [wyT_len]; exact h
  have h2 : p < (dg (os.map List.length) w).length := by rw [dG_l]; exact h
  rw [List.getD_eq_getElem?_getD, List.getElem?_eq_getElem h1]
  show (wyT os w)[p]'h1 = _
  rw [wyT_at h h1 h2]
  unfold oG
  rw [og_at h, dG_at h h2]
theorem chW_G {CH : Nat → Int32} {hi : Nat} (h : chW os CH w 0 hi) (hl : hi ≤ os.length) : ∀ p, p < hi → CH p = nI (oG os p (dG os w p)) := fun p hp => by
  have h2 : p < (dg (os.map List.length) w).length := by rw [dG_l]; omega
  rw [h p (by omega) h2 (Nat.zero_le _) hp]
  unfold oG
  rw [og_at (show p < os.length by omega), dG_at (show p < os.length by omega) h2]
end OG
set_option maxRecDepth 100000 in
set_option maxHeartbeats 4000000 in
theorem mf_rc_down (L : Nat) (xs : Nat → Int32) (d : Nat) (σ τ : kS) (n b0 b w : Nat) (op : List Nat) (os : List (List Nat)) (h : mTb σ n b0) (hF : mSf σ τ n) (hT : mTb τ n b) (hO : opW σ n op os) (ho : lst (τ 292) op) (hw : w < wyN (os.map List.length)) (x s t : Int32) (my : Int64) (Q : Option Value → kS → Prop)
    (he : ∀ K CH, K ≤ op.length → (∀ p, p < K → CH p = nI (oG os p (dG os w p))) → (∀ p, K ≤ p → p < op.length → CH p = nI (oG os p 0) ∧ dG os w p + 1 = oL os p) → (∀ k, K = k + 1 → dG os w k + 1 < oL os k) → kX kT L xs (d + 3) 217 367 [(10, .int (nI K - 1)), (0, .ref 232), (1, .int x), (2, .int s), (3, .int t), (4, .int (nI op.length)), (5, .long my)] [] (va_up τ 293 CH) Q) :
    ∀ q : Nat × (Nat → Int32), (q.1 ≤ op.length ∧ (∀ p, p < q.1 → q.2 p = nI (oG os p (dG os w p))) ∧ ∀ p, q.1 ≤ p → p < op.length → q.2 p = nI (oG os p 0) ∧ dG os w p + 1 = oL os p) → kX kT L xs (d + 3) 217 314 [(10, .int (nI q.1 - 1)), (0, .ref 232), (1, .int x), (2, .int s), (3, .int t), (4, .int (nI op.length)), (5, .long my)] [] (va_up τ 293 q.2) Q := by
  have hn := hT.1
  obtain ⟨o1, o6, o2⟩ := hO
  refine kX_while (fun q : Nat × (Nat → Int32) => [(10, .int (nI q.1 - 1)), (0, .ref 232), (1, .int x), (2, .int s), (3, .int t), (4, .int (nI op.length)), (5, .long my)]) (fun q => va_up τ 293 q.2) _ (fun q => q.1) ?_
  rintro ⟨K, CH⟩ ⟨i1, i2, i3⟩ ih
  dsimp only at i1 i2 i3 ih ⊢
  rcases Nat.eq_zero_or_pos K with rfl | hK
  · iterate 2 (refine kX_one rfl ?_)
    exact he 0 CH (Nat.zero_le _) i2 i3 (fun k e => by omega)
  · obtain ⟨k, rfl⟩ : ∃ k, K = k + 1 := ⟨K - 1, by omega⟩
    have hk : k < op.length := i1
    obtain ⟨u1, so, s1, s2, s3⟩ := o2 k hk (by omega)
    have hlt := dG_lt hw (show k < os.length by omega)
    have hLk : oL os k = (opL σ so n).length := by
      unfold oL
      rw [og_at (show k < os.length by omega), s3]
    have hG : ∀ j (hj : j < (opL σ so n).length), oG os k j = (opL σ so n)[j]'hj := fun j hj => by
      unfold oG
      rw [og_at (show k < os.length by omega), s3, List.getD_eq_getElem?_getD, List.getElem?_eq_getElem hj]
      rfl
    have w1 : CH k = nI (oG os k (dG os w k)) := i2 k (by omega)
    have hcn : oG os k (dG os w k) < n := by
      rw [hG _ (by omega)]
      exact ((opL_mem σ so n _).mp (List.getElem_mem _)).1
    have hofs := ofs_gS h (mSf_trans hF (mSf_up (σ := τ) (c := 293) (f := CH) (by decide))) s2 s1
    rw [nI_pred]
    iterate 1 (refine kX_one rfl ?_)
    repeat refine kX_one rfl ?_
    refine kX_ifF (decide_eq_false (nI_pos (by omega))) ?_
    iterate 4 (refine kX_one rfl ?_)
    refine kX_ialdV rfl rfl (by decide) (k) (by first | rfl | decide) (by omega) (ho k hk) ?_
    iterate 3 (refine kX_one rfl ?_)
    refine kX_ialdV rfl rfl (by decide) (k) (by first | rfl | decide) (by omega) (w1) ?_
    iterate 2 (refine kX_one rfl ?_)
    refine kX_top (nI_1 (oG os k (dG os w k))) ?_
    refine kX_cal (mr_nextOf L xs d (va_up τ 293 CH) n b op[k] (oG os k (dG os w k) + 1) hT u1 hcn) rfl (Or.inr rfl) rfl rfl rfl (fun r1 σ1 q1 => ?_)
    obtain ⟨hx, rfl⟩ := q1
    obtain ⟨x1, x2⟩ := nx_at (σ := σ) (j := dG os w k + 1) hofs (Or.inr ⟨dG os w k, by omega, rfl, by rw [hG _ (by omega)]⟩) hx
    by_cases hl : dG os w k + 1 < (opL σ so n).length
    · obtain rfl := x1 hl
      have hz : (opL σ so n)[dG os w k + 1]'hl < n := ((opL_mem σ so n _).mp (List.getElem_mem hl)).1
      repeat refine kX_one rfl ?_
      refine kX_ifT (decide_eq_true (Int32.not_lt.mp (nI_pos (by omega)))) ?_
      have := he (k + 1) CH i1 i2 i3 (fun k' e => by
        obtain rfl : k = k' := by omega
        rw [hLk]
        exact hl)
      rw [nI_pred] at this
      exact this
    · obtain rfl := x2 (by omega)
      iterate 8 (refine kX_one rfl ?_)
      refine kX_ialdV rfl rfl (by decide) (k) (by first | rfl | decide) (by omega) (ho k hk) ?_
      iterate 1 (refine kX_one rfl ?_)
      refine kX_cal (mr_nextOf L xs d (va_up τ 293 CH) n b op[k] 0 hT u1 (Nat.zero_le _)) rfl (Or.inr rfl) rfl rfl rfl (fun r1 σ1 q1 => ?_)
      obtain ⟨hx2, rfl⟩ := q1
      have h0 : 0 < (opL σ so n).length := by omega
      obtain rfl := (nx_at (σ := σ) (j := 0) hofs (Or.inl ⟨rfl, rfl⟩) hx2).1 h0
      refine kX_iastN rfl rfl (by decide) (k) (by first | rfl | decide) (by omega) ?_
      iterate 2 (refine kX_one rfl ?_)
      have := ih (k, upd CH k (nI ((opL σ so n)[0]'h0))) ⟨by simp only; omega, fun p hp => by
        simp only at hp ⊢
        rw [pk_un (by omega)]
        exact i2 p (by omega), fun p hp hp' => by
        simp only at hp ⊢
        by_cases e : p = k
        · subst e
          rw [pk_us, hG 0 h0, hLk]
          exact ⟨rfl, by omega⟩
        · rw [pk_un e]
          exact i3 p (by omega) hp'⟩ (by simp only; omega)
      dsimp only at this
      rw [← nI_dec] at this
      refine kX_to _ _ rfl rfl rfl ?_ this
      funext c; unfold  va_up; repeat' split
      all_goals first | rfl | omega | (subst_vars; rfl) | (funext j; unfold upd; repeat' split; all_goals first | rfl | omega | (subst_vars; rfl))
set_option maxRecDepth 100000 in
set_option maxHeartbeats 4000000 in
theorem mf_rc_turn (L : Nat) (xs : Nat → Int32) (d : Nat) (σ τ : kS) (n b0 b w : Nat) (op : List Nat) (os : List (List Nat)) (h : mTb σ n b0) (hF : mSf σ τ n) (hT : mTb τ n b) (hO : opW σ n op os) (ho : lst (τ 292) op) (hw : w < wyN (os.map List.length)) (hC : ∀ p, p < op.length → τ 293 p = nI (oG os p (dG os w p))) (x s t : Int32) (my : Int64) (Q : Option Value → kS → Prop)
    (hend : w + 1 = wyN (os.map List.length) → ∀ CH, kX kT L xs (d + 3) 217 414 [(0, .ref 232), (1, .int x), (2, .int s), (3, .int t)] [] (va_up τ 293 CH) Q)
    (hgo : w + 1 < wyN (os.map List.length) → ∀ CH, (∀ p, p < op.length → CH p = nI (oG os p (dG os (w + 1) p))) → kX kT L xs (d + 3) 217 192 [(7, .int 1), (0, .ref 232), (1, .int x), (2, .int s), (3, .int t), (4, .int (nI op.length)), (5, .long my)] [] (va_up τ 293 CH) Q) :
    kX kT L xs (d + 3) 217 308 [(0, .ref 232), (1, .int x), (2, .int s), (3, .int t), (4, .int (nI op.length)), (5, .long my)] [] τ Q := by
  have hn := hT.1
  obtain ⟨o1, o6, o2⟩ := id hO
  iterate 4 (refine kX_one rfl ?_)
  have hdown := mf_rc_down L xs d σ τ n b0 b w op os h hF hT hO ho hw x s t my Q (fun K CH hK g1 g2 g3 => ?_) (op.length, τ 293) ⟨Nat.le_refl _, hC, fun p hp hp' => absurd hp (by simp only; omega)⟩
  · refine kX_to _ _ rfl rfl rfl ?_ hdown
    funext c; unfold  va_up; repeat' split
    all_goals first | rfl | omega | (subst_vars; rfl) | (funext j; unfold upd; repeat' split; all_goals first | rfl | omega | (subst_vars; rfl))
  · rcases Nat.eq_zero_or_pos K with rfl | hKp
    · have hW : w + 1 = wyN (os.map List.length) := Classical.byContradiction (fun z => by
        obtain ⟨jj, j1, j2, -⟩ := dG_odo (os := os) (w := w) (by omega)
        have := (g2 jj (Nat.zero_le _) (by omega)).2
        omega)
      iterate 9 (refine kX_one rfl ?_)
      exact kX_lv _ rfl rfl rfl (hend hW CH)
    · obtain ⟨k, rfl⟩ : ∃ k, K = k + 1 := ⟨K - 1, by omega⟩
      have hk : k < op.length := hK
      have g3 := g3 k rfl
      have hW : w + 1 < wyN (os.map List.length) := Classical.byContradiction (fun z => by
        have := dG_mx (os := os) (w := w) (p := k) (by omega) (by omega)
        omega)
      obtain ⟨jj, j1, j2, j3, j4, j5⟩ := dG_odo hW
      have ejj : jj = k := by
        rcases Nat.lt_trichotomy jj k with z | z | z
        · have := (j5 k (by omega) z).1
          omega
        · exact z
        · have := (g2 jj (by omega) (by omega)).2
          omega
      subst ejj
      obtain ⟨u1, so, s1, s2, s3⟩ := o2 jj hk (by omega)
      have hLk : oL os jj = (opL σ so n).length := by
        unfold oL
        rw [og_at (show jj < os.length by omega), s3]
      have hG : ∀ j (hj : j < (opL σ so n).length), oG os jj j = (opL σ so n)[j]'hj := fun j hj => by
        unfold oG
        rw [og_at (show jj < os.length by omega), s3, List.getD_eq_getElem?_getD, List.getElem?_eq_getElem hj]
        rfl
      have w1 : CH jj = nI (oG os jj (dG os w jj)) := g1 jj (by omega)
      have hcn : oG os jj (dG os w jj) < n := by
        rw [hG _ (by omega)]
        exact ((opL_mem σ so n _).mp (List.getElem_mem _)).1
      have hofs := ofs_gS h (mSf_trans hF (mSf_up (σ := τ) (c := 293) (f := CH) (by decide))) s2 s1
      rw [nI_pred]
      iterate 1 (refine kX_one rfl ?_)
      repeat refine kX_one rfl ?_
      refine kX_ifF (decide_eq_false (nI_pos (by omega))) ?_
      iterate 12 (refine kX_one rfl ?_)
      refine kX_ialdV rfl rfl (by decide) (jj) (by first | rfl | decide) (by omega) (ho jj hk) ?_
      iterate 3 (refine kX_one rfl ?_)
      refine kX_ialdV rfl rfl (by decide) (jj) (by first | rfl | decide) (by omega) (w1) ?_
      iterate 2 (refine kX_one rfl ?_)
      refine kX_top (nI_1 (oG os jj (dG os w jj))) ?_
      refine kX_cal (mr_nextOf L xs d (va_up τ 293 CH) n b op[jj] (oG os jj (dG os w jj) + 1) hT u1 hcn) rfl (Or.inr rfl) rfl rfl rfl (fun r1 σ1 q1 => ?_)
      obtain ⟨hx, rfl⟩ := q1
      have hl : dG os w jj + 1 < (opL σ so n).length := by omega
      obtain rfl := (nx_at (σ := σ) (j := dG os w jj + 1) hofs (Or.inr ⟨dG os w jj, by omega, rfl, by rw [hG _ (by omega)]⟩) hx).1 hl
      refine kX_iastN rfl rfl (by decide) (jj) (by first | rfl | decide) (by omega) ?_
      iterate 1 (refine kX_one rfl ?_)
      refine kX_to [(7, .int 1), (0, .ref 232), (1, .int x), (2, .int s), (3, .int t), (4, .int (nI op.length)), (5, .long my)] (va_up τ 293 (upd CH jj (nI ((opL σ so n)[dG os w jj + 1]'hl)))) rfl rfl rfl ?_ (hgo hW _ (fun p hp => ?_))
      · funext c; unfold  va_up; repeat' split
        all_goals first | rfl | omega | (subst_vars; rfl) | (funext j; unfold upd; repeat' split; all_goals first | rfl | omega | (subst_vars; rfl))
      · by_cases e : p = jj
        · subst e
          rw [pk_us, j3, hG _ hl]
        · rw [pk_un e]
          by_cases e2 : p < jj
          · rw [j4 p e2]
            exact g1 p (by omega)
          · rw [(j5 p (by omega) (by omega)).2]
            exact (g2 p (by omega) hp).1
