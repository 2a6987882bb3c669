/-! the reference: receives, what is chosen -/
theorem ofs_sf {σ τ : kS} {n b u z : Nat} (h : mTb σ n b) (hF : mSf σ τ n) (hz : z < n) : ofs τ u z ↔ ofs σ u z := by
  have hn := h.1
  have e := (mFr_all h (pat_fr hF) hz).2.1
  have e : tgd (τ 233) (τ 234) (τ 235) z = tgd (σ 233) (σ 234) (σ 235) z := e
  unfold ofs
  rw [e, hF.1 240 (by decide) (by decide), (hF.2.2 z (by omega)).1]
/-- chosen: c -/
def chI (σ : kS) (n : Nat) (op : List Nat) (CH : Nat → Int32) (c : Nat → Nat) (lo hi : Nat) : Prop := ∀ p (h : p < op.length), lo ≤ p → p < hi → CH p = nI (c p) ∧ c p < n ∧ ofs σ op[p] (c p)
set_option maxRecDepth 100000 in
set_option maxHeartbeats 4000000 in
theorem mr_rc_first (L : Nat) (xs : Nat → Int32) (d : Nat) (σ : kS) (n b : Nat) (op : List Nat) (h : mTb σ n b) (h6 : op.length ≤ 6) (ho : lst (σ 292) op) (h200 : ∀ u ∈ op, u < 200) (hz : ∀ u ∈ op, ∃ z, z < n ∧ ofs σ u z) (x s t : Int32) (my : Int64) (Q : Option Value → kS → Prop)
    (he : ∀ CH c, chI σ n op CH c 0 op.length → kX kT L xs (d + 3) 217 189 [(0, .ref 232), (1, .int x), (2, .int s), (3, .int t), (4, .int (nI op.length)), (5, .long my)] [] (va_up σ 293 CH) Q) :
    ∀ q : Nat × (Nat → Int32) × (Nat → Nat), (q.1 ≤ op.length ∧ chI σ n op q.2.1 q.2.2 0 q.1) → kX kT L xs (d + 3) 217 157 [(7, .int (nI q.1)), (0, .ref 232), (1, .int x), (2, .int s), (3, .int t), (4, .int (nI op.length)), (5, .long my)] [] (va_up σ 293 q.2.1) Q := by
  refine kX_while (fun q : Nat × (Nat → Int32) × (Nat → Nat) => [(7, .int (nI q.1)), (0, .ref 232), (1, .int x), (2, .int s), (3, .int t), (4, .int (nI op.length)), (5, .long my)]) (fun q => va_up σ 293 q.2.1) _ (fun q => op.length - q.1) ?_
  rintro ⟨k, CH, c⟩ ⟨i1, i2⟩ ih
  dsimp only at i1 i2 ih ⊢
  iterate 2 (refine kX_one rfl ?_)
  repeat refine kX_one rfl ?_
  refine kX_if (fun q => ?_) (fun q => ?_)
  · have q := qge q k op.length
    obtain rfl : k = op.length := by omega
    exact kX_lv _ rfl rfl rfl (he CH c i2)
  · have q := qgeF q k op.length
    have hmem : op[k] ∈ op := List.getElem_mem q
    have u1 := h200 _ hmem
    obtain ⟨z0, z01, z02⟩ := hz _ hmem
    iterate 7 (refine kX_one rfl ?_)
    refine kX_ialdV rfl rfl (by decide) (k) (by first | rfl | decide) (by omega) (ho k q) ?_
    iterate 1 (refine kX_one rfl ?_)
    refine kX_cal (mr_nextOf L xs d (va_up σ 293 CH) n b op[k] 0 h u1 (Nat.zero_le _)) rfl (Or.inr rfl) rfl rfl rfl (fun r1 σ1 q1 => ?_)
    obtain ⟨hx, rfl⟩ := q1
    rcases hx with ⟨-, hx⟩ | ⟨z, -, z1, z2, -, rfl⟩
    · exact absurd z02 (hx z0 (Nat.zero_le _) z01)
    · refine kX_iastN rfl rfl (by decide) (k) (by first | rfl | decide) (by omega) ?_
      iterate 2 (refine kX_one rfl ?_)
      have := ih (k + 1, upd CH k (nI z), fun p => if p = k then z else c p) ⟨q, fun p hp _ hpk => by
        simp only at hpk ⊢
        by_cases e : p = k
        · subst e
          rw [pk_us, if_pos rfl]
          exact ⟨rfl, z1, z2⟩
        · rw [pk_un e, if_neg e]
          exact i2 p hp (Nat.zero_le _) (by omega)⟩ (by simp only; omega)
      dsimp only at this
      rw [← nI_1] at this
      refine kX_to _ _ rfl rfl rfl ?_ this
      funext c; unfold  va_up; repeat' split
      all_goals first | rfl | omega | (subst_vars; rfl) | (funext j; unfold upd; repeat' split; all_goals first | rfl | omega | (subst_vars; rfl))
theorem nI_dec (k : Nat) : nI k + Int32.ofInt (-1) = nI k - 1 := by
  rw [Int32.sub_eq_add_neg]
  rfl
set_option maxRecDepth 100000 in
set_option maxHeartbeats 4000000 in
theorem mr_rc_down (L : Nat) (xs : Nat → Int32) (d : Nat) (σ : kS) (n b : Nat) (op : List Nat) (c0 : Nat → Nat) (h : mTb σ n b) (h6 : op.length ≤ 6) (ho : lst (σ 292) op) (h200 : ∀ u ∈ op, u < 200) (hz : ∀ u ∈ op, ∃ z, z < n ∧ ofs σ u z) (x s t : Int32) (my : Int64) (Q : Option Value → kS → Prop)
    (he : ∀ K CH c, K ≤ op.length → chI σ n op CH c 0 op.length → (∀ p, p < K → c p = c0 p) → (∀ k (hk : k < op.length), K = k + 1 → ∃ z, c0 k + 1 ≤ z ∧ z < n ∧ ofs σ op[k] z) → kX kT L xs (d + 3) 217 367 [(10, .int (nI K - 1)), (0, .ref 232), (1, .int x), (2, .int s), (3, .int t), (4, .int (nI op.length)), (5, .long my)] [] (va_up σ 293 CH) Q) :
    ∀ q : Nat × (Nat → Int32) × (Nat → Nat), (q.1 ≤ op.length ∧ chI σ n op q.2.1 q.2.2 0 op.length ∧ ∀ p, p < q.1 → q.2.2 p = c0 p) → kX kT L xs (d + 3) 217 314 [(10, .int (nI q.1 - 1)), (0, .ref 232), (1, .int x), (2, .int s), (3, .int t), (4, .int (nI op.length)), (5, .long my)] [] (va_up σ 293 q.2.1) Q := by
  have hn := h.1
  refine kX_while (fun q : Nat × (Nat → Int32) × (Nat → Nat) => [(10, .int (nI q.1 - 1)), (0, .ref 232), (1, .int x), (2, .int s), (3, .int t), (4, .int (nI op.length)), (5, .long my)]) (fun q => va_up σ 293 q.2.1) _ (fun q => q.1) ?_
  rintro ⟨K, CH, c⟩ ⟨i1, i2, i3⟩ ih
  dsimp only at i1 i2 i3 ih ⊢
  rcases Nat.eq_zero_or_pos K with rfl | hK
  · iterate 2 (refine kX_one rfl ?_)
    exact he 0 CH c (Nat.zero_le _) i2 (fun p hp => absurd hp (Nat.not_lt_zero p)) (fun k _ e => by omega)
  · obtain ⟨k, rfl⟩ : ∃ k, K = k + 1 := ⟨K - 1, by omega⟩
    have hk : k < op.length := i1
    obtain ⟨w1, w2, w3⟩ := i2 k hk (Nat.zero_le _) hk
    have hmem : op[k] ∈ op := List.getElem_mem hk
    have u1 := h200 _ hmem
    obtain ⟨z0, z01, z02⟩ := hz _ hmem
    have ek : c k = c0 k := i3 k (by omega)
    rw [nI_pred]
    iterate 1 (refine kX_one rfl ?_)
    repeat refine kX_one rfl ?_
    refine kX_ifF (decide_eq_false (nI_pos (by omega))) ?_
    iterate 4 (refine kX_one rfl ?_)
    refine kX_ialdV rfl rfl (by decide) (k) (by first | rfl | decide) (by omega) (ho k hk) ?_
    iterate 3 (refine kX_one rfl ?_)
    refine kX_ialdV rfl rfl (by decide) (k) (by first | rfl | decide) (by omega) (w1) ?_
    iterate 2 (refine kX_one rfl ?_)
    refine kX_top (nI_1 (c k)) ?_
    refine kX_cal (mr_nextOf L xs d (va_up σ 293 CH) n b op[k] (c k + 1) h u1 w2) rfl (Or.inr rfl) rfl rfl rfl (fun r1 σ1 q1 => ?_)
    obtain ⟨hx, rfl⟩ := q1
    rcases hx with ⟨rfl, hx⟩ | ⟨z, zl, z1, z2, -, rfl⟩
    · iterate 8 (refine kX_one rfl ?_)
      refine kX_ialdV rfl rfl (by decide) (k) (by first | rfl | decide) (by omega) (ho k hk) ?_
      iterate 1 (refine kX_one rfl ?_)
      refine kX_cal (mr_nextOf L xs d (va_up σ 293 CH) n b op[k] 0 h u1 (Nat.zero_le _)) rfl (Or.inr rfl) rfl rfl rfl (fun r1 σ1 q1 => ?_)
      obtain ⟨hx2, rfl⟩ := q1
      rcases hx2 with ⟨-, hx2⟩ | ⟨z, -, z1, z2, -, rfl⟩
      · exact absurd z02 (hx2 z0 (Nat.zero_le _) z01)
      · refine kX_iastN rfl rfl (by decide) (k) (by first | rfl | decide) (by omega) ?_
        iterate 2 (refine kX_one rfl ?_)
        have := ih (k, upd CH k (nI z), fun p => if p = k then z else c p) ⟨by simp only; omega, fun p hp _ hpk => by
          simp only at hpk ⊢
          by_cases e : p = k
          · subst e
            rw [pk_us, if_pos rfl]
            exact ⟨rfl, z1, z2⟩
          · rw [pk_un e, if_neg e]
            exact i2 p hp (Nat.zero_le _) hp, fun p hp => by
          simp only at hp ⊢
          rw [if_neg (show ¬ p = k by omega)]
          exact i3 p (by omega)⟩ (by simp only; omega)
        dsimp only at this
        rw [← nI_dec] at this
        refine kX_to _ _ rfl rfl rfl ?_ this
        funext c; unfold  va_up; repeat' split
        all_goals first | rfl | omega | (subst_vars; rfl) | (funext j; unfold upd; repeat' split; all_goals first | rfl | omega | (subst_vars; rfl))
    · repeat refine kX_one rfl ?_
      refine kX_ifT (decide_eq_true (Int32.not_lt.mp (nI_pos (by omega)))) ?_
      have := he (k + 1) CH c i1 i2 i3 (fun k' hk' e => by
        obtain rfl : k' = k := by omega
        exact ⟨z, by omega, z1, z2⟩)
      rw [nI_pred] at this
      exact this
/-- how far the odometer has turned -/
def oM (c : Nat → Nat) : Nat → Nat
  | 0 => 0
  | p + 1 => oM c p * 201 + (200 - c p)
theorem oM_same {c c' : Nat → Nat} : ∀ q, (∀ p, p < q → c' p = c p) → oM c' q = oM c q
  | 0, _ => rfl
  | q + 1, h => by
    rw [oM, oM, oM_same q (fun p hp => h p (by omega)), h q (by omega)]
theorem oM_lt {c c' : Nat → Nat} {q : Nat} (h1 : ∀ p, p < q → c' p = c p) (h2 : c q < c' q) (h3 : c' q ≤ 200) : ∀ m, q < m → oM c' m < oM c m
  | 0, h => by omega
  | m + 1, h => by
    by_cases e : q = m
    · subst e
      rw [oM, oM, oM_same q h1]
      omega
    · have := oM_lt h1 h2 h3 m (by omega)
      rw [oM, oM]
      omega
