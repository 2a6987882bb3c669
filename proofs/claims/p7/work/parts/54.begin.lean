/-! the reference: the row begins -/
theorem cnt_zero {f : Nat → Prop} (h : ∀ t, ¬ f t) : ∀ m, cnt f m = 0
  | 0 => rfl
  | m + 1 => by
    unfold cnt
    rw [cnt_zero h m, if_neg (h m)]
/-- σ without those that have no number -/
def mRl (σ : kS) (hd : Nat → Int32) (jd : Int32) : kS := va_up (va_up σ 242 hd) 232 (upd (upd (σ 232) 10 (nI 200)) 49 jd)
/-- what is known at first -/
def mKn (σ : kS) (n : Nat) (kl : List Nat) : Prop := σ 232 26 = nI kl.length ∧ kl.length ≤ 20 ∧ lst (σ 254) kl ∧ ∀ t ∈ kl, t < n ∧ tgd (σ 233) (σ 234) (σ 235) t = true
noncomputable def knR (kl : List Nat) : rwT := kl.foldl (fun l t => rwA l t (nI 0) (-6)) []
theorem knR_snoc (kl : List Nat) (t : Nat) : knR (kl ++ [t]) = rwA (knR kl) t (nI 0) (-6) := by
  unfold knR
  rw [List.foldl_append]
  rfl
set_option maxRecDepth 100000 in
set_option maxHeartbeats 4000000 in
theorem mr_beginRow (L : Nat) (xs : Nat → Int32) (d : Nat) (σ : kS) (n b : Nat) (kl : List Nat) (h : mTb σ n b) (hk : mKn σ n kl) : kXM kT L xs (d + 2) 179 [.ref 232] σ (fun r σ' => r = none ∧ (∃ hd jd, rwF (mRl σ hd jd) σ' ∧ mTb (mRl σ hd jd) n 200) ∧ mRq σ' (mvG σ n 200) (knR kl) ∧ mJd σ' n 200 (knR kl)) := by
  obtain ⟨k1, k2, k3, k4⟩ := hk
  have hn := h.1
  unfold kXM
  repeat refine kX_one rfl ?_
  refine kX_cal (mr_release L xs d σ n b 200 h (by decide) h.2.1) rfl (Or.inr rfl) rfl rfl rfl (fun r1 σ1 q1 => ?_)
  obtain ⟨rfl, hd, rfl, hT⟩ := q1
  generalize hjd : (if σ 232 49 < nI 200 then σ 232 49 else nI 200) = jd at hT
  have hT' : mTb (mRl σ hd jd) n 200 := by
    have : mRl σ hd jd = mRel σ 200 hd := by unfold mRl mRel; rw [hjd]
    rw [this]
    exact hT
  iterate 8 (refine kX_one rfl ?_)
  refine kX_to [(1, .int (nI 0)), (0, .ref 232)] (va_up (mRl σ hd jd) 232 (upd (upd (mRl σ hd jd 232) 46 (nI 0)) 50 (-1))) rfl rfl rfl ?_ ?_
  · unfold mRl mRel
    rw [hjd]
    funext c; unfold  va_up; repeat' split
    all_goals first | rfl | omega | (subst_vars; rfl) | (funext j; unfold upd; repeat' split; all_goals first | rfl | omega | (subst_vars; rfl))
  have l1 := kX_while (T := kT) (L := L) (xs := xs) (d := d + 2) (mi := 179) (pc := 19) (Q := fun r σ' => r = none ∧ (∃ hd jd, rwF (mRl σ hd jd) σ' ∧ mTb (mRl σ hd jd) n 200) ∧ mRq σ' (mvG σ n 200) (knR kl) ∧ mJd σ' n 200 (knR kl))
    (fun q : Nat × (Nat → Int32) => [(1, .int (nI q.1)), (0, .ref 232)]) (fun q => va_up (va_up (mRl σ hd jd) 232 (upd (upd (mRl σ hd jd 232) 46 (nI 0)) 50 (-1))) 271 q.2) (fun q => q.1 ≤ 1000 ∧ ∀ t, t < q.1 → q.2 t = 0) (fun q => 1000 - q.1) ?_ (0, σ 271) ⟨Nat.zero_le _, fun t ht => absurd ht (Nat.not_lt_zero t)⟩
  · refine kX_st _ ?_ l1
    funext c; unfold mRl va_up; repeat' split
    all_goals first | rfl | omega | (subst_vars; rfl) | (funext j; unfold upd; repeat' split; all_goals first | rfl | omega | (subst_vars; rfl))
  · rintro ⟨i, f⟩ ⟨i1, i2⟩ ih
    dsimp only at i1 i2 ih ⊢
    repeat refine kX_one rfl ?_
    refine kX_if (fun q => ?_) (fun q => ?_)
    · have q := qge q i 1000
      obtain rfl : i = 1000 := by omega
      iterate 2 (refine kX_one rfl ?_)
      have l2 := kX_while (T := kT) (L := L) (xs := xs) (d := d + 2) (mi := 179) (pc := 41) (Q := fun r σ' => r = none ∧ (∃ hd jd, rwF (mRl σ hd jd) σ' ∧ mTb (mRl σ hd jd) n 200) ∧ mRq σ' (mvG σ n 200) (knR kl) ∧ mJd σ' n 200 (knR kl))
        (fun q : Nat × kS => [(1, .int (nI q.1)), (0, .ref 232)]) (fun q => q.2) (fun q => q.1 ≤ kl.length ∧ rwF (mRl σ hd jd) q.2 ∧ mRq q.2 (mvG σ n 200) (knR (kl.take q.1)) ∧ q.2 232 50 = -1) (fun q => kl.length - q.1) ?_ (0, va_up (va_up (mRl σ hd jd) 232 (upd (upd (mRl σ hd jd 232) 46 (nI 0)) 50 (-1))) 271 f) ⟨Nat.zero_le _, ?_, ?_, rfl⟩
      · refine kX_lv _ rfl rfl ?_ l2
        rfl
      · rintro ⟨i, τ⟩ ⟨j1, j2, j3, j4⟩ ih2
        dsimp only at j1 j2 j3 j4 ih2 ⊢
        have hkn : τ 232 26 = nI kl.length := (j2.2 _ (by decide) (by decide) (by decide)).trans k1
        have hkl : τ 254 = σ 254 := by
          obtain ⟨⟨_, _, _, _, _, _, rfl⟩, -⟩ := j2
          rfl
        iterate 3 (refine kX_one rfl ?_)
        refine kX_top (hkn) ?_
        repeat refine kX_one rfl ?_
        refine kX_if (fun q => ?_) (fun q => ?_)
        · have q := qge q i kl.length
          obtain rfl : i = kl.length := by omega
          rw [List.take_length] at j3
          refine kX_ret (i := .return_) (len := 1) rfl (Or.inr rfl) rfl ⟨rfl, ⟨hd, jd, j2, hT'⟩, j3, Or.inl j4, fun q => ?_⟩
          rw [j4] at q
          exact absurd q.symm (nI_m1 (by have := mRq_len j3; omega))
        · have q := qgeF q i kl.length
          have hki := k4 kl[i] (List.getElem_mem q)
          repeat refine kX_one rfl ?_
          refine kX_ialdV (v := nI kl[i]) rfl rfl (by decide) i rfl (by omega) (by rw [hkl]; exact k3 i q) ?_
          repeat refine kX_one rfl ?_
          refine kX_cal (mr_comes L xs d τ (mvG σ n 200) (knR (kl.take i)) kl[i] (nI 0) (-6) j3 (by omega) ⟨Or.inl hki.1, hki.2⟩) rfl (Or.inr rfl) rfl rfl rfl (fun r1 σ1 q1 => ?_)
          obtain ⟨rfl, f1, I, R, H, M, rfl⟩ := q1
          iterate 2 (refine kX_one rfl ?_)
          have := ih2 (i + 1, mRu τ I R H M (upd (τ 232) 46 (nI (rwA (knR (kl.take i)) kl[i] (nI 0) (-6)).length))) ⟨by simp only; omega, rwF_trans j2 rwF_mRu, by
            simp only
            rw [List.take_succ_eq_append_getElem q, knR_snoc]
            exact f1, j4⟩ (by simp only; omega)
          rw [← nI_1] at this
          exact this
      · show rwF (mRl σ hd jd) (va_up (va_up (mRl σ hd jd) 232 (upd (upd (mRl σ hd jd 232) 46 (nI 0)) 50 (-1))) 271 f)
        refine ⟨⟨σ 272, f, σ 268, σ 269, σ 270, upd (upd (mRl σ hd jd 232) 46 (nI 0)) 50 (-1), ?_⟩, fun j h1 h2 h3 => ?_⟩
        · funext c; unfold mRl rwS va_up; repeat' split
          all_goals first | rfl | omega | (subst_vars; rfl) | (funext j; unfold upd; repeat' split; all_goals first | rfl | omega | (subst_vars; rfl))
        · show upd (upd (mRl σ hd jd 232) 46 (nI 0)) 50 (-1) j = _
          rw [pk_un h2, pk_un h3]
      · refine ⟨rfl, fun i hi => absurd hi (Nat.not_lt_zero i), fun t ht => ?_, fun t ht => ?_, ?_⟩
        · obtain ⟨q, hq, -⟩ := ht
          cases hq
        · show f t = _
          rw [i2 t ht, isB_F]
          rintro ⟨q, hq, -⟩
          cases hq
        · exact cnt_zero (fun t ht => by obtain ⟨q, hq, -⟩ := ht; cases hq) 1000
    · have q := qgeF q i 1000
      repeat refine kX_one rfl ?_
      refine kX_bastN rfl rfl (by decide) (i) (by first | rfl | decide) (by omega) (Or.inl rfl) ?_
      iterate 2 (refine kX_one rfl ?_)
      rw [kup_up]
      have := ih (i + 1, upd f i 0) ⟨by simp only; omega, fun t ht => by
        simp only at ht ⊢
        by_cases e : t = i
        · subst e
          exact pk_us
        · rw [pk_un e]
          exact i2 t (by omega)⟩ (by simp only; omega)
      rw [← nI_1] at this
      exact this
