/-! the reference: TERMS made by calls -/
theorem mU_mU (σ : kS) (K F S Z G nx hd o K' F' S' Z' G' nx' hd' o' : Nat → Int32) : mU (mU σ K F S Z G nx hd o) K' F' S' Z' G' nx' hd' o' = mU σ K' F' S' Z' G' nx' hd' o' :=
  mU_of (σ := σ) (τ := mU (mU σ K F S Z G nx hd o) K' F' S' Z' G' nx' hd' o') (fun c h1 h2 h3 h4 h5 h6 h7 h8 => by
    simp [mU, va_up, h1, h2, h3, h4, h5, h6, h7, h8])
/-- σ' is σ with the TERM (k, a, c) at n -/
def mNw (σ σ' : kS) (n k : Nat) (a c : Int32) : Prop := ∃ z g nx hd jd, σ' = mU σ (upd (σ 233) n (nI k)) (upd (σ 234) n a) (upd (σ 235) n c) (upd (σ 236) n z) (upd (σ 237) n g) nx hd (mO (σ 232) n jd) ∧ mTb σ' (n + 1) 200
def mO0 (o : Nat → Int32) (jd : Int32) : Nat → Int32 := upd (upd (upd o 10 (nI 200)) 49 jd) 47 0
/-- σ' is σ without those that have no number, and without a row -/
def mRs (σ σ' : kS) (n : Nat) : Prop := ∃ hd jd, σ' = mU σ (σ 233) (σ 234) (σ 235) (σ 236) (σ 237) (σ 243) hd (mO0 (σ 232) jd) ∧ mTb σ' n 200
theorem mO_mO0 (o : Nat → Int32) (n : Nat) (jd jd' : Int32) : mO (mO0 o jd) n jd' = mO o n jd' := by
  funext j
  unfold mO mO0 upd
  repeat' split
  all_goals first | rfl | omega
theorem mNw_Rs {σ τ σ' : kS} {n k : Nat} {a c : Int32} (h1 : mRs σ τ n) (h2 : mNw τ σ' n k a c) : mNw σ σ' n k a c := by
  obtain ⟨hd, jd, rfl, hT⟩ := h1
  obtain ⟨z, g, nx, hd2, jd2, rfl, hT2⟩ := h2
  refine ⟨z, g, nx, hd2, jd2, ?_, hT2⟩
  rw [mU_mU]
  have e : mO (mU σ (σ 233) (σ 234) (σ 235) (σ 236) (σ 237) (σ 243) hd (mO0 (σ 232) jd) 232) n jd2 = mO (σ 232) n jd2 := mO_mO0 _ _ _ _
  rw [e]
  rfl
set_option maxRecDepth 100000 in
set_option maxHeartbeats 4000000 in
theorem mr_oldOrNew (L : Nat) (xs : Nat → Int32) (d : Nat) (σ : kS) (n b k : Nat) (a c : Int32) (x y : Nat) (h : mTb σ n b) (hk : 3 < k) (hw : tNw k a c x y n) (h6 : k = 6 ∨ k = 8 → mAG σ n y) (h7 : k = 7 → mAG σ n x) :
    kXM kT L xs (d + 4) 157 [.ref 232, .int (nI k), .int a, .int c] σ (fun r σ' =>
      (¬ msz (σ 236) k x y ≤ nI 24 ∧ r = some (.int (-2)) ∧ σ = σ') ∨
      (msz (σ 236) k x y ≤ nI 24 ∧ (∃ t, t < n ∧ mIs σ t (nI k) a c ∧ r = some (.int (nI t))) ∧ σ = σ') ∨
      (msz (σ 236) k x y ≤ nI 24 ∧ (∀ t, t < n → ¬ mIs σ t (nI k) a c) ∧ n = 200 ∧ r = some (.int (-4)) ∧ (σ = σ' ∨ mRs σ σ' n)) ∨
      (msz (σ 236) k x y ≤ nI 24 ∧ (∀ t, t < n → ¬ mIs σ t (nI k) a c) ∧ n < 200 ∧ r = some (.int (nI n)) ∧ mNw σ σ' n k a c)) := by
  have hk9 : k ≤ 9 := by rcases hw with h | h | h <;> omega
  have hn := h.1
  have hw' : tNw k a c x y 1000 := tNw_mono hw (by omega)
  unfold kXM
  repeat refine kX_one rfl ?_
  refine kX_cal (mr_size L xs (d + 2) σ k a c x y hw') rfl (Or.inr rfl) rfl rfl rfl (fun r1 σ1 q1 => ?_)
  obtain ⟨rfl, rfl⟩ := q1
  repeat refine kX_one rfl ?_
  repeat refine kX_one rfl ?_
  refine kX_if (fun q => ?_) (fun q => ?_)
  · have q : msz (σ 236) k x y ≤ nI 24 := of_decide_eq_true q
    repeat refine kX_one rfl ?_
    refine kX_cal (mTb_find h L xs (d + 2) k a c hk hk9) rfl (Or.inr rfl) rfl rfl rfl (fun r1 σ1 q1 => ?_)
    obtain ⟨rfl, q1⟩ := q1
    /- behind the search: t is -1, in contents that are σ or without the unnumbered -/
    have tail : ∀ τ, (σ = τ ∨ mRs σ τ n) → (∀ t, t < n → ¬ mIs σ t (nI k) a c) → ∀ lv, lv = [(4, Value.int (-1)), (0, .ref 232), (1, .int (nI k)), (2, .int a), (3, .int c)] → kX kT L xs (d + 4) 157 47 lv [] τ (fun r σ' =>
      (¬ msz (σ 236) k x y ≤ nI 24 ∧ r = some (.int (-2)) ∧ σ = σ') ∨
      (msz (σ 236) k x y ≤ nI 24 ∧ (∃ t, t < n ∧ mIs σ t (nI k) a c ∧ r = some (.int (nI t))) ∧ σ = σ') ∨
      (msz (σ 236) k x y ≤ nI 24 ∧ (∀ t, t < n → ¬ mIs σ t (nI k) a c) ∧ n = 200 ∧ r = some (.int (-4)) ∧ (σ = σ' ∨ mRs σ σ' n)) ∨
      (msz (σ 236) k x y ≤ nI 24 ∧ (∀ t, t < n → ¬ mIs σ t (nI k) a c) ∧ n < 200 ∧ r = some (.int (nI n)) ∧ mNw σ σ' n k a c)) := by
      intro τ hτ hno lv hlv
      subst hlv
      have hT : ∃ b', mTb τ n b' := by
        rcases hτ with rfl | ⟨hd, jd, -, hT⟩
        · exact ⟨b, h⟩
        · exact ⟨200, hT⟩
      obtain ⟨b', hT⟩ := hT
      repeat refine kX_one rfl ?_
      repeat refine kX_one rfl ?_
      refine kX_if (fun q2 => ?_) (fun q2 => ?_)
      · have q2 : n ≠ 200 := fun e => qne q2 (by rw [hT.2.2.2.1, e]; decide)
        repeat refine kX_one rfl ?_
        have hcond : (k = 6 ∨ k = 8 → mAG τ n y) ∧ (k = 7 → mAG τ n x) ∧ (3 < k → ∀ u, u < n → ¬ mIs τ u (nI k) a c) ∧ msz (τ 236) k x y ≤ nI 24 := by
          rcases hτ with rfl | ⟨hd, jd, rfl, -⟩
          · exact ⟨h6, h7, fun _ => hno, q⟩
          · exact ⟨h6, h7, fun _ => hno, q⟩
        refine kX_cal (mr_last L xs d τ n b' k a c x y hT (by omega) hw hcond.1 hcond.2.1 hcond.2.2.1 hcond.2.2.2) rfl (Or.inr rfl) rfl rfl rfl (fun r1 σ1 q1 => ?_)
        obtain ⟨rfl, hnew⟩ := q1
        repeat refine kX_one rfl ?_
        refine kX_ret (i := .ireturn) (len := 1) rfl (Or.inr rfl) rfl (Or.inr (Or.inr (Or.inr ⟨q, hno, by omega, rfl, ?_⟩)))
        rcases hτ with rfl | hτ
        · exact hnew
        · exact mNw_Rs hτ hnew
      · have q2 : n = 200 := nI_inj (hT.2.2.2.1.symm.trans (qneF q2))
        repeat refine kX_one rfl ?_
        refine kX_ret (i := .ireturn) (len := 1) rfl (Or.inr rfl) rfl (Or.inr (Or.inr (Or.inl ⟨q, hno, q2, rfl, hτ⟩)))
    rcases q1 with ⟨rfl, hno⟩ | ⟨t, rfl, ht, hi⟩
    · iterate 4 (refine kX_one rfl ?_)
      exact tail σ (Or.inl rfl) (fun t ht => hno t (Or.inl ht)) _ rfl
    · have ht1 : t < 1000 := by have := h.2.2.1; unfold mv at ht; omega
      iterate 3 (refine kX_one rfl ?_)
      repeat refine kX_one rfl ?_
      refine kX_if (fun q2 => ?_) (fun q2 => ?_)
      · have q2 := qlt q2 t 200
        iterate 1 (refine kX_one rfl ?_)
        repeat refine kX_one rfl ?_
        refine kX_ifF (decide_eq_false (nI_pos (by omega))) ?_
        repeat refine kX_one rfl ?_
        refine kX_ret (i := .ireturn) (len := 1) rfl (Or.inr rfl) rfl (Or.inr (Or.inl ⟨q, ⟨t, by unfold mv at ht; omega, hi, rfl⟩, rfl⟩))
      · have q2 := qltF q2 t 200
        repeat refine kX_one rfl ?_
        refine kX_cal (mr_release L xs (d + 2) σ n b 200 h (by decide) h.2.1) rfl (Or.inr rfl) rfl rfl rfl (fun r1 σ1 q1 => ?_)
        obtain ⟨rfl, hd, rfl, hT⟩ := q1
        iterate 5 (refine kX_one rfl ?_)
        refine kX_lv [(4, Value.int (-1)), (0, .ref 232), (1, .int (nI k)), (2, .int a), (3, .int c)] rfl rfl rfl ?_
        refine tail (va_up (mRel σ 200 hd) 232 (upd (mRel σ 200 hd 232) 47 (Int32.ofInt 0))) (Or.inr ⟨hd, (mRel σ 200 hd) 232 49, ?_, hT⟩) (fun u hu hi2 => ?_) _ rfl
        · have := mU_of (σ := σ) (τ := va_up (mRel σ 200 hd) 232 (upd (mRel σ 200 hd 232) 47 (Int32.ofInt 0))) (fun c h1 h2 h3 h4 h5 h6 h7 h8 => by
            simp [mRel, va_up, h1, h2, h3, h4, h5, h6, h7, h8])
          rw [this]
          have e : (va_up (mRel σ 200 hd) 232 (upd (mRel σ 200 hd 232) 47 (Int32.ofInt 0))) 232 = mO0 (σ 232) ((mRel σ 200 hd) 232 49) := rfl
          rw [e]
          rfl
        · have := h.2.2.2.2.2.1.2.2 t u ht (Or.inl hu) (mcp_iff h hk hk9 ht hi).2 (hi.1.trans hi2.1.symm) (hi.2.1.trans hi2.2.1.symm) (hi.2.2.trans hi2.2.2.symm)
          omega
  · have q : ¬ msz (σ 236) k x y ≤ nI 24 := of_decide_eq_false q
    repeat refine kX_one rfl ?_
    refine kX_ret (i := .ireturn) (len := 1) rfl (Or.inr rfl) rfl (Or.inl ⟨q, rfl, rfl⟩)
set_option maxRecDepth 100000 in
set_option maxHeartbeats 4000000 in
theorem mr_agent (L : Nat) (xs : Nat → Int32) (d : Nat) (σ : kS) (n b : Nat) (h : mTb σ n b) (v : Int32) (hv : v = 0 ∨ v = 1) : kXM kT L xs (d + 4) 155 [.ref 232, .int v] σ (fun r σ' => (n = 200 ∧ r = some (.int (-4)) ∧ σ = σ') ∨ (n < 200 ∧ r = some (.int (nI n)) ∧ ∃ τ, mNw σ τ n 0 (-1) (-1) ∧ σ' = va_up τ 238 (upd (σ 238) n v))) := by
  unfold kXM
  repeat refine kX_one rfl ?_
  have hn := h.1
  repeat refine kX_one rfl ?_
  refine kX_if (fun q => ?_) (fun q => ?_)
  · have q : n ≠ 200 := fun e => qne q (by rw [h.2.2.2.1, e]; decide)
    repeat refine kX_one rfl ?_
    refine kX_cal (mr_last L xs d σ n b 0 (-1) (-1) 0 0 h (by omega) (Or.inl ⟨by omega, rfl, rfl⟩) (by omega) (by omega) (by omega) (show nI 1 ≤ nI 24 by decide)) rfl (Or.inr rfl) rfl rfl rfl (fun r1 σ1 q1 => ?_)
    obtain ⟨rfl, hnew⟩ := q1
    repeat refine kX_one rfl ?_
    refine kX_bastN rfl rfl (by decide) (n) (by first | rfl | decide) (by omega) (hv) ?_
    repeat refine kX_one rfl ?_
    refine kX_ret (i := .ireturn) (len := 1) rfl (Or.inr rfl) rfl (Or.inr ⟨by omega, rfl, σ1, hnew, ?_⟩)
    obtain ⟨z, g, nx, hd, jd, rfl, -⟩ := hnew
    rfl
  · have q : n = 200 := nI_inj (h.2.2.2.1.symm.trans (qneF q))
    repeat refine kX_one rfl ?_
    refine kX_ret (i := .ireturn) (len := 1) rfl (Or.inr rfl) rfl (Or.inl ⟨q, rfl, rfl⟩)
