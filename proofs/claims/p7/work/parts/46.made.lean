/-! the reference's table: made, oldOrNew, isTerm -/
theorem mcp_iff {σ : kS} {n b : Nat} (h : mTb σ n b) {k : Nat} {a c : Int32} (hk : 3 < k) (hk9 : k ≤ 9) {t : Nat} (ht : mv n b t) (hi : mIs σ t (nI k) a c) : mv n b t ∧ 3 < fN (σ 233 t) := ⟨ht, by rw [hi.1, fN_nI (by omega)]; exact hk⟩
theorem mTb_find {σ : kS} {n b : Nat} (h : mTb σ n b) (L : Nat) (xs : Nat → Int32) (d : Nat) (k : Nat) (a c : Int32) (hk : 3 < k) (hk9 : k ≤ 9) : kXM kT L xs (d + 1) 148 [.ref 232, .int (nI k), .int a, .int c] σ (fun r σ' => σ = σ' ∧ ((r = some (.int (-1)) ∧ ∀ t, mv n b t → ¬ mIs σ t (nI k) a c) ∨ ∃ t, r = some (.int (nI t)) ∧ mv n b t ∧ mIs σ t (nI k) a c)) := by
  have hb := h.2.2.1
  have hn := h.1
  refine kX_post (mr_find L xs d σ (nI k) a c _ (fun t q => by have := q.1; unfold mv at this; omega) h.2.2.2.2.2.2.2.1) (fun r σ' q => ⟨q.1, ?_⟩)
  rcases q.2 with ⟨q1, q2⟩ | ⟨t, q1, q2, q3, q4⟩
  · exact Or.inl ⟨q1, fun t ht hi => q2 t (mcp_iff h hk hk9 ht hi) hi⟩
  · exact Or.inr ⟨t, q2, q3.1, q4⟩
set_option maxRecDepth 100000 in
set_option maxHeartbeats 4000000 in
theorem mr_made (L : Nat) (xs : Nat → Int32) (d : Nat) (σ : kS) (n b k : Nat) (a c : Int32) (x y : Nat) (h : mTb σ n b) (hb : b < 1000) (hk : 3 < k) (hw : tNw k a c x y b) (hx : mv n b x) (hy : k = 4 ∨ k = 5 ∨ k = 6 ∨ k = 8 → mv n b y) (h6 : k = 6 ∨ k = 8 → mAG σ n y) (h7 : k = 7 → mAG σ n x) :
    kXM kT L xs (d + 3) 153 [.ref 232, .int (nI k), .int a, .int c] σ (fun r σ' => ∃ t, r = some (.int (nI t)) ∧ ((mv n b t ∧ mIs σ t (nI k) a c ∧ σ = σ') ∨ (t = b ∧ (∀ u, mv n b u → ¬ mIs σ u (nI k) a c) ∧ (∃ z g nx hd, σ' = mU σ (upd (σ 233) b (nI k)) (upd (σ 234) b a) (upd (σ 235) b c) (upd (σ 236) b z) (upd (σ 237) b g) nx hd (upd (σ 232) 10 (nI (b + 1)))) ∧ mTb σ' n (b + 1)))) := by
  unfold kXM
  have hk9 : k ≤ 9 := by rcases hw with h | h | h <;> omega
  repeat refine kX_one rfl ?_
  refine kX_cal (mTb_find h L xs (d + 1) k a c hk hk9) rfl (Or.inr rfl) rfl rfl rfl (fun r1 σ1 q1 => ?_)
  obtain ⟨rfl, q1⟩ := q1
  rcases q1 with ⟨rfl, hno⟩ | ⟨t, rfl, ht, hi⟩
  · repeat refine kX_one rfl ?_
    rw [h.2.2.2.2.1]
    refine kX_cal (mr_lay L xs d σ b k a c x y hw hb) rfl (Or.inr rfl) rfl rfl rfl (fun r1 σ1 q1 => ?_)
    obtain ⟨rfl, rfl⟩ := q1
    have h2 := h.2.1
    have h1 := h.1
    have hbe : mLay σ b k a c x y 232 10 = nI b := by
      have := h.2.2.2.2.1
      unfold mLay
      split <;> exact this
    iterate 3 (refine kX_one rfl ?_)
    refine kX_top (hbe) ?_
    iterate 2 (refine kX_one rfl ?_)
    refine kX_top (nI_1 b) ?_
    repeat refine kX_one rfl ?_
    have hm : ∀ u, mv n b u → u < b := fun u q => by unfold mv at q; omega
    have e232 : mLay σ b k a c x y 232 = σ 232 := by unfold mLay; split <;> rfl
    refine kX_st (va_up (mLay σ b k a c x y) 232 (upd (σ 232) 10 (nI (b + 1)))) (congrArg (fun z => va_up (mLay σ b k a c x y) 232 (upd z 10 (nI (b + 1)))) e232) ?_
    have hF := mTb_lay h hm (n' := n) (b' := b + 1) (fun u => by unfold mv; omega) hb hw (fun _ => hx) hy h6 h7 (fun _ u hu => hno u hu) (Nat.le_refl _) (upd (σ 232) 10 (nI (b + 1))) h.2.2.2.1 rfl ⟨h1, by omega, by omega⟩ (fun _ => hk) (fun q => by omega)
    refine kX_ret (i := .ireturn) (len := 1) rfl (Or.inr rfl) rfl ⟨b, rfl, Or.inr ⟨rfl, hno, ⟨msz (σ 236) k x y, mgv (σ 237) k x y, upd (σ 243) b (σ 242 (mpl (nI k) a c)), upd (σ 242) (mpl (nI k) a c) (nI b), ?_⟩, hF⟩⟩
    unfold mLay
    rw [if_neg (show ¬ k ≤ 3 by omega)]
    rfl
  · have hb3 := h.2.2.1
    have h1 := h.1
    repeat refine kX_one rfl ?_
    repeat refine kX_one rfl ?_
    refine kX_ifT (by show jcmp .ge (nI t) 0 = true; exact decide_eq_true (nI_pos' (by unfold mv at ht; omega))) ?_
    repeat refine kX_one rfl ?_
    refine kX_ret (i := .ireturn) (len := 1) rfl (Or.inr rfl) rfl (⟨t, rfl, Or.inl ⟨ht, hi, rfl⟩⟩)
theorem lcmp_lt {a b : Int64} : lg_cmp a b < 0 ↔ a < b := by
  unfold lg_cmp
  split
  · next h =>
    refine ⟨fun q => absurd q (by decide), fun q => ?_⟩
    have h1 := Int64.lt_iff_toInt_lt.mp h
    have h2 := Int64.lt_iff_toInt_lt.mp q
    omega
  · next h =>
    split
    · next e =>
      refine ⟨fun q => absurd q (by decide), fun q => ?_⟩
      have h2 := Int64.lt_iff_toInt_lt.mp q
      rw [e] at h2
      omega
    · next e =>
      refine ⟨fun _ => ?_, fun _ => by decide⟩
      refine Int64.lt_iff_toInt_lt.mpr ?_
      have h1 : ¬ b.toInt < a.toInt := fun q => h (Int64.lt_iff_toInt_lt.mpr q)
      have h2 : a.toInt ≠ b.toInt := fun q => e (Int64.toInt_inj.mp q)
      omega
theorem lcmp_gt {a b : Int64} : 0 < lg_cmp a b ↔ b < a := by
  unfold lg_cmp
  split
  · next h => exact ⟨fun _ => h, fun _ => by decide⟩
  · next h =>
    split
    · exact ⟨fun q => absurd q (by decide), fun q => absurd q h⟩
    · exact ⟨fun q => absurd q (by decide), fun q => absurd q h⟩
set_option maxRecDepth 100000 in
set_option maxHeartbeats 4000000 in
theorem mr_in (L : Nat) (xs : Nat → Int32) (d : Nat) (σ : kS) (v lo hi : Int64) : kXM kT L xs d 145 [.long v, .long lo, .long hi] σ (fun r σ' => r = some (.int (bI (decide (¬ v < lo ∧ ¬ hi < v)))) ∧ σ = σ') := by
  unfold kXM
  repeat refine kX_one rfl ?_
  repeat refine kX_one rfl ?_
  refine kX_if (fun q => ?_) (fun q => ?_)
  · have q := lcmp_lt.mp (of_decide_eq_true q)
    repeat refine kX_one rfl ?_
    refine kX_ret (i := .ireturn) (len := 1) rfl (Or.inr rfl) rfl (⟨by rw [decide_eq_false (fun h => h.1 q)]; rfl, rfl⟩)
  · have q : ¬ v < lo := fun h => of_decide_eq_false q (lcmp_lt.mpr h)
    repeat refine kX_one rfl ?_
    repeat refine kX_one rfl ?_
    refine kX_if (fun q2 => ?_) (fun q2 => ?_)
    · have q2 := lcmp_gt.mp (of_decide_eq_true q2)
      repeat refine kX_one rfl ?_
      refine kX_ret (i := .ireturn) (len := 1) rfl (Or.inr rfl) rfl (⟨by rw [decide_eq_false (fun h => h.2 q2)]; rfl, rfl⟩)
    · have q2 : ¬ hi < v := fun h => of_decide_eq_false q2 (lcmp_gt.mpr h)
      repeat refine kX_one rfl ?_
      refine kX_ret (i := .ireturn) (len := 1) rfl (Or.inr rfl) rfl (⟨by rw [decide_eq_true ⟨q, q2⟩]; rfl, rfl⟩)
/-- x is a number below n -/
def isN (x : Int32) (n : Nat) : Prop := ∃ j, j < n ∧ x = nI j
theorem i64_lt (x y : Int32) : x.toInt64 < y.toInt64 ↔ x < y := by
  rw [Int64.lt_iff_toInt_lt, Int32.lt_iff_toInt_lt, Int32.toInt_toInt64, Int32.toInt_toInt64]
theorem in_N {x : Int32} {n : Nat} (hn : n < 1000000) : (¬ x.toInt64 < (0 : Int32).toInt64 ∧ ¬ (nI n - 1).toInt64 < x.toInt64) ↔ isN x n := by
  rw [i64_lt, i64_lt]
  constructor
  · rintro ⟨h1, h2⟩
    obtain ⟨j, hj, rfl⟩ := nI_of h1
    refine ⟨j, ?_, rfl⟩
    refine Nat.not_le.mp (fun h => h2 ?_)
    rw [Int32.lt_iff_toInt_lt, nI_toInt hj]
    have := pk_sub_toInt (a := n) (b := 1) (by omega) (by omega)
    rw [show (nI n - 1).toInt = (nI n - nI 1).toInt from rfl, this]
    omega
  · rintro ⟨j, hj, rfl⟩
    refine ⟨nI_pos (by omega), fun h => ?_⟩
    rw [Int32.lt_iff_toInt_lt, nI_toInt (by omega)] at h
    have := pk_sub_toInt (a := n) (b := 1) (by omega) (by omega)
    rw [show (nI n - 1).toInt = (nI n - nI 1).toInt from rfl, this] at h
    omega
noncomputable def isB (P : Prop) : Int32 := @ite _ P (Classical.propDecidable P) 1 0
theorem isB_T {P : Prop} (h : P) : isB P = 1 := by unfold isB; exact if_pos h
theorem isB_F {P : Prop} (h : ¬ P) : isB P = 0 := by unfold isB; exact if_neg h
theorem isB_ne {P : Prop} : isB P ≠ 0 ↔ P := by
  by_cases h : P
  · rw [isB_T h]
    exact ⟨fun _ => h, fun _ => by decide⟩
  · rw [isB_F h]
    exact ⟨fun q => absurd rfl q, fun q => absurd q h⟩
theorem isB_dec {P : Prop} {_ : Decidable P} : bI (decide P) = isB P := by
  by_cases h : P
  · rw [isB_T h, decide_eq_true h]; rfl
  · rw [isB_F h, decide_eq_false h]; rfl
set_option maxRecDepth 100000 in
set_option maxHeartbeats 4000000 in
theorem mr_isTerm (L : Nat) (xs : Nat → Int32) (d : Nat) (σ : kS) (n : Nat) (x : Int32) (h : σ 232 9 = nI n) (hn : n < 1000000) : kXM kT L xs (d + 1) 154 [.ref 232, .int x] σ (fun r σ' => r = some (.int (isB (isN x n))) ∧ σ = σ') := by
  unfold kXM
  repeat refine kX_one rfl ?_
  refine kX_cal (mr_in L xs d σ _ _ _) rfl (Or.inr rfl) rfl rfl rfl (fun r1 σ1 q1 => ?_)
  obtain ⟨rfl, rfl⟩ := q1
  refine kX_ret (i := .ireturn) (len := 1) rfl (Or.inr rfl) (jend_b rfl (bI_01 _)) ⟨?_, rfl⟩
  rw [isB_dec, ← in_N hn, ← h]
  rfl
