/-! the reference: places, find -/
def mIs (σ : kS) (t : Nat) (w a b : Int32) : Prop := σ 233 t = w ∧ σ 234 t = a ∧ σ 235 t = b
def mPl (w a b : Int32) : Int32 := (w * (Int16.ofInt 7919).toInt32 + a * (Int16.ofInt 263).toInt32 + b * (Int8.ofInt 31).toInt32) &&& (Int16.ofInt 1023).toInt32
theorem mPl_ok (w a b : Int32) : ∃ h, h < 1024 ∧ mPl w a b = nI h := pk_andE _ (m := (Int16.ofInt 1023).toInt32) 10 (by decide)
def mpl (w a b : Int32) : Nat := (mPl w a b).toNatClampNeg
theorem mpl_lt (w a b : Int32) : mpl w a b < 1024 := by
  obtain ⟨h, h1, h2⟩ := mPl_ok w a b
  unfold mpl
  rw [h2, nI_clamp (by omega)]
  exact h1
theorem mpl_eq (w a b : Int32) : mPl w a b = nI (mpl w a b) := by
  obtain ⟨h, h1, h2⟩ := mPl_ok w a b
  unfold mpl
  rw [h2, nI_clamp (by omega)]
set_option maxRecDepth 100000 in
set_option maxHeartbeats 4000000 in
theorem mr_place (L : Nat) (xs : Nat → Int32) (d : Nat) (σ : kS) (w a b : Int32) : kXM kT L xs d 147 [.int w, .int a, .int b] σ (fun r σ' => r = some (.int (nI (mpl w a b))) ∧ σ = σ') := by
  unfold kXM
  repeat refine kX_one rfl ?_
  refine kX_ret (i := .ireturn) (len := 1) rfl (Or.inr rfl) rfl (⟨by rw [← mpl_eq]; rfl, rfl⟩)
def mFnd (σ : kS) (P : Nat → Prop) (w a b : Int32) (r : Option Value) : Prop := (r = some (.int (-1)) ∧ ∀ t, P t → ¬ mIs σ t w a b) ∨ ∃ t, t < 1000 ∧ r = some (.int (nI t)) ∧ P t ∧ mIs σ t w a b
/-- the place of a TERM in the reference's table -/
def mpt (σ : kS) (t : Nat) : Nat := mpl (σ 233 t) (σ 234 t) (σ 235 t)
set_option maxRecDepth 100000 in
set_option maxHeartbeats 4000000 in
theorem mr_find_loop (L : Nat) (xs : Nat → Int32) (d : Nat) (σ : kS) (w a b : Int32) (P : Nat → Prop) (hP : ∀ t, P t → t < 1000 ∧ isTop P t (σ 243 t)) : ∀ q : Nat × Int32, (q.1 ≤ 1000 ∧ isTop P q.1 q.2 ∧ ∀ t, P t → q.1 ≤ t → ¬ mIs σ t w a b) → kX kT L xs (d + 1) 148 13 [(4, .int q.2), (0, .ref 232), (1, .int w), (2, .int a), (3, .int b)] [] σ (fun r σ' => σ = σ' ∧ mFnd σ P w a b r) := by
  refine kX_while (fun q : Nat × Int32 => [(4, .int q.2), (0, .ref 232), (1, .int w), (2, .int a), (3, .int b)]) (fun _ => σ) _ (fun q => q.1) ?_
  rintro ⟨bd, x⟩ ⟨hb, hx, hm⟩ ih
  dsimp only at hb hx hm ih ⊢
  rcases hx with ⟨rfl, h1⟩ | ⟨t, h1, rfl, hPt, h2⟩
  · repeat refine kX_one rfl ?_
    refine kX_ret (i := .ireturn) (len := 1) rfl (Or.inr rfl) rfl (⟨rfl, Or.inl ⟨rfl, fun t ht => ?_⟩⟩)
    by_cases h : t < bd
    · exact absurd ht (h1 t h)
    · exact hm t ht (by omega)
  · obtain ⟨ht, hn⟩ := hP t hPt
    have hno : ¬ mIs σ t w a b → kX kT L xs (d + 1) 148 51 [(4, .int (nI t)), (0, .ref 232), (1, .int w), (2, .int a), (3, .int b)] [] σ (fun r σ' => σ = σ' ∧ mFnd σ P w a b r) := by
      intro hne
      repeat refine kX_one rfl ?_
      refine kX_ialdN rfl rfl (by decide) (t) (by first | rfl | decide) (ht) ?_
      iterate 2 (refine kX_one rfl ?_)
      refine ih (t, _) ⟨by omega, hn, fun t2 g1 g2 => ?_⟩ h1
      rcases Nat.lt_trichotomy t2 t with g | g | g
      · exact absurd g (by simp only at g2; omega)
      · subst g
        exact hne
      · by_cases g3 : t2 < bd
        · exact absurd g1 (h2 t2 g g3)
        · exact hm t2 g1 (by omega)
    iterate 2 (refine kX_one rfl ?_)
    repeat refine kX_one rfl ?_
    refine kX_ifF (decide_eq_false (nI_pos (by omega))) ?_
    repeat refine kX_one rfl ?_
    refine kX_ialdN rfl rfl (by decide) (t) (by first | rfl | decide) (ht) ?_
    repeat refine kX_one rfl ?_
    repeat refine kX_one rfl ?_
    refine kX_if (fun q1 => hno (fun e => qne q1 e.1)) (fun q1 => ?_)
    repeat refine kX_one rfl ?_
    refine kX_ialdN rfl rfl (by decide) (t) (by first | rfl | decide) (ht) ?_
    repeat refine kX_one rfl ?_
    repeat refine kX_one rfl ?_
    refine kX_if (fun q2 => hno (fun e => qne q2 e.2.1)) (fun q2 => ?_)
    repeat refine kX_one rfl ?_
    refine kX_ialdN rfl rfl (by decide) (t) (by first | rfl | decide) (ht) ?_
    repeat refine kX_one rfl ?_
    repeat refine kX_one rfl ?_
    refine kX_if (fun q3 => ?_) (fun q3 => hno (fun e => qeqF q3 e.2.2))
    repeat refine kX_one rfl ?_
    refine kX_ret (i := .ireturn) (len := 1) rfl (Or.inr rfl) rfl (⟨rfl, Or.inr ⟨t, ht, rfl, hPt, qneF q1, qneF q2, qeq q3⟩⟩)
set_option maxRecDepth 100000 in
set_option maxHeartbeats 4000000 in
theorem mr_find (L : Nat) (xs : Nat → Int32) (d : Nat) (σ : kS) (w a b : Int32) (V : Nat → Prop) (hV : ∀ t, V t → t < 1000) (hc : hcP 1024 1000 V (mpt σ) (σ 242) (σ 243)) : kXM kT L xs (d + 1) 148 [.ref 232, .int w, .int a, .int b] σ (fun r σ' => σ = σ' ∧ mFnd σ V w a b r) := by
  unfold kXM
  repeat refine kX_one rfl ?_
  refine kX_cal (mr_place L xs d σ w a b) rfl (Or.inr rfl) rfl rfl rfl (fun r1 σ1 q1 => ?_)
  obtain ⟨rfl, rfl⟩ := q1
  refine kX_ialdN rfl rfl (by decide) (mpl w a b) rfl (mpl_lt w a b) ?_
  iterate 1 (refine kX_one rfl ?_)
  refine kX_lv [(4, .int (σ 242 (mpl w a b))), (0, .ref 232), (1, .int w), (2, .int a), (3, .int b)] rfl rfl rfl ?_
  refine kX_post (mr_find_loop L xs d σ w a b (fun t => V t ∧ mpt σ t = mpl w a b) (fun t ht => ⟨hV t ht.1, by have := hc.2 t ht.1; rw [ht.2] at this; exact this⟩) (1000, _) ⟨Nat.le_refl _, hc.1 _ (mpl_lt w a b), fun t ht h => absurd (hV t ht.1) (by simp only at h; omega)⟩) (fun r σ' q => ⟨q.1, ?_⟩)
  rcases q.2 with ⟨q1, q2⟩ | ⟨t, q1, q2, q3, q4⟩
  · exact Or.inl ⟨q1, fun t ht hi => q2 t ⟨ht, by unfold mpt; rw [hi.1, hi.2.1, hi.2.2]⟩ hi⟩
  · exact Or.inr ⟨t, q1, q2, q3.1, q4⟩
set_option maxRecDepth 100000 in
set_option maxHeartbeats 4000000 in
theorem mr_release_loop (L : Nat) (xs : Nat → Int32) (d : Nat) (σ : kS) (V : Nat → Prop) (f : Nat) (hf : 200 ≤ f) (hf2 : f ≤ 1000) (Q : Option Value → kS → Prop)
    (he : ∀ hd x, hcP 1024 1000 (fun t => V t ∧ t < f) (mpt σ) hd (σ 243) → kX kT L xs (d + 1) 151 50 [(2, .int x), (0, .ref 232), (1, .int (nI f))] [] (va_up σ 242 hd) Q) :
    ∀ q : Nat × (Nat → Int32), (f ≤ q.1 + 1 ∧ q.1 < 1000 ∧ (∀ t, f ≤ t → t ≤ q.1 → V t) ∧ hcP 1024 1000 (fun t => V t ∧ t ≤ q.1) (mpt σ) q.2 (σ 243)) → kX kT L xs (d + 1) 151 7 [(2, .int (nI q.1)), (0, .ref 232), (1, .int (nI f))] [] (va_up σ 242 q.2) Q := by
  refine kX_while (fun q : Nat × (Nat → Int32) => [(2, .int (nI q.1)), (0, .ref 232), (1, .int (nI f))]) (fun q => va_up σ 242 q.2) _ (fun q => q.1) ?_
  rintro ⟨c, hd⟩ ⟨hb, h1, h2, h3⟩ ih
  dsimp only at hb h1 h2 h3 ih ⊢
  iterate 3 (refine kX_one rfl ?_)
  refine kX_if (fun q => ?_) (fun q => ?_)
  · have q := qlt q c f
    exact he hd _ (hcP_congr (fun t => ⟨fun q => ⟨q.1, by have := q.2; omega⟩, fun q => ⟨q.1, by have := q.2; omega⟩⟩) (fun _ _ => rfl) h3)
  · have q := qltF q c f
    repeat refine kX_one rfl ?_
    refine kX_ialdN rfl rfl (by decide) (c) (by first | rfl | decide) (h1) ?_
    repeat refine kX_one rfl ?_
    refine kX_ialdN rfl rfl (by decide) (c) (by first | rfl | decide) (h1) ?_
    repeat refine kX_one rfl ?_
    refine kX_ialdN rfl rfl (by decide) (c) (by first | rfl | decide) (h1) ?_
    refine kX_cal (mr_place L xs d _ _ _ _) rfl (Or.inr rfl) rfl rfl rfl (fun r1 σ1 q1 => ?_)
    obtain ⟨rfl, rfl⟩ := q1
    repeat refine kX_one rfl ?_
    refine kX_ialdN rfl rfl (by decide) (c) (by first | rfl | decide) (h1) ?_
    refine kX_iastN rfl rfl (by decide) (mpl _ _ _) rfl (mpl_lt _ _ _) ?_
    iterate 2 (refine kX_one rfl ?_)
    rw [kup_up]
    have hV : V c := h2 c (by omega) (by omega)
    obtain ⟨c, rfl⟩ : ∃ c', c = c' + 1 := ⟨c - 1, by omega⟩
    have := ih (c, upd hd (mpt σ (c + 1)) (σ 243 (c + 1))) ⟨by simp only; omega, by simp only; omega, fun t g1 g2 => h2 t g1 (by simp only at g2; omega), (hcP_congr (fun t => ⟨fun q => ⟨q.1.1, by have := q.1.2; have := q.2; simp only; omega⟩, fun q => ⟨⟨q.1, by have := q.2; simp only at this; omega⟩, by have := q.2; simp only at this; omega⟩⟩) (fun _ _ => rfl) (hcP_pop h3 ⟨hV, Nat.le_refl _⟩ (fun t' q => q.2) h1))⟩ (by simp only; omega)
    rw [← pk_m1] at this
    exact this
