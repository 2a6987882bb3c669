/-! the reference's row -/
/-- how many below m -/
noncomputable def cnt (f : Nat → Prop) : Nat → Nat
  | 0 => 0
  | m + 1 => cnt f m + @ite _ (f m) (Classical.propDecidable _) 1 0
theorem cnt_le (f : Nat → Prop) : ∀ m, cnt f m ≤ m
  | 0 => Nat.le_refl _
  | m + 1 => by
    have := cnt_le f m
    unfold cnt
    split <;> omega
theorem cnt_lt {f : Nat → Prop} {t : Nat} (hf : ¬ f t) : ∀ m, t < m → cnt f m < m
  | 0, h => by omega
  | m + 1, h => by
    unfold cnt
    by_cases e : t = m
    · subst e
      have := cnt_le f t
      rw [if_neg hf]
      omega
    · have := cnt_lt hf m (by omega)
      split <;> omega
theorem cnt_congr {f g : Nat → Prop} : ∀ m, (∀ t, t < m → (f t ↔ g t)) → cnt f m = cnt g m
  | 0, _ => rfl
  | m + 1, h => by
    have h1 := cnt_congr m (fun t ht => h t (by omega))
    have h2 := propext (h m (by omega))
    unfold cnt
    rw [h1, h2]
theorem cnt_add {f g : Nat → Prop} {t : Nat} (hf : ¬ f t) (hg : ∀ u, g u ↔ f u ∨ u = t) : ∀ m, t < m → cnt g m = cnt f m + 1
  | 0, h => by omega
  | m + 1, h => by
    unfold cnt
    by_cases e : t = m
    · subst e
      have h1 : cnt g t = cnt f t := cnt_congr t (fun u hu => by rw [hg u]; exact ⟨fun q => q.elim id (fun q => by omega), Or.inl⟩)
      rw [h1, if_pos ((hg t).mpr (Or.inr rfl)), if_neg hf]
    · have h1 := cnt_add hf hg m (by omega)
      have h2 : g m = f m := propext (by rw [hg m]; exact ⟨fun q => q.elim id (fun q => absurd q.symm e), Or.inl⟩)
      rw [h1, h2]
      omega
abbrev rwT : Type := List (Nat × Int32 × Int32)
def rwI (l : rwT) (t : Nat) : Prop := ∃ q ∈ l, q.1 = t
/-- the row l lies there: TERMS of V, each once -/
def mRq (σ : kS) (V : Nat → Prop) (l : rwT) : Prop := σ 232 46 = nI l.length ∧ (∀ i (h : i < l.length), σ 268 i = nI (l[i]'h).1 ∧ σ 269 i = (l[i]'h).2.1 ∧ σ 270 i = (l[i]'h).2.2) ∧ (∀ t, rwI l t → V t) ∧ (∀ t, t < 1000 → σ 271 t = isB (rwI l t)) ∧ cnt (rwI l) 1000 = l.length
noncomputable def rwA (l : rwT) (t : Nat) (w p : Int32) : rwT := @ite _ (rwI l t) (Classical.propDecidable _) l (l ++ [(t, w, p)])
theorem rwI_app {l : rwT} {t u : Nat} {w p : Int32} : rwI (l ++ [(t, w, p)]) u ↔ rwI l u ∨ u = t := by
  unfold rwI
  constructor
  · rintro ⟨q, hq, rfl⟩
    rcases List.mem_append.mp hq with h | h
    · exact Or.inl ⟨q, h, rfl⟩
    · rw [List.mem_singleton] at h
      subst h
      exact Or.inr rfl
  · rintro (⟨q, hq, rfl⟩ | rfl)
    · exact ⟨q, List.mem_append_left _ hq, rfl⟩
    · exact ⟨(u, w, p), by simp, rfl⟩
/-- contents with another row -/
def mRu (σ : kS) (I R H M : Nat → Int32) (o : Nat → Int32) : kS := va_up (va_up (va_up (va_up (va_up σ 271 I) 268 R) 269 H) 270 M) 232 o
theorem mRq_len {σ : kS} {V : Nat → Prop} {l : rwT} (h : mRq σ V l) : l.length ≤ 1000 := by
  rw [← h.2.2.2.2]
  exact cnt_le _ _
set_option maxRecDepth 100000 in
set_option maxHeartbeats 4000000 in
theorem mr_comes (L : Nat) (xs : Nat → Int32) (d : Nat) (σ : kS) (V : Nat → Prop) (l : rwT) (t : Nat) (w p : Int32) (h : mRq σ V l) (ht : t < 1000) (hv : V t) : kXM kT L xs (d + 1) 178 [.ref 232, .int (nI t), .int w, .int p] σ (fun r σ' => r = none ∧ mRq σ' V (rwA l t w p) ∧ ∃ I R H M, σ' = mRu σ I R H M (upd (σ 232) 46 (nI (rwA l t w p).length))) := by
  obtain ⟨h1, h2, h3, h4, h5⟩ := h
  unfold kXM
  repeat refine kX_one rfl ?_
  refine kX_baldN rfl rfl (by decide) (t) (by first | rfl | decide) (ht) ?_
  rw [h4 t ht]
  repeat refine kX_one rfl ?_
  refine kX_if (fun q => ?_) (fun q => ?_)
  · have q := isB_ne.mp (qne q)
    have e : rwA l t w p = l := if_pos q
    refine kX_ret (i := .return_) (len := 1) rfl (Or.inr rfl) rfl ⟨rfl, ?_, σ 271, σ 268, σ 269, σ 270, ?_⟩
    · rw [e]
      exact ⟨h1, h2, h3, h4, h5⟩
    · rw [e]
      funext c; unfold mRu va_up; repeat' split
      all_goals first | rfl | (next e => subst e; rfl) | skip
      all_goals (next e => subst e; funext j; unfold upd; split; (· next e2 => rw [e2]; exact h1); (· rfl))
  · have q : ¬ rwI l t := fun hh => isB_ne.mpr hh (qneF q)
    have e : rwA l t w p = l ++ [(t, w, p)] := if_neg q
    have hlen : l.length < 1000 := by
      rw [← h5]
      exact cnt_lt q _ ht
    repeat refine kX_one rfl ?_
    refine kX_bastN rfl rfl (by decide) (t) (by first | rfl | decide) (ht) (Or.inr rfl) ?_
    repeat refine kX_one rfl ?_
    refine kX_iastN rfl rfl (by decide) l.length h1 hlen ?_
    repeat refine kX_one rfl ?_
    refine kX_iastN rfl rfl (by decide) l.length h1 hlen ?_
    repeat refine kX_one rfl ?_
    refine kX_iastN rfl rfl (by decide) l.length h1 hlen ?_
    repeat refine kX_one rfl ?_
    refine kX_ret (i := .return_) (len := 1) rfl (Or.inr rfl) rfl ⟨rfl, ?_, upd (σ 271) t 1, upd (σ 268) l.length (nI t), upd (σ 269) l.length w, upd (σ 270) l.length p, ?_⟩
    · rw [e]
      refine ⟨?_, fun i hi => ?_, fun u hu => ?_, fun u hu => ?_, ?_⟩
      · rw [List.length_append]
        show σ 232 46 + Int32.ofInt 1 = nI (l.length + 1)
        rw [h1]
        exact nI_1 _
      · rw [List.length_append] at hi
        simp only [List.length_cons, List.length_nil] at hi
        by_cases ei : i = l.length
        · subst ei
          refine ⟨?_, ?_, ?_⟩
          · show upd (σ 268) l.length (nI t) l.length = _
            rw [pk_us]
            simp
          · show upd (σ 269) l.length w l.length = _
            rw [pk_us]
            simp
          · show upd (σ 270) l.length p l.length = _
            rw [pk_us]
            simp
        · have hil : i < l.length := by omega
          rw [List.getElem_append_left hil]
          refine ⟨?_, ?_, ?_⟩
          · show upd (σ 268) l.length (nI t) i = _
            rw [pk_un ei]
            exact (h2 i hil).1
          · show upd (σ 269) l.length w i = _
            rw [pk_un ei]
            exact (h2 i hil).2.1
          · show upd (σ 270) l.length p i = _
            rw [pk_un ei]
            exact (h2 i hil).2.2
      · rcases rwI_app.mp hu with hu | rfl
        · exact h3 u hu
        · exact hv
      · show upd (σ 271) t (Int32.ofInt 1) u = _
        by_cases eu : u = t
        · subst eu
          rw [pk_us, isB_T (rwI_app.mpr (Or.inr rfl))]
          rfl
        · rw [pk_un eu, h4 u hu]
          have : rwI (l ++ [(t, w, p)]) u ↔ rwI l u := by
            rw [rwI_app]
            exact ⟨fun q => q.elim id (fun q => absurd q eu), Or.inl⟩
          rw [propext this]
      · rw [cnt_add (t := t) q (fun u => rwI_app) 1000 ht, h5, List.length_append]
        rfl
    · rw [e, List.length_append]
      have e1 : nI (l.length + [(t, w, p)].length) = σ 232 46 + Int32.ofInt 1 := by
        rw [h1]
        exact (nI_1 _).symm
      rw [e1]
      rfl
