/-! alike: comesToBe, a STATE is noted -/
/-- the session s has done all -/
def adN (σ : kS) (s : Nat) : Prop := σ 264 s = σ 247 (fN (σ 255 s))
set_option maxRecDepth 100000 in
set_option maxHeartbeats 4000000 in
theorem mf_ce_copy (L : Nat) (xs : Nat → Int32) (d : Nat) (σ : kS) (n R S N : Nat) (hS : mSe σ n R S) (hR : R ≤ 4) (hN : σ 232 69 = nI N) (hN6 : N < 600) (x y : Int32) (Q : Option Value → kS → Prop)
    (he : ∀ SD SV (P : Prop), (P ↔ ∀ s, s < S → adN σ s) → ceI σ N S SD SV → kX kT L xs (d + 1) 213 146 [(3, .int (isB P)), (0, .ref 232), (1, .int x), (2, .int y)] [] (ceS σ SD SV) Q) :
    ∀ q : Nat × Prop × (Nat → Int32) × (Nat → Int32), (q.1 ≤ S ∧ (q.2.1 ↔ ∀ s, s < q.1 → adN σ s) ∧ ceI σ N q.1 q.2.2.1 q.2.2.2) → kX kT L xs (d + 1) 213 28 [(4, .int (nI q.1)), (3, .int (isB q.2.1)), (0, .ref 232), (1, .int x), (2, .int y)] [] (ceS σ q.2.2.1 q.2.2.2) Q := by
  have hS4 := hS.1
  refine kX_while (fun q : Nat × Prop × (Nat → Int32) × (Nat → Int32) => [(4, .int (nI q.1)), (3, .int (isB q.2.1)), (0, .ref 232), (1, .int x), (2, .int y)]) (fun q => ceS σ q.2.2.1 q.2.2.2) _ (fun q => S - q.1) ?_
  rintro ⟨s, P, SD, SV⟩ ⟨i1, i0, i2, i3, i4, i5⟩ ih
  dsimp only at i1 i0 i2 i3 i4 i5 ih ⊢
  iterate 3 (refine kX_one rfl ?_)
  refine kX_top (hS.2.1) ?_
  repeat refine kX_one rfl ?_
  refine kX_if (fun q => ?_) (fun q => ?_)
  · have q := qge q s S
    obtain rfl : s = S := by omega
    exact kX_lv _ rfl rfl rfl (he SD SV P i0 ⟨i2, i3, i4, i5⟩)
  · have q := qgeF q s S
    obtain ⟨r, r1, r2, -⟩ := hS.2.2 s q
    have k89 : ∀ P' : Prop, (P' ↔ ∀ s', s' < s + 1 → adN σ s') → kX kT L xs (d + 1) 213 89 [(4, .int (nI s)), (3, .int (isB P)), (0, .ref 232), (1, .int x), (2, .int y)] [.int (isB P')] (ceS σ (upd SD (4 * N + s) (σ 264 s)) SV) Q := by
      intro P' hP'
      iterate 3 (refine kX_one rfl ?_)
      have := mr_ce_in L xs d σ N s hN hN6 (by omega) x y P' (upd SD (4 * N + s) (σ 264 s)) Q (fun SV' h' => by
        iterate 2 (refine kX_one rfl ?_)
        have := ih (s + 1, P', upd SD (4 * N + s) (σ 264 s), SV') ⟨q, hP', h'⟩ (by simp only; omega)
        dsimp only at this
        rw [← nI_1] at this
        exact kX_lv _ rfl rfl rfl this) (0, SV) ⟨Nat.zero_le _, fun j hj => by
          rw [pk_un (by omega)]
          exact i2 j hj, fun u hu => by
          by_cases e : u = s
          · subst e
            exact pk_us
          · rw [pk_un (by omega)]
            exact i3 u (by omega), i4, i5, fun k hk => absurd hk (Nat.not_lt_zero k)⟩
      exact kX_lv _ rfl rfl rfl this
    iterate 5 (refine kX_one rfl ?_)
    refine kX_top (hN) ?_
    iterate 6 (refine kX_one rfl ?_)
    refine kX_ialdN rfl rfl (by decide) (s) (by first | rfl | decide) (by omega) ?_
    refine kX_iastN rfl rfl (by decide) (4 * N + s) (ix4 N s) (by omega) ?_
    refine kX_to [(4, .int (nI s)), (3, .int (isB P)), (0, .ref 232), (1, .int x), (2, .int y)] (ceS σ (upd SD (4 * N + s) (σ 264 s)) SV) rfl rfl rfl ?_ ?_
    · funext c; unfold ceS va_up; repeat' split
      all_goals first | rfl | omega | (subst_vars; rfl) | (funext j; unfold upd; repeat' split; all_goals first | rfl | omega | (subst_vars; rfl))
    have hfr : fN (σ 255 s) = r := by rw [r2]; exact fN_nI (by omega)
    repeat refine kX_one rfl ?_
    refine kX_if (fun q2 => ?_) (fun q2 => ?_)
    · have q2 : ¬ P := fun w => isB_ne.mpr w (qeq q2)
      iterate 1 (refine kX_one rfl ?_)
      have := k89 False ⟨fun w => w.elim, fun w => q2 (i0.mpr (fun s' hs' => w s' (by omega)))⟩
      rw [isB_F (fun z => z)] at this
      exact this
    · have q2 : P := isB_ne.mp (qeqF q2)
      have hbe := i0.mp q2
      iterate 3 (refine kX_one rfl ?_)
      refine kX_ialdN rfl rfl (by decide) (s) (by first | rfl | decide) (by omega) ?_
      iterate 5 (refine kX_one rfl ?_)
      refine kX_ialdV rfl rfl (by decide) (s) (by first | rfl | decide) (by omega) (r2) ?_
      refine kX_ialdN rfl rfl (by decide) (r) (by first | rfl | decide) (by omega) ?_
      repeat refine kX_one rfl ?_
      refine kX_if (fun q3 => ?_) (fun q3 => ?_)
      · have q3 : σ 264 s ≠ σ 247 r := qne q3
        iterate 1 (refine kX_one rfl ?_)
        have := k89 False ⟨fun w => w.elim, fun w => by have w2 := w s (by omega); unfold adN at w2; rw [hfr] at w2; exact q3 w2⟩
        rw [isB_F (fun z => z)] at this
        exact this
      · have q3 : σ 264 s = σ 247 r := qneF q3
        iterate 2 (refine kX_one rfl ?_)
        have := k89 True ⟨fun _ s' hs' => by
          by_cases e : s' = s
          · subst e
            unfold adN
            rw [hfr]
            exact q3
          · exact hbe s' (by omega), fun _ => trivial⟩
        rw [isB_T trivial] at this
        exact this
