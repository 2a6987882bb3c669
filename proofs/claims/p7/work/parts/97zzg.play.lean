/-! the class: play -/
set_option maxRecDepth 100000 in
set_option maxHeartbeats 4000000 in
theorem mc_follow (L : Nat) (xs : Nat → Int32) (d : Nat) (σ : kS) (n R S C s base : Nat) (h : cJ σ n R S C) (hon : σ 181 8 ≠ 0) (hs : s < S) (hb : base + 28 ≤ 16800) (hW : cV σ n S (σ 197) base) : kXM kT L xs (d + 3) 72 [.ref 181, .int (nI s), .ref 197, .int (nI base)] σ (fun q σ' => q = none ∧ rnP σ σ' n R S C) := by
  have hS := h.2.2.1
  have hS4 := hS.1
  have hRo := h.2.1
  have hRu := h.2.2.2.2.2.2.2.2.1
  rcases hRu with hRu | ⟨on1, cnt, hV, hg⟩
  · exact absurd hRu hon
  · have eo : ∀ A e, e < 181 ∨ 186 ≤ e → va_up σ 182 A e = σ e := fun A e he => up_ne (by omega)
    have k77 : ∀ A, cV σ n S A 0 → ∀ lv, nk lv = true → ([(0, .ref 181), (1, .int (nI s))] : jL).map (fun q => jl lv q.1) = ([(0, .ref 181), (1, Value.int (nI s))] : jL).map (fun q => some q.2) → kX kT L xs (d + 3) 72 77 lv [] (va_up σ 182 A) (fun q σ' => q = none ∧ rnP σ σ' n R S C) := by
      intro A hA lv hk hlv
      refine kX_lv _ hk rfl hlv ?_
      have hJ : cJ (va_up σ 182 A) n R S C := cJ_run h (eo A) (Or.inr ⟨on1, cnt, hA, hg⟩)
      iterate 2 (refine kX_one rfl ?_)
      refine kX_cal (mc_step L xs (d + 1) (va_up σ 182 A) n R S C s hJ hon hs) rfl (Or.inr rfl) rfl rfl rfl (fun r1 τ q1 => ?_)
      obtain ⟨rfl, s1, s2, s3, s4⟩ := q1
      refine kX_ret (i := .return_) (len := 1) rfl (Or.inr rfl) rfl (⟨rfl, cHi_trans (cHi_run (eo A)) s1, s2, s3, fun c hc => (s4 c hc).trans (eo A c hc)⟩)
    unfold kXM
    iterate 6 (refine kX_one rfl ?_)
    refine kX_cal (mc_due L xs d σ n R S 182 28 0 s (fun _ => 0) hRo hS4 hS.2.2.1 hs rfl (by decide) (by decide)) rfl (Or.inr rfl) rfl rfl rfl (fun r1 σ1 q1 => ?_)
    obtain ⟨hq, rfl⟩ := q1
    rcases hq with rfl | ⟨r, k, hr4, hk6, rfl, hE⟩
    · iterate 11 (refine kX_one rfl ?_)
      refine kX_to _ _ rfl rfl rfl ?_ (k77 (σ 182) hV [(0, .ref 181), (1, .int (nI s))] rfl rfl)
      funext c; unfold  va_up; repeat' split
      all_goals first | rfl | omega | (subst_vars; rfl) | (funext j; unfold upd; repeat' split; all_goals first | rfl | omega | (subst_vars; rfl))
    · have b1 := ev_b r k 1 hr4 hk6 (by decide)
      obtain ⟨t, m, qq, t1, m6, -, t2, m2, -, bd, -⟩ := hE
      have loop : ∀ q : Nat × (Nat → Int32), (q.1 ≤ m ∧ cV σ n S q.2 0) → kX kT L xs (d + 3) 72 34 [(6, .int (nI q.1)), (5, .int (nI m)), (4, .ref (28 + 35 * r + 5 * k)), (0, .ref 181), (1, .int (nI s)), (2, .ref 197), (3, .int (nI base))] [] (va_up σ 182 q.2) (fun q σ' => q = none ∧ rnP σ σ' n R S C) := by
        refine kX_while (fun q : Nat × (Nat → Int32) => [(6, .int (nI q.1)), (5, .int (nI m)), (4, .ref (28 + 35 * r + 5 * k)), (0, .ref 181), (1, .int (nI s)), (2, .ref 197), (3, .int (nI base))]) (fun q => va_up σ 182 q.2) _ (fun q => m - q.1) ?_
        rintro ⟨j, A⟩ ⟨j1, j2⟩ ih
        dsimp only at j1 j2 ih ⊢
        iterate 2 (refine kX_one rfl ?_)
        repeat refine kX_one rfl ?_
        refine kX_if (fun q => ?_) (fun q => ?_)
        · exact k77 A j2 _ rfl rfl
        · have q := qgeF q j m
          obtain ⟨⟨p, p1, p2⟩, -⟩ := bd j q
          iterate 5 (refine kX_one rfl ?_)
          refine kX_top (y := nI (7 * s + 1)) (ix7z s) ?_
          iterate 1 (refine kX_one rfl ?_)
          refine kX_getN rfl rfl (kT_ev hr4 hk6) rfl ?_
          iterate 1 (refine kX_one rfl ?_)
          refine kX_ialdV rfl (kT_e1 hr4 hk6 (Or.inl rfl)) (by decide) (j) (by first | rfl | decide) (by omega) ((congrFun (eo A _ (by omega)) j).trans p2) ?_
          iterate 1 (refine kX_one rfl ?_)
          refine kX_top (y := nI (7 * s + 1 + p)) (nI_add (7 * s + 1) p) ?_
          iterate 8 (refine kX_one rfl ?_)
          refine kX_top (y := nI (base + (7 * s + 1 + p))) (nI_add base (7 * s + 1 + p)) ?_
          refine kX_ialdN rfl rfl (by decide) (base + (7 * s + 1 + p)) (by first | rfl | decide) (by omega) ?_
          refine kX_iastN rfl rfl (by decide) (7 * s + 1 + p) (by first | rfl | decide) (by omega) ?_
          iterate 2 (refine kX_one rfl ?_)
          have := ih (j + 1, upd A (7 * s + 1 + p) (σ 197 (base + (7 * s + 1 + p)))) ⟨q, fun s' k' hs' hk' => by
            simp only
            by_cases e : 0 + 7 * s' + 1 + k' = 7 * s + 1 + p
            · rw [e, pk_us, show base + (7 * s + 1 + p) = base + 7 * s + 1 + p by omega]
              exact hW s p hs p1
            · rw [pk_un e]
              exact j2 s' k' hs' hk'⟩ (by simp only; omega)
          dsimp only at this
          rw [← nI_1] at this
          refine kX_to _ _ rfl rfl rfl ?_ this
          funext c; unfold  va_up; repeat' split
          all_goals first | rfl | omega | (subst_vars; rfl) | (funext j; unfold upd; repeat' split; all_goals first | rfl | omega | (subst_vars; rfl))
      iterate 4 (refine kX_one rfl ?_)
      refine kX_getN rfl rfl (kT_ev hr4 hk6) rfl ?_
      refine kX_top (m2) ?_
      iterate 3 (refine kX_one rfl ?_)
      refine kX_to _ _ rfl rfl rfl ?_ (loop (0, σ 182) ⟨Nat.zero_le _, hV⟩)
      funext c; unfold  va_up; repeat' split
      all_goals first | rfl | omega | (subst_vars; rfl) | (funext j; unfold upd; repeat' split; all_goals first | rfl | omega | (subst_vars; rfl))
