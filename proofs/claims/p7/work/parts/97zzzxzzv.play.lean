/-! alike: play, the class follows -/
/-- the class's RUN is that of G -/
def plC (σ τ G : kS) (S j : Nat) : Prop := (∀ c, c < 181 ∨ 186 ≤ c → τ c = σ c) ∧ τ 181 8 = 1 ∧ τ 181 7 = nI j ∧ τ 181 9 = -1 ∧ (∀ i, i < j → τ 183 i = G 274 i) ∧ (∀ s, s < S → τ 182 (7 * s) = G 264 s ∧ ∀ k, k < 6 → nnI (τ 182 (7 * s + 1 + k)) = G 265 (6 * s + k)) ∧ ∀ s, s < S → ∀ k, k < 6 → σ 17 (7 * s + 1 + k) ≠ -1 → τ 182 (7 * s + 1 + k) = σ 17 (7 * s + 1 + k)
/-- follow, as the class does it -/
def flA (A B F : Nat → Int32) (s base : Nat) (ps : List Nat) : Prop := (∀ p ∈ ps, B (7 * s + 1 + p) = F (base + (7 * s + 1 + p))) ∧ ∀ i, (∀ p ∈ ps, i ≠ 7 * s + 1 + p) → B i = A i
set_option maxRecDepth 100000 in
set_option maxHeartbeats 4000000 in
theorem mf_follow (L : Nat) (xs : Nat → Int32) (d : Nat) (σ : kS) (n R S C s base r dn ev c : Nat) (ps : List Nat) (h : cJ σ n R S C) (hon : σ 181 8 = 1) (hs : s < S) (hb : base + 28 ≤ 16800) (hW : cV σ n S (σ 197) base) (hr : r < R) (hr2 : σ 15 s = nI r) (hev : σ (23 + 35 * r) 5 = nI ev) (hev6 : ev ≤ 6) (hdn : dn < ev) (hat : σ 182 (7 * s) = nI dn) (hb1 : σ (28 + 35 * r + 5 * dn) 4 = nI ps.length) (hb2 : ∀ j (hj : j < ps.length), (ps[j]'hj) < 6 ∧ σ (28 + 35 * r + 5 * dn + 1) j = nI (ps[j]'hj)) (hp6 : ps.length ≤ 6) (hc : c < 24) (hcc : σ 181 7 = nI c) : kXM kT L xs (d + 3) 72 [.ref 181, .int (nI s), .ref 197, .int (nI base)] σ (fun q σ' => q = none ∧ ∃ B, flA (σ 182) B (σ 197) s base ps ∧ σ' = spS (va_up σ 182 B) s c ∧ cJ σ' n R S C) := by
  have hS := h.2.2.1
  have hS4 := hS.1
  have hRo := h.2.1
  have hR4 := hRo.1
  have hr4 : r < 4 := by omega
  have hk6 : dn < 6 := by omega
  have hRu := h.2.2.2.2.2.2.2.2.1
  rcases hRu with hRu | ⟨on1, cnt, hV, hg⟩
  · rw [hon] at hRu
    exact absurd hRu (by decide)
  · have eo : ∀ A e, e < 181 ∨ 186 ≤ e → va_up σ 182 A e = σ e := fun A e he => up_ne (by omega)
    have b1 := ev_b r dn 1 hr4 hk6 (by decide)
    have k77 : ∀ A, cV σ n S A 0 → flA (σ 182) A (σ 197) s base ps → ∀ lv, nk lv = true → ([(0, .ref 181), (1, .int (nI s))] : jL).map (fun q => jl lv q.1) = ([(0, .ref 181), (1, Value.int (nI s))] : jL).map (fun q => some q.2) → kX kT L xs (d + 3) 72 77 lv [] (va_up σ 182 A) (fun q σ' => q = none ∧ ∃ B, flA (σ 182) B (σ 197) s base ps ∧ σ' = spS (va_up σ 182 B) s c ∧ cJ σ' n R S C) := by
      intro A hA hfl lv hk hlv
      refine kX_lv _ hk rfl hlv ?_
      have hJ : cJ (va_up σ 182 A) n R S C := cJ_run h (eo A) (Or.inr ⟨on1, cnt, hA, hg⟩)
      iterate 2 (refine kX_one rfl ?_)
      refine kX_cal (mf_step L xs (d + 1) (va_up σ 182 A) n R S C s c hJ (by rw [up_ne (by decide), hon]; decide) hs hc hcc) rfl (Or.inr rfl) rfl rfl rfl (fun r1 τ q1 => ?_)
      obtain ⟨rfl, s1, s2⟩ := q1
      refine kX_ret (i := .return_) (len := 1) rfl (Or.inr rfl) rfl (⟨rfl, A, hfl, s1, s2⟩)
    unfold kXM
    iterate 6 (refine kX_one rfl ?_)
    refine kX_cal (mf_due L xs d σ n R S 182 28 0 s r ev (fun _ => 0) hRo hS4 hr hr2 hev hs hev6 rfl (by decide) (by decide)) rfl (Or.inr rfl) rfl rfl rfl (fun r1 σ1 q1 => ?_)
    obtain ⟨hq, rfl⟩ := q1
    rw [Nat.zero_add, hat] at hq
    rcases hq with ⟨-, hno⟩ | ⟨k, k1, k2, rfl, hE⟩
    · exact absurd rfl (hno dn hdn)
    · obtain rfl : dn = k := nI_inj k2
      have loop : ∀ q : Nat × (Nat → Int32), (q.1 ≤ ps.length ∧ cV σ n S q.2 0 ∧ flA (σ 182) q.2 (σ 197) s base (ps.take q.1)) → kX kT L xs (d + 3) 72 34 [(6, .int (nI q.1)), (5, .int (nI ps.length)), (4, .ref (28 + 35 * r + 5 * dn)), (0, .ref 181), (1, .int (nI s)), (2, .ref 197), (3, .int (nI base))] [] (va_up σ 182 q.2) (fun q σ' => q = none ∧ ∃ B, flA (σ 182) B (σ 197) s base ps ∧ σ' = spS (va_up σ 182 B) s c ∧ cJ σ' n R S C) := by
        refine kX_while (fun q : Nat × (Nat → Int32) => [(6, .int (nI q.1)), (5, .int (nI ps.length)), (4, .ref (28 + 35 * r + 5 * dn)), (0, .ref 181), (1, .int (nI s)), (2, .ref 197), (3, .int (nI base))]) (fun q => va_up σ 182 q.2) _ (fun q => ps.length - q.1) ?_
        rintro ⟨j, A⟩ ⟨j1, j2, j3, j4⟩ ih
        dsimp only at j1 j2 j3 j4 ih ⊢
        iterate 2 (refine kX_one rfl ?_)
        repeat refine kX_one rfl ?_
        refine kX_if (fun q => ?_) (fun q => ?_)
        · have q := qge q j ps.length
          rw [List.take_of_length_le (by omega)] at j3 j4
          exact k77 A j2 ⟨j3, j4⟩ _ rfl rfl
        · have q := qgeF q j ps.length
          obtain ⟨p1, p2⟩ := hb2 j q
          iterate 5 (refine kX_one rfl ?_)
          refine kX_top (y := nI (7 * s + 1)) (ix7z s) ?_
          iterate 1 (refine kX_one rfl ?_)
          refine kX_getN rfl rfl (kT_ev hr4 hk6) rfl ?_
          iterate 1 (refine kX_one rfl ?_)
          refine kX_ialdV rfl (kT_e1 hr4 hk6 (Or.inl rfl)) (by decide) (j) (by first | rfl | decide) (by omega) ((congrFun (eo A _ (by omega)) j).trans p2) ?_
          iterate 1 (refine kX_one rfl ?_)
          refine kX_top (y := nI (7 * s + 1 + ps[j])) (nI_add (7 * s + 1) ps[j]) ?_
          iterate 8 (refine kX_one rfl ?_)
          refine kX_top (y := nI (base + (7 * s + 1 + ps[j]))) (nI_add base (7 * s + 1 + ps[j])) ?_
          refine kX_ialdN rfl rfl (by decide) (base + (7 * s + 1 + ps[j])) (by first | rfl | decide) (by omega) ?_
          refine kX_iastN rfl rfl (by decide) (7 * s + 1 + ps[j]) (by first | rfl | decide) (by omega) ?_
          iterate 2 (refine kX_one rfl ?_)
          have := ih (j + 1, upd A (7 * s + 1 + ps[j]) (σ 197 (base + (7 * s + 1 + ps[j])))) ⟨q, fun s' k' hs' hk' => by
            simp only
            by_cases e : 0 + 7 * s' + 1 + k' = 7 * s + 1 + ps[j]
            · rw [e, pk_us, show base + (7 * s + 1 + ps[j]) = base + 7 * s + 1 + ps[j] by omega]
              exact hW s ps[j] hs p1
            · rw [pk_un e]
              exact j2 s' k' hs' hk', fun p hp => by
            simp only at hp ⊢
            by_cases e : p = ps[j]
            · rw [e, pk_us]
            · rw [pk_un (by omega)]
              rw [List.take_succ_eq_append_getElem q, List.mem_append, List.mem_singleton] at hp
              exact j3 p (hp.resolve_right e), fun i hi => by
            simp only at hi ⊢
            rw [pk_un (hi ps[j] (by rw [List.take_succ_eq_append_getElem q]; exact List.mem_append_right _ (List.mem_singleton.mpr rfl)))]
            exact j4 i (fun p hp => hi p (by rw [List.take_succ_eq_append_getElem q]; exact List.mem_append_left _ hp))⟩ (by simp only; omega)
          dsimp only at this
          rw [← nI_1] at this
          refine kX_to _ _ rfl rfl rfl ?_ this
          funext c; unfold  va_up; repeat' split
          all_goals first | rfl | omega | (subst_vars; rfl) | (funext j; unfold upd; repeat' split; all_goals first | rfl | omega | (subst_vars; rfl))
      iterate 4 (refine kX_one rfl ?_)
      refine kX_getN rfl rfl (kT_ev hr4 hk6) rfl ?_
      refine kX_top (hb1) ?_
      iterate 3 (refine kX_one rfl ?_)
      refine kX_to _ _ rfl rfl rfl ?_ (loop (0, σ 182) ⟨Nat.zero_le _, hV, fun p hp => absurd hp List.not_mem_nil, fun i _ => rfl⟩)
      funext c; unfold  va_up; repeat' split
      all_goals first | rfl | omega | (subst_vars; rfl) | (funext j; unfold upd; repeat' split; all_goals first | rfl | omega | (subst_vars; rfl))
