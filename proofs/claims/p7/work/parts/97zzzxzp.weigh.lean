/-! alike: canCompose, weigh -/
theorem isB_an {P Q : Prop} (hP : P) : isB (P ∧ Q) = isB Q := isB_iff ⟨fun z => z.2, fun z => ⟨hP, z⟩⟩
section WG
variable {τ : kS} {n u m s : Nat} {l : rwT}
set_option maxRecDepth 100000 in
set_option maxHeartbeats 4000000 in
theorem mf_canCompose (L : Nat) (xs : Nat → Int32) (d : Nat) (t : Nat) (h : iE τ 204 776 n u m l) (ht : t < n) (hg0 : ¬ kGd τ t) (hk3 : τ 2 t ≠ nI 3) (hno : ∀ g, kV n 776 u g → kTv τ g ≠ iT τ s t) (hst : kSt τ n 202 (7 * s + 1) (wV τ s) t) (hch : ∀ p, p < n → (τ 3 t = nI p ∨ τ 4 t = nI p) → ptQ τ n u l s p) : kXM kT L xs (d + 2) 37 [.ref 222, .int (nI t)] τ (fun r σ' => r = some (.int (isB (vmk (kIn τ l) (mA τ) (τ 238) (iT τ s t)))) ∧ τ = σ') := by
  have hn := h.2.1
  have hV := iE_V h
  have hK : isK 204 776 := h.1
  have hni : ¬ kIn τ l (iT τ s t) := fun ⟨g, g1, g2⟩ => hno g (iE_l h g1).1 g2
  unfold kXM
  rcases (hV t (Or.inl ht)).2 with ⟨k, h3, hk, -, -⟩ | ⟨k, x, y, h3, hk, hx, hy, h4, h5, h6, h7⟩ | ⟨k, x, h3, hk, hx, hy, h4, h6⟩
  · refine absurd ?_ hg0
    unfold kGd
    rw [tgd_0 hk h3]
    exact decide_eq_true (fun e => hk3 (hk.trans (by rw [e])))
  · have hxn : x < n := by omega
    have hyn : y < n := by omega
    obtain ⟨hiT, hvs⟩ := kSt_2 (s := s) h hk hx hy (by omega) (by omega) h4 h5 h6 h7
    obtain ⟨hxv, hxc⟩ := hch x hxn (Or.inl hx)
    have hY := hch y hyn (Or.inr hy)
    have hyc := hY.2
    rw [hiT] at hni ⊢
    iterate 4 (refine kX_one rfl ?_)
    refine kX_ialdV rfl rfl (by decide) (t) (by first | rfl | decide) (by omega) (hx) ?_
    iterate 5 (refine kX_one rfl ?_)
    refine kX_ialdV rfl rfl (by decide) (t) (by first | rfl | decide) (by omega) (hy) ?_
    iterate 5 (refine kX_one rfl ?_)
    have two : ∀ k, (k = 4 ∨ k = 5) → ¬ kIn τ l (vnd k (iT τ s x) (some (iT τ s y))) → isB (vmk (kIn τ l) (mA τ) (τ 238) (vnd k (iT τ s x) (some (iT τ s y)))) = isB (vmk (kIn τ l) (mA τ) (τ 238) (iT τ s x) ∧ vmk (kIn τ l) (mA τ) (τ 238) (iT τ s y)) := fun k hk hz => by
      refine isB_iff ?_
      rcases hk with rfl | rfl
      · exact ⟨fun z => z.elim (fun w => absurd w hz) id, Or.inr⟩
      · exact ⟨fun z => z.elim (fun w => absurd w hz) id, Or.inr⟩
    have step45 : (k = 4 ∨ k = 5) → True := fun _ => trivial
    rcases h3 with rfl | rfl | ⟨rfl | rfl, ha⟩
    · rw [two 4 (Or.inl rfl) hni]
      refine kX_ialdV rfl rfl (by decide) (t) (by first | rfl | decide) (by omega) (hk) ?_
      iterate 4 (refine kX_one rfl ?_)
      refine kX_baldV rfl rfl (by decide) (x) (by first | rfl | decide) (by omega) (hxc) ?_
      repeat refine kX_one rfl ?_
      refine kX_if (fun q => ?_) (fun q => ?_)
      · have q : ¬ vmk (kIn τ l) (mA τ) (τ 238) (iT τ s x) := fun z => isB_ne.mpr z (qeq q)
        rw [isB_F (fun z => q z.1)]
        repeat refine kX_one rfl ?_
        refine kX_ret (i := .ireturn) (len := 1) rfl (Or.inr rfl) rfl (⟨rfl, rfl⟩)
      · have q : vmk (kIn τ l) (mA τ) (τ 238) (iT τ s x) := isB_ne.mp (qeqF q)
        rw [isB_an q]
        iterate 3 (refine kX_one rfl ?_)
        refine kX_baldV rfl rfl (by decide) (y) (by first | rfl | decide) (by omega) (hyc) ?_
        repeat refine kX_one rfl ?_
        refine kX_if (fun q2 => ?_) (fun q2 => ?_)
        · rw [isB_F (fun z => isB_ne.mpr z (qeq q2))]
          repeat refine kX_one rfl ?_
          refine kX_ret (i := .ireturn) (len := 1) rfl (Or.inr rfl) rfl (⟨rfl, rfl⟩)
        · rw [isB_T (isB_ne.mp (qeqF q2))]
          repeat refine kX_one rfl ?_
          refine kX_ret (i := .ireturn) (len := 1) rfl (Or.inr rfl) rfl (⟨rfl, rfl⟩)
    · rw [two 5 (Or.inr rfl) hni]
      refine kX_ialdV rfl rfl (by decide) (t) (by first | rfl | decide) (by omega) (hk) ?_
      iterate 4 (refine kX_one rfl ?_)
      refine kX_baldV rfl rfl (by decide) (x) (by first | rfl | decide) (by omega) (hxc) ?_
      repeat refine kX_one rfl ?_
      refine kX_if (fun q => ?_) (fun q => ?_)
      · have q : ¬ vmk (kIn τ l) (mA τ) (τ 238) (iT τ s x) := fun z => isB_ne.mpr z (qeq q)
        rw [isB_F (fun z => q z.1)]
        repeat refine kX_one rfl ?_
        refine kX_ret (i := .ireturn) (len := 1) rfl (Or.inr rfl) rfl (⟨rfl, rfl⟩)
      · have q : vmk (kIn τ l) (mA τ) (τ 238) (iT τ s x) := isB_ne.mp (qeqF q)
        rw [isB_an q]
        iterate 3 (refine kX_one rfl ?_)
        refine kX_baldV rfl rfl (by decide) (y) (by first | rfl | decide) (by omega) (hyc) ?_
        repeat refine kX_one rfl ?_
        refine kX_if (fun q2 => ?_) (fun q2 => ?_)
        · rw [isB_F (fun z => isB_ne.mpr z (qeq q2))]
          repeat refine kX_one rfl ?_
          refine kX_ret (i := .ireturn) (len := 1) rfl (Or.inr rfl) rfl (⟨rfl, rfl⟩)
        · rw [isB_T (isB_ne.mp (qeqF q2))]
          repeat refine kX_one rfl ?_
          refine kX_ret (i := .ireturn) (len := 1) rfl (Or.inr rfl) rfl (⟨rfl, rfl⟩)
    · have e : isB (vmk (kIn τ l) (mA τ) (τ 238) (vnd 6 (iT τ s x) (some (iT τ s y)))) = isB (vmk (kIn τ l) (mA τ) (τ 238) (iT τ s x)) := isB_iff ⟨fun z => z.elim (fun w => absurd w hni) id, Or.inr⟩
      rw [e]
      refine kX_ialdV rfl rfl (by decide) (t) (by first | rfl | decide) (by omega) (hk) ?_
      iterate 4 (refine kX_one rfl ?_)
      refine kX_baldV rfl rfl (by decide) (x) (by first | rfl | decide) (by omega) (hxc) ?_
      refine kX_ret (i := .ireturn) (len := 1) rfl (Or.inr rfl) (jend_b rfl (isB_01 _)) ⟨rfl, rfl⟩
    · obtain ⟨z, z1, z2, z3, z4⟩ := pt_ag h (fun v hv => hst v (by rw [hvs]; exact List.mem_append_right _ hv)) ha hY
      have e : isB (vmk (kIn τ l) (mA τ) (τ 238) (vnd 8 (iT τ s x) (some (iT τ s y)))) = isB (vmk (kIn τ l) (mA τ) (τ 238) (iT τ s x) ∧ kHp τ l z) := by
        refine isB_iff ?_
        rw [z3] at hni ⊢
        rw [kHp_t h (Or.inl z1) z2]
        exact ⟨fun w => w.elim (fun w => absurd w hni) id, Or.inr⟩
      rw [e]
      refine kX_ialdV rfl rfl (by decide) (t) (by first | rfl | decide) (by omega) (hk) ?_
      iterate 4 (refine kX_one rfl ?_)
      refine kX_baldV rfl rfl (by decide) (x) (by first | rfl | decide) (by omega) (hxc) ?_
      repeat refine kX_one rfl ?_
      refine kX_if (fun q => ?_) (fun q => ?_)
      · have q : ¬ vmk (kIn τ l) (mA τ) (τ 238) (iT τ s x) := fun z => isB_ne.mpr z (qeq q)
        rw [isB_F (fun z => q z.1)]
        repeat refine kX_one rfl ?_
        refine kX_ret (i := .ireturn) (len := 1) rfl (Or.inr rfl) rfl (⟨rfl, rfl⟩)
      · have q : vmk (kIn τ l) (mA τ) (τ 238) (iT τ s x) := isB_ne.mp (qeqF q)
        rw [isB_an q]
        iterate 5 (refine kX_one rfl ?_)
        refine kX_ialdV rfl rfl (by decide) (y) (by first | rfl | decide) (by omega) (z4) ?_
        refine kX_cal (mf_hasPriv L xs d τ 204 776 n u m z l h z1 z2) rfl (Or.inr rfl) rfl rfl rfl (fun r1 σ1 q1 => ?_)
        obtain ⟨rfl, rfl⟩ := q1
        by_cases hh : kHp τ l z
        · rw [isB_T hh]
          repeat refine kX_one rfl ?_
          refine kX_ret (i := .ireturn) (len := 1) rfl (Or.inr rfl) rfl (⟨rfl, rfl⟩)
        · rw [isB_F hh]
          repeat refine kX_one rfl ?_
          refine kX_ret (i := .ireturn) (len := 1) rfl (Or.inr rfl) rfl (⟨rfl, rfl⟩)
  · have hxn : x < n := by omega
    obtain ⟨hiT, hvs⟩ := kSt_1 (s := s) h hk hx hy (by omega) (by omega) h4 h6
    have hX := hch x hxn (Or.inl hx)
    have hxc := hX.2
    rw [hiT] at hni ⊢
    iterate 4 (refine kX_one rfl ?_)
    refine kX_ialdV rfl rfl (by decide) (t) (by first | rfl | decide) (by omega) (hx) ?_
    iterate 5 (refine kX_one rfl ?_)
    refine kX_ialdV rfl rfl (by decide) (t) (by first | rfl | decide) (by omega) (hy) ?_
    iterate 5 (refine kX_one rfl ?_)
    rcases h3 with rfl | ⟨rfl, ha⟩
    · have e : isB (vmk (kIn τ l) (mA τ) (τ 238) (vnd 9 (iT τ s x) none)) = isB (vmk (kIn τ l) (mA τ) (τ 238) (iT τ s x)) := isB_iff ⟨fun z => z.elim (fun w => absurd w hni) id, Or.inr⟩
      rw [e]
      refine kX_ialdV rfl rfl (by decide) (t) (by first | rfl | decide) (by omega) (hk) ?_
      iterate 4 (refine kX_one rfl ?_)
      refine kX_baldV rfl rfl (by decide) (x) (by first | rfl | decide) (by omega) (hxc) ?_
      refine kX_ret (i := .ireturn) (len := 1) rfl (Or.inr rfl) (jend_b rfl (isB_01 _)) ⟨rfl, rfl⟩
    · obtain ⟨z, z1, z2, z3, z4⟩ := pt_ag h (fun v hv => hst v (by rw [hvs]; exact List.mem_append_left _ hv)) ha hX
      have e : isB (vmk (kIn τ l) (mA τ) (τ 238) (vnd 7 (iT τ s x) none)) = isB (kHp τ l z) := by
        refine isB_iff ?_
        rw [z3] at hni ⊢
        rw [kHp_t h (Or.inl z1) z2]
        exact ⟨fun w => w.elim (fun w => absurd w hni) Or.inl, fun w => w.elim Or.inr (fun w => absurd w hni)⟩
      rw [e]
      refine kX_ialdV rfl rfl (by decide) (t) (by first | rfl | decide) (by omega) (hk) ?_
      iterate 6 (refine kX_one rfl ?_)
      refine kX_ialdV rfl rfl (by decide) (x) (by first | rfl | decide) (by omega) (z4) ?_
      refine kX_cal (mf_hasPriv L xs d τ 204 776 n u m z l h z1 z2) rfl (Or.inr rfl) rfl rfl rfl (fun r1 σ1 q1 => ?_)
      obtain ⟨rfl, rfl⟩ := q1
      refine kX_ret (i := .ireturn) (len := 1) rfl (Or.inr rfl) (jend_b rfl (isB_01 _)) ⟨rfl, rfl⟩
end WG
