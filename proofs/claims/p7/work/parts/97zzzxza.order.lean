/-! alike: findOrder -/
abbrev mtv (σ : kS) (t : Nat) : Jvm.Term := tvl (σ 233) (σ 234) (σ 235) t
/-- a tree that has a number -/
def numN (σ : kS) (n : Nat) (g : Jvm.Term) : Prop := ∃ t, t < n ∧ mtv σ t = g
/-- what findOrder still has to do -/
def foF (σ : kS) (n t : Nat) (sk l : List Nat) : Prop := fiT (numN σ n) (sk.map (mtv σ)) (l.map (mtv σ)) = poT (numN σ n) (mtv σ t) []
section FOF
variable {σ : kS} {n b : Nat}
theorem mtv_inj (h : mTb σ n b) {t u : Nat} (ht : mv n b t) (hu : mv n b u) (e : mtv σ t = mtv σ u) : t = u := tvl_inj h.2.2.2.2.2.1.1 h.2.2.2.2.2.1.2.2 t u ht hu e
theorem numN_hi (h : mTb σ n b) {x : Nat} (x1 : 200 ≤ x) (x2 : x < b) : ¬ numN σ n (mtv σ x) := fun ⟨t, t1, t2⟩ => by
  have := mtv_inj h (Or.inl t1) (Or.inr ⟨x1, x2⟩) t2
  have := h.1
  omega
theorem mem_tv (h : mTb σ n b) {l : List Nat} {x : Nat} (hx : mv n b x) (h1 : ∀ y ∈ l, 200 ≤ y) (h2 : ∀ y ∈ l, y < b) (hm : mtv σ x ∈ l.map (mtv σ)) : x ∈ l := by
  obtain ⟨y, y1, y2⟩ := List.mem_map.mp hm
  have := mtv_inj h (Or.inr ⟨h1 y y1, h2 y y1⟩) hx y2
  exact this ▸ y1
theorem tv_self (h : mTb σ n b) {y : Nat} (hy : mv n b y) (l : List Jvm.Term) : numN σ n (mtv σ y) ∨ mtv σ y ∈ poT (numN σ n) (mtv σ y) l := by
  by_cases q : y < n
  · exact Or.inl ⟨y, q, rfl⟩
  · have hy2 : 200 ≤ y ∧ y < b := by unfold mv at hy; omega
    have hk := h.2.2.2.2.2.2.2.2.1 y hy2.1 hy2.2
    have hV := h.2.2.2.2.2.1.1
    rcases (hV y hy).2 with ⟨k, h3, hk', -, -⟩ | ⟨k, p, z, h3, hk', hp, hz, h4, h5, h6, h7⟩ | ⟨k, p, h3, hk', hp, hz, h4, h6⟩
    · rw [hk', fN_nI (by omega)] at hk
      omega
    · unfold mtv
      rw [tvl_2 hV hk' hp hz (by omega) (by omega) h4 h5 h6 h7]
      exact poT_self2 (by omega) _ _ _
    · unfold mtv
      rw [tvl_1 hV hk' hp hz (by omega) (by omega) h4 h6]
      exact poT_self1 (by omega) _ _
/-- x of the stretch: what it is of -/
theorem tv_of (h : mTb σ n b) {x : Nat} (x1 : 200 ≤ x) (x2 : x < b) : (∃ k p z, (k = 4 ∨ k = 5 ∨ k = 6 ∨ k = 8) ∧ σ 234 x = nI p ∧ σ 235 x = nI z ∧ p < x ∧ z < x ∧ mv n b p ∧ mv n b z ∧ mtv σ x = vnd k (mtv σ p) (some (mtv σ z))) ∨ ∃ k p, (k = 7 ∨ k = 9) ∧ σ 234 x = nI p ∧ σ 235 x = -1 ∧ p < x ∧ mv n b p ∧ mtv σ x = vnd k (mtv σ p) none := by
  have hk := h.2.2.2.2.2.2.2.2.1 x x1 x2
  have hV := h.2.2.2.2.2.1.1
  rcases (hV x (Or.inr ⟨x1, x2⟩)).2 with ⟨k, h3, hk', -, -⟩ | ⟨k, p, z, h3, hk', hp, hz, h4, h5, h6, h7⟩ | ⟨k, p, h3, hk', hp, hz, h4, h6⟩
  · rw [hk', fN_nI (by omega)] at hk
    omega
  · exact Or.inl ⟨k, p, z, by omega, hp, hz, h4, h5, h6, h7, tvl_2 hV hk' hp hz (by omega) (by omega) h4 h5 h6 h7⟩
  · exact Or.inr ⟨k, p, by omega, hp, hz, h4, h6, tvl_1 hV hk' hp hz (by omega) (by omega) h4 h6⟩
theorem foF_1 (h : mTb σ n b) {t x z : Nat} {s l : List Nat} (hX : foF σ n t (s ++ [x]) l) (x1 : 200 ≤ x) (x2 : x < b) (x4 : x ∉ l) (l1 : ∀ y ∈ l, 200 ≤ y) (l2 : ∀ y ∈ l, y < b) (z2 : z < x) (z5 : σ 234 x = nI z) : foF σ n t (s ++ [x] ++ [z]) l := by
  have hb1 := h.2.2.1
  have hN := numN_hi h x1 x2
  have hM : mtv σ x ∉ l.map (mtv σ) := fun q => x4 (mem_tv h (Or.inr ⟨x1, x2⟩) l1 l2 q)
  unfold foF at hX ⊢
  rw [List.map_append, List.map_singleton, fiT_snoc] at hX ⊢
  rw [List.map_append, List.map_singleton, fiT_snoc, ← hX]
  refine congrArg (fiT _ _) ?_
  rcases tv_of h x1 x2 with ⟨k, p, y, hk, hp, hy, h4, h5, h6, h7, e⟩ | ⟨k, p, hk, hp, hy, h4, h6, e⟩
  · obtain rfl : p = z := nI_inj (hp.symm.trans z5)
    rw [e] at hN hM ⊢
    exact po_push1 hk hN hM (tv_self h h6 _)
  · obtain rfl : p = z := nI_inj (hp.symm.trans z5)
    rw [e] at hN hM ⊢
    exact po_pushA hk hN hM (tv_self h h6 _)
/-- what is not open -/
theorem tv_cl (h : mTb σ n b) {p : Nat} {l : List Nat} (hp : mv n b p) (hc : 200 ≤ p → p ∈ l) : numN σ n (mtv σ p) ∨ mtv σ p ∈ l.map (mtv σ) := by
  by_cases q : p < n
  · exact Or.inl ⟨p, q, rfl⟩
  · exact Or.inr (List.mem_map.mpr ⟨p, hc (by unfold mv at hp; omega), rfl⟩)
theorem foF_2 (h : mTb σ n b) {t x z : Nat} {s l : List Nat} (hX : foF σ n t (s ++ [x]) l) (x1 : 200 ≤ x) (x2 : x < b) (x4 : x ∉ l) (l1 : ∀ y ∈ l, 200 ≤ y) (l2 : ∀ y ∈ l, y < b) (hfi : ∀ y, 200 ≤ y → σ 234 x = nI y → y < 1000 → y ∈ l) (z2 : z < x) (z5 : σ 235 x = nI z) : foF σ n t (s ++ [x] ++ [z]) l := by
  have hb1 := h.2.2.1
  have hN := numN_hi h x1 x2
  have hM : mtv σ x ∉ l.map (mtv σ) := fun q => x4 (mem_tv h (Or.inr ⟨x1, x2⟩) l1 l2 q)
  unfold foF at hX ⊢
  rw [List.map_append, List.map_singleton, fiT_snoc] at hX ⊢
  rw [List.map_append, List.map_singleton, fiT_snoc, ← hX]
  refine congrArg (fiT _ _) ?_
  rcases tv_of h x1 x2 with ⟨k, p, y, hk, hp, hy, h4, h5, h6, h7, e⟩ | ⟨k, p, hk, hp, hy, h4, h6, e⟩
  · obtain rfl : y = z := nI_inj (hy.symm.trans z5)
    rw [e] at hN hM ⊢
    exact po_push2 hk hN hM (tv_cl h h6 (fun q => hfi p q hp (by omega))) (tv_self h h7 _)
  · exact absurd (z5.symm.trans hy) (nI_m1 (by omega))
theorem foF_o (h : mTb σ n b) {t x : Nat} {s l : List Nat} (hX : foF σ n t (s ++ [x]) l) (x1 : 200 ≤ x) (x2 : x < b) (x4 : x ∉ l) (l1 : ∀ y ∈ l, 200 ≤ y) (l2 : ∀ y ∈ l, y < b) (hcl : ∀ y, 200 ≤ y → (σ 234 x = nI y ∨ σ 235 x = nI y) → y < 1000 → y ∈ l) : foF σ n t s (l ++ [x]) := by
  have hb1 := h.2.2.1
  have hN := numN_hi h x1 x2
  have hM : mtv σ x ∉ l.map (mtv σ) := fun q => x4 (mem_tv h (Or.inr ⟨x1, x2⟩) l1 l2 q)
  unfold foF at hX ⊢
  rw [List.map_append, List.map_singleton, fiT_snoc] at hX
  rw [List.map_append, List.map_singleton, ← hX]
  refine congrArg (fiT _ _) ?_
  rcases tv_of h x1 x2 with ⟨k, p, y, hk, hp, hy, h4, h5, h6, h7, e⟩ | ⟨k, p, hk, hp, hy, h4, h6, e⟩
  · rw [e] at hN hM ⊢
    exact (po_ord2 hk hN hM (tv_cl h h6 (fun q => hcl p q (Or.inl hp) (by omega))) (tv_cl h h7 (fun q => hcl y q (Or.inr hy) (by omega)))).symm
  · rw [e] at hN hM ⊢
    exact (po_ord1 hk hN hM (tv_cl h h6 (fun q => hcl p q (Or.inl hp) (by omega)))).symm
end FOF
set_option maxRecDepth 100000 in
set_option maxHeartbeats 4000000 in
theorem mf_fo_loop (L : Nat) (xs : Nat → Int32) (d : Nat) (σ : kS) (n b t : Nat) (h : mTb σ n b) (hb : b ≤ 776) (tv : Int32) (Q : Option Value → kS → Prop)
    (he : ∀ l W I O, lst O l → foL σ b l → t ∈ l → foF σ n t [] l → kX kT L xs (d + 2) 199 169 [(0, .ref 232), (1, .int tv)] [] (foS σ W I O (nI l.length)) Q) :
    ∀ q : List Nat × List Nat × (Nat → Int32) × (Nat → Int32) × (Nat → Int32), (foI σ b t q.1 q.2.1 q.2.2.1 q.2.2.2.1 q.2.2.2.2 ∧ foF σ n t q.1 q.2.1) → kX kT L xs (d + 2) 199 39 [(2, .int (nI q.1.length)), (0, .ref 232), (1, .int tv)] [] (foS σ q.2.2.1 q.2.2.2.1 q.2.2.2.2 (nI q.2.1.length)) Q := by
  refine kX_while (fun q : List Nat × List Nat × (Nat → Int32) × (Nat → Int32) × (Nat → Int32) => [(2, .int (nI q.1.length)), (0, .ref 232), (1, .int tv)]) (fun q => foS σ q.2.2.1 q.2.2.2.1 q.2.2.2.2 (nI q.2.1.length)) _ (fun q => 2 * (1000 - q.2.1.length) + (1000 - q.1.length)) ?_
  rintro ⟨sk, l, W, I, O⟩ ⟨hI, hX⟩ ih
  dsimp only at hI hX ih ⊢
  have hlk := foI_len hI hb
  have hll := foL_len hI.2.2.2.2.2.2.1 hb
  rcases snoc_cases sk with rfl | ⟨s, x, rfl⟩
  · iterate 2 (refine kX_one rfl ?_)
    exact kX_lv _ rfl rfl rfl (he l W I O hI.2.1 hI.2.2.2.2.2.2.1 (hI.2.2.2.2.2.2.2.elim (fun q => (by cases q)) id) hX)
  · obtain ⟨w1, -⟩ := lst_pop hI.1
    obtain ⟨x1, x2, x3, x4⟩ := hI.2.2.1 x (by simp)
    have hV := h.2.2.2.2.2.1.1
    have hkx := h.2.2.2.2.2.2.2.2.1 x x1 x2
    have hsl : (s ++ [x]).length = s.length + 1 := by simp
    have hx0 : I x = 0 := by rw [hI.2.2.2.2.2.1 x x1 x2, isB_F x4]
    have hback : ∀ (sk' l' : List Nat) (W' I' O' : Nat → Int32) (τ : kS), (foI σ b t sk' l' W' I' O' ∧ foF σ n t sk' l') → τ = foS σ W' I' O' (nI l'.length) → 2 * (1000 - l'.length) + (1000 - sk'.length) < 2 * (1000 - l.length) + (1000 - (s ++ [x]).length) → ∀ lv, nk lv = true → ([(2, Value.int (nI sk'.length)), (0, .ref 232), (1, .int tv)] : jL).map (fun q => jl lv q.1) = ([(2, Value.int (nI sk'.length)), (0, .ref 232), (1, .int tv)] : jL).map (fun q => some q.2) → kX kT L xs (d + 2) 199 166 lv [] τ Q := by
      intro sk' l' W' I' O' τ j1 e j2 lv hk hlv
      refine kX_lv _ hk rfl hlv ?_
      rw [e]
      iterate 1 (refine kX_one rfl ?_)
      exact ih (sk', l', W', I', O') j1 j2
    have hpush : ∀ y, 200 ≤ y → y < x → tsz (σ 233) (σ 234) (σ 235) y ≤ 24 → I y = 0 → foI σ b t (s ++ [x] ++ [y]) l (upd W (s.length + 1) (nI y)) I O := by
      intro y y1 y2 y3 y4
      rw [← hsl]
      refine foI_push hI y1 y2 y3 (fun hh => ?_)
      rw [hI.2.2.2.2.2.1 y y1 (by omega), isB_T hh] at y4
      exact absurd y4 (by decide)
    have k136 : (∀ y, 200 ≤ y → (σ 234 x = nI y ∨ σ 235 x = nI y) → y < 1000 → y ∈ l) → kX kT L xs (d + 2) 199 136 [(3, .int (nI x)), (2, .int (nI (s.length + 1))), (0, .ref 232), (1, .int tv)] [] (foS σ W I O (nI l.length)) Q := by
      intro hcl
      iterate 4 (refine kX_one rfl ?_)
      refine kX_bastN rfl rfl (by decide) (x) (by first | rfl | decide) (by omega) (Or.inr rfl) ?_
      iterate 5 (refine kX_one rfl ?_)
      refine kX_iastN rfl rfl (by decide) (l.length) (by first | rfl | decide) (by omega) ?_
      iterate 7 (refine kX_one rfl ?_)
      refine hback s (l ++ [x]) W (upd I x 1) (upd O l.length (nI x)) _ ⟨foI_ord hI (by omega) hcl, foF_o h hX x1 x2 x4 (fun y hy => (hI.2.2.2.2.2.2.1.1 y hy).1) (fun y hy => (hI.2.2.2.2.2.2.1.1 y hy).2.1) hcl⟩ ?_ (by simp; omega) _ rfl ?_
      · rw [show (l ++ [x]).length = l.length + 1 by simp, ← nI_1]
        funext c; unfold foS va_up; repeat' split
        all_goals first | rfl | omega | (subst_vars; rfl) | (funext j; unfold upd; repeat' split; all_goals first | rfl | omega | (subst_vars; rfl))
      · rw [show nI s.length = nI (s.length + 1) + Int32.ofInt (-1) from (pk_m1 _).symm]
        rfl
    have k118 : ∀ z, 200 ≤ z → z < x → tsz (σ 233) (σ 234) (σ 235) z ≤ 24 → I z = 0 → σ 235 x = nI z → (∀ y, 200 ≤ y → σ 234 x = nI y → y < 1000 → y ∈ l) → kX kT L xs (d + 2) 199 118 [(3, .int (nI x)), (2, .int (nI (s.length + 1))), (0, .ref 232), (1, .int tv)] [] (foS σ W I O (nI l.length)) Q := by
      intro z z1 z2 z3 z4 z5 hfi
      iterate 6 (refine kX_one rfl ?_)
      refine kX_ialdV rfl rfl (by decide) (x) (by first | rfl | decide) (by omega) (z5) ?_
      refine kX_iastN rfl rfl (by decide) (s.length + 1) (by first | rfl | decide) (by omega) ?_
      iterate 2 (refine kX_one rfl ?_)
      refine hback (s ++ [x] ++ [z]) l (upd W (s.length + 1) (nI z)) I O _ ⟨hpush z z1 z2 z3 z4, foF_2 h hX x1 x2 x4 (fun y hy => (hI.2.2.2.2.2.2.1.1 y hy).1) (fun y hy => (hI.2.2.2.2.2.2.1.1 y hy).2.1) hfi z2 z5⟩ ?_ (by simp; omega) _ rfl ?_
      · funext c; unfold foS va_up; repeat' split
        all_goals first | rfl | omega | (subst_vars; rfl) | (funext j; unfold upd; repeat' split; all_goals first | rfl | omega | (subst_vars; rfl))
      · rw [show nI (s ++ [x] ++ [z]).length = nI (s.length + 1) + 1 by rw [nI_1]; simp]
        rfl
    have k87 : ∀ z, 200 ≤ z → z < x → tsz (σ 233) (σ 234) (σ 235) z ≤ 24 → I z = 0 → σ 234 x = nI z → kX kT L xs (d + 2) 199 87 [(3, .int (nI x)), (2, .int (nI (s.length + 1))), (0, .ref 232), (1, .int tv)] [] (foS σ W I O (nI l.length)) Q := by
      intro z z1 z2 z3 z4 z5
      iterate 6 (refine kX_one rfl ?_)
      refine kX_ialdV rfl rfl (by decide) (x) (by first | rfl | decide) (by omega) (z5) ?_
      refine kX_iastN rfl rfl (by decide) (s.length + 1) (by first | rfl | decide) (by omega) ?_
      iterate 2 (refine kX_one rfl ?_)
      refine hback (s ++ [x] ++ [z]) l (upd W (s.length + 1) (nI z)) I O _ ⟨hpush z z1 z2 z3 z4, foF_1 h hX x1 x2 x4 (fun y hy => (hI.2.2.2.2.2.2.1.1 y hy).1) (fun y hy => (hI.2.2.2.2.2.2.1.1 y hy).2.1) z2 z5⟩ ?_ (by simp; omega) _ rfl ?_
      · funext c; unfold foS va_up; repeat' split
        all_goals first | rfl | omega | (subst_vars; rfl) | (funext j; unfold upd; repeat' split; all_goals first | rfl | omega | (subst_vars; rfl))
      · rw [show nI (s ++ [x] ++ [z]).length = nI (s.length + 1) + 1 by rw [nI_1]; simp]
        rfl
    have hno : ∀ y, 200 ≤ y → y < b → ¬ (200 ≤ y ∧ I y = 0) → y ∈ l := by
      intro y y1 y2 y3
      refine Classical.byContradiction (fun hh => y3 ⟨y1, ?_⟩)
      rw [hI.2.2.2.2.2.1 y y1 y2, isB_F hh]
    have k105 : (∀ y, 200 ≤ y → σ 234 x = nI y → y < 1000 → y ∈ l) → ((∃ z, z < x ∧ mv n b z ∧ tsz (σ 233) (σ 234) (σ 235) z ≤ 24 ∧ σ 235 x = nI z) ∨ σ 235 x = -1) → kX kT L xs (d + 2) 199 105 [(3, .int (nI x)), (2, .int (nI (s.length + 1))), (0, .ref 232), (1, .int tv)] [] (foS σ W I O (nI l.length)) Q := by
      intro hfi hse
      iterate 4 (refine kX_one rfl ?_)
      rcases hse with ⟨z, z1, z2, z3, z4⟩ | hse
      · refine kX_ialdV rfl rfl (by decide) (x) (by first | rfl | decide) (by omega) (z4) ?_
        refine kX_cal (mr_isOpen L xs d _ z (by omega)) rfl (Or.inr rfl) rfl rfl rfl (fun r1 σ1 q1 => ?_)
        obtain ⟨rfl, rfl⟩ := q1
        repeat refine kX_one rfl ?_
        refine kX_if (fun q => ?_) (fun q => ?_)
        · have q : ¬ (200 ≤ z ∧ I z = 0) := fun hh => isB_ne.mpr hh (qeq q)
          refine k136 (fun y y1 y2 y3 => ?_)
          rcases y2 with y2 | y2
          · exact hfi y y1 y2 y3
          · obtain rfl : z = y := nI_inj (z4.symm.trans y2)
            exact hno z y1 (by omega) q
        · have q : 200 ≤ z ∧ I z = 0 := isB_ne.mp (qeqF q)
          exact k118 z q.1 z1 z3 q.2 z4 hfi
      · refine kX_ialdV rfl rfl (by decide) (x) (by first | rfl | decide) (by omega) (hse) ?_
        refine kX_cal (mr_isOpenN L xs d _) rfl (Or.inr rfl) rfl rfl rfl (fun r1 σ1 q1 => ?_)
        obtain ⟨rfl, rfl⟩ := q1
        iterate 1 (refine kX_one rfl ?_)
        refine k136 (fun y y1 y2 y3 => ?_)
        rcases y2 with y2 | y2
        · exact hfi y y1 y2 y3
        · exact absurd (y2.symm.trans hse) (nI_m1 (by omega))
    have k74 : ∀ y, y < x → mv n b y → tsz (σ 233) (σ 234) (σ 235) y ≤ 24 → σ 234 x = nI y → ((∃ z, z < x ∧ mv n b z ∧ tsz (σ 233) (σ 234) (σ 235) z ≤ 24 ∧ σ 235 x = nI z) ∨ σ 235 x = -1) → kX kT L xs (d + 2) 199 74 [(3, .int (nI x)), (2, .int (nI (s.length + 1))), (0, .ref 232), (1, .int tv)] [] (foS σ W I O (nI l.length)) Q := by
      intro z z1 z2 z3 z4 hse
      iterate 4 (refine kX_one rfl ?_)
      refine kX_ialdV rfl rfl (by decide) (x) (by first | rfl | decide) (by omega) (z4) ?_
      refine kX_cal (mr_isOpen L xs d _ z (by omega)) rfl (Or.inr rfl) rfl rfl rfl (fun r1 σ1 q1 => ?_)
      obtain ⟨rfl, rfl⟩ := q1
      repeat refine kX_one rfl ?_
      refine kX_if (fun q => ?_) (fun q => ?_)
      · have q : ¬ (200 ≤ z ∧ I z = 0) := fun hh => isB_ne.mpr hh (qeq q)
        refine k105 (fun y y1 y2 y3 => ?_) hse
        obtain rfl : z = y := nI_inj (z4.symm.trans y2)
        exact hno z y1 (by omega) q
      · have q : 200 ≤ z ∧ I z = 0 := isB_ne.mp (qeqF q)
        exact k87 z q.1 z1 z3 q.2 z4
    rw [show nI (s ++ [x]).length = nI (s.length + 1) by rw [hsl]]
    iterate 1 (refine kX_one rfl ?_)
    repeat refine kX_one rfl ?_
    refine kX_ifF (decide_eq_false (nI_nle (by omega) (by omega))) ?_
    iterate 5 (refine kX_one rfl ?_)
    refine kX_ialdV rfl rfl (by decide) (s.length) (nI_pred _) (by omega) (w1) ?_
    iterate 3 (refine kX_one rfl ?_)
    repeat refine kX_one rfl ?_
    refine kX_if (fun q => ?_) (fun q => ?_)
    · have q := qlt q x 200
      omega
    iterate 3 (refine kX_one rfl ?_)
    refine kX_baldV rfl rfl (by decide) (x) (by first | rfl | decide) (by omega) (hx0) ?_
    iterate 1 (refine kX_one rfl ?_)
    refine kX_lv [(3, .int (nI x)), (2, .int (nI (s.length + 1))), (0, .ref 232), (1, .int tv)] rfl rfl rfl ?_
    rcases (hV x (Or.inr ⟨x1, x2⟩)).2 with ⟨k, h3, hk, -, -⟩ | ⟨k, y, z, h3, hk, hy, hz2, h4, h5, h6, h7⟩ | ⟨k, y, h3, hk, hy, hz2, h4, h6⟩
    · rw [hk, fN_nI (by omega)] at hkx
      omega
    · have e7 : tsz (σ 233) (σ 234) (σ 235) x = 1 + tsz (σ 233) (σ 234) (σ 235) y + tsz (σ 233) (σ 234) (σ 235) z := by
        unfold tsz
        rw [tA_2 hV hk hy hz2 (by omega) (by omega) h4 h5 h6 h7]
        rfl
      exact k74 y h4 h6 (by omega) hy (Or.inl ⟨z, h5, h7, by omega, hz2⟩)
    · have e7 : tsz (σ 233) (σ 234) (σ 235) x = 1 + tsz (σ 233) (σ 234) (σ 235) y := by
        unfold tsz
        rw [tA_1 hV hk hy hz2 (by omega) (by omega) h4 h6]
        rfl
      exact k74 y h4 h6 (by omega) hy (Or.inr hz2)
set_option maxRecDepth 100000 in
set_option maxHeartbeats 4000000 in
theorem mf_findOrder (L : Nat) (xs : Nat → Int32) (d : Nat) (σ : kS) (n b t : Nat) (h : mTb σ n b) (hb : b ≤ 776) (ht : 200 ≤ t) (htb : t < b) (h24 : tsz (σ 233) (σ 234) (σ 235) t ≤ 24) : kXM kT L xs (d + 2) 199 [.ref 232, .int (nI t)] σ (fun r σ' => r = none ∧ ∃ l W I O, σ' = foS σ W I O (nI l.length) ∧ lst O l ∧ foL σ b l ∧ t ∈ l ∧ foF σ n t [] l) := by
  unfold kXM
  have hl := mf_fo_loop L xs d σ n b t h hb (nI t) (fun r σ' => r = none ∧ ∃ l W I O, σ' = foS σ W I O (nI l.length) ∧ lst O l ∧ foL σ b l ∧ t ∈ l ∧ foF σ n t [] l) (fun l W I O h1 h2 h3 h4 => by
    refine kX_ret (i := .return_) (len := 1) rfl (Or.inr rfl) rfl (⟨rfl, l, W, I, O, rfl, h1, h2, h3, h4⟩))
  iterate 5 (refine kX_one rfl ?_)
  have hT : mTb (va_up σ 232 (upd (σ 232) 61 (Int32.ofInt 0))) n b := h
  have := mr_fo_init L xs (d + 1) (va_up σ 232 (upd (σ 232) 61 (Int32.ofInt 0))) n b hT (nI t) (fun r σ' => r = none ∧ ∃ l W I O, σ' = foS σ W I O (nI l.length) ∧ lst O l ∧ foL σ b l ∧ t ∈ l ∧ foF σ n t [] l) (fun I hI => ?_) (200, σ 280) ⟨Nat.le_refl _, h.2.1, fun j j1 j2 => absurd j2 (by simp only; omega)⟩
  · refine kX_to _ _ rfl rfl rfl ?_ this
    funext c; unfold  va_up; repeat' split
    all_goals first | rfl | omega | (subst_vars; rfl) | (funext j; unfold upd; repeat' split; all_goals first | rfl | omega | (subst_vars; rfl))
  · iterate 6 (refine kX_one rfl ?_)
    refine kX_iastN rfl rfl (by decide) (0) (by first | rfl | decide) (by decide) ?_
    refine kX_to _ _ rfl rfl rfl ?_ (hl ([t], [], upd (σ 252) 0 (nI t), I, σ 279) ⟨⟨lst_push (lst_nil _) t, lst_nil _, fun x hx => ?_, List.pairwise_singleton _ _, fun i hi => ?_, fun j j1 j2 => ?_, foL_nil σ b, Or.inl (by simp)⟩, rfl⟩)
    · funext c; unfold foS va_up; repeat' split
      all_goals first | rfl | omega | (subst_vars; rfl) | (funext j; unfold upd; repeat' split; all_goals first | rfl | omega | (subst_vars; rfl))
    · rw [List.mem_singleton] at hx
      subst hx
      exact ⟨ht, htb, h24, by simp⟩
    · simp at hi
      subst hi
      exact htb
    · show I j = isB (j ∈ [])
      rw [hI j j1 j2, isB_F (by simp)]
