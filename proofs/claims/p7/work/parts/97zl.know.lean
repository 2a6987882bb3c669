/-! the class: what an intruder has -/
def isK (K st : Nat) : Prop := (K = 186 ∧ st = 200) ∨ (K = 204 ∧ st = 776) ∨ (K = 213 ∧ st = 1352)
theorem isK_b {K st : Nat} (h : isK K st) : 186 ≤ K ∧ K + 9 ≤ 222 ∧ 200 ≤ st ∧ st + 576 ≤ 1928 := by
  rcases h with ⟨rfl, rfl⟩ | ⟨rfl, rfl⟩ | ⟨rfl, rfl⟩ <;> omega
theorem kT_kn {K st : Nat} (h : isK K st) : kT[K]? = some (.inr (4, [.ref 1, .int (nI st), .ref (K + 1), .int 0, .ref (K + 2), .ref (K + 3), .ref (K + 4), .int 0, .ref (K + 5), .ref (K + 6), .ref (K + 7), .ref (K + 8), .int 0, .int 0])) := by
  rcases h with ⟨rfl, rfl⟩ | ⟨rfl, rfl⟩ | ⟨rfl, rfl⟩ <;> rfl
theorem kT_k1 {K st : Nat} (h : isK K st) : kT[K + 1]? = some (.inl (0, 256, .inl (fun _ => 0))) := by
  rcases h with ⟨rfl, rfl⟩ | ⟨rfl, rfl⟩ | ⟨rfl, rfl⟩ <;> rfl
theorem kT_k2 {K st i : Nat} (h : isK K st) (hi : i = 2 ∨ i = 3 ∨ i = 4) : kT[K + i]? = some (.inl (0, 776, .inl (fun _ => 0))) := by
  rcases h with ⟨rfl, rfl⟩ | ⟨rfl, rfl⟩ | ⟨rfl, rfl⟩ <;> rcases hi with rfl | rfl | rfl <;> rfl
theorem kT_k5 {K st i : Nat} (h : isK K st) (hi : i = 5 ∨ i = 6) : kT[K + i]? = some (.inl (0, 1928, .inl (fun _ => 0))) := by
  rcases h with ⟨rfl, rfl⟩ | ⟨rfl, rfl⟩ | ⟨rfl, rfl⟩ <;> rcases hi with rfl | rfl <;> rfl
theorem kT_k7 {K st : Nat} (h : isK K st) : kT[K + 7]? = some (.inl (0, 200, .inl (fun _ => 0))) ∧ kT[K + 8]? = some (.inl (0, 576, .inl (fun _ => 0))) := by
  rcases h with ⟨rfl, rfl⟩ | ⟨rfl, rfl⟩ | ⟨rfl, rfl⟩ <;> exact ⟨rfl, rfl⟩
def nB (σ : kS) (K st n u : Nat) : Prop := isK K st ∧ n ≤ 200 ∧ u ≤ 576 ∧ σ 1 11 = nI n ∧ σ K 1 = nI st ∧ σ K 3 = nI u
def nR (σ : kS) (K : Nat) : Prop := ∃ ln, ln ≤ 776 ∧ σ K 7 = nI ln ∧ ∀ i, i < ln → ∃ g, g < 1928 ∧ σ (K + 2) i = nI g
/-- what the row's methods leave -/
def nP (σ τ : kS) (K : Nat) : Prop := (∀ c, c < K ∨ K + 9 ≤ c → τ c = σ c) ∧ τ (K + 1) = σ (K + 1) ∧ (∀ j, j ≠ 7 → j ≠ 13 → τ K j = σ K j) ∧ nR τ K
theorem nP_refl {σ : kS} {K : Nat} (h : nR σ K) : nP σ σ K := ⟨fun _ _ => rfl, rfl, fun _ _ _ => rfl, h⟩
theorem nP_trans {σ τ ρ : kS} {K : Nat} (h1 : nP σ τ K) (h2 : nP τ ρ K) : nP σ ρ K := ⟨fun c hc => (h2.1 c hc).trans (h1.1 c hc), h2.2.1.trans h1.2.1, fun j x1 x2 => (h2.2.2.1 j x1 x2).trans (h1.2.2.1 j x1 x2), h2.2.2.2⟩
theorem nB_P {σ τ : kS} {K st n u : Nat} (h : nB σ K st n u) (hP : nP σ τ K) : nB τ K st n u := by
  obtain ⟨h1, h2, h3, h4, h5, h6⟩ := h
  have := isK_b h1
  exact ⟨h1, h2, h3, by rw [hP.1 1 (by omega)]; exact h4, (hP.2.2.1 _ (by decide) (by decide)).trans h5, (hP.2.2.1 _ (by decide) (by decide)).trans h6⟩
/-- it is a TERM, or one of the intruder's own -/
def nH (n st u : Nat) (x : Int32) : Prop := isN x n ∨ ∃ g, st ≤ g ∧ g < st + u ∧ x = nI g
theorem nH_lt {n st u : Nat} {x : Int32} (hn : n ≤ 200) (hst : st + 576 ≤ 1928) (hu : u ≤ 576) (h : nH n st u x) : ∃ g, g < 1928 ∧ x = nI g := by
  rcases h with ⟨t, t1, t2⟩ | ⟨g, g1, g2, g3⟩
  · exact ⟨t, by omega, t2⟩
  · exact ⟨g, by omega, g3⟩
set_option maxRecDepth 100000 in
set_option maxHeartbeats 4000000 in
theorem mc_unn (L : Nat) (xs : Nat → Int32) (d : Nat) (σ : kS) (K st n u : Nat) (x : Int32) (h : nB σ K st n u) : kXM kT L xs (d + 1) 46 [.ref K, .int x] σ (fun r σ' => r = some (.int (isB (∃ g, st ≤ g ∧ g < st + u ∧ x = nI g))) ∧ σ = σ') := by
  obtain ⟨h1, h2, h3, h4, h5, h6⟩ := h
  have hb := isK_b h1
  have hlt : ∀ a : Nat, a < 100000 → (x < nI a ↔ x.toInt < a) := fun a ha => by rw [Int32.lt_iff_toInt_lt, nI_toInt (by omega)]
  unfold kXM
  iterate 2 (refine kX_one rfl ?_)
  refine kX_getN rfl rfl (kT_kn h1) rfl ?_
  refine kX_top (h5) ?_
  repeat refine kX_one rfl ?_
  refine kX_if (fun q => ?_) (fun q => ?_)
  · have q : x < nI st := of_decide_eq_true q
    repeat refine kX_one rfl ?_
    refine kX_ret (i := .ireturn) (len := 1) rfl (Or.inr rfl) rfl ⟨rF (fun z => ?_), rfl⟩
    obtain ⟨g, g1, g2, rfl⟩ := z
    rw [hlt st (by omega), nI_toInt (by omega)] at q
    omega
  · have q : ¬ x < nI st := of_decide_eq_false q
    rw [hlt st (by omega)] at q
    have hx0 : ¬ x < 0 := fun z => q (by
      rw [Int32.lt_iff_toInt_lt] at z
      have : (0 : Int32).toInt = 0 := rfl
      omega)
    obtain ⟨g, hg, rfl⟩ := nI_of hx0
    rw [nI_toInt hg] at q
    iterate 2 (refine kX_one rfl ?_)
    refine kX_getN rfl rfl (kT_kn h1) rfl ?_
    refine kX_top (h5) ?_
    iterate 1 (refine kX_one rfl ?_)
    refine kX_getN rfl rfl (kT_kn h1) rfl ?_
    refine kX_top (h6) ?_
    iterate 1 (refine kX_one rfl ?_)
    refine kX_top (nI_add st u) ?_
    repeat refine kX_one rfl ?_
    refine kX_if (fun q2 => ?_) (fun q2 => ?_)
    · have q2 := qge q2 g (st + u)
      repeat refine kX_one rfl ?_
      refine kX_ret (i := .ireturn) (len := 1) rfl (Or.inr rfl) rfl ⟨rF (fun z => ?_), rfl⟩
      obtain ⟨g', g1, g2, e⟩ := z
      have := nI_inj e
      omega
    · have q2 := qgeF q2 g (st + u)
      repeat refine kX_one rfl ?_
      refine kX_ret (i := .ireturn) (len := 1) rfl (Or.inr rfl) rfl (⟨rT ⟨g, by omega, q2, rfl⟩, rfl⟩)
set_option maxRecDepth 100000 in
set_option maxHeartbeats 4000000 in
theorem mc_kHas (L : Nat) (xs : Nat → Int32) (d : Nat) (σ : kS) (K st n u : Nat) (x : Int32) (h : nB σ K st n u) : kXM kT L xs (d + 1) 47 [.ref K, .int x] σ (fun r σ' => r = some (.int (isB (nH n st u x))) ∧ σ = σ') := by
  obtain ⟨h1, h2, h3, h4, h5, h6⟩ := h
  have hb := isK_b h1
  have hlt : ∀ a : Nat, a < 100000 → (x < nI a ↔ x.toInt < a) := fun a ha => by rw [Int32.lt_iff_toInt_lt, nI_toInt (by omega)]
  unfold kXM
  have k15 : ¬ isN x n → kX kT L xs (d + 1) 47 15 (lv_args 0 [.ref K, .int x]) [] σ (fun r σ' => r = some (.int (isB (nH n st u x))) ∧ σ = σ') := by
    intro hno
    iterate 2 (refine kX_one rfl ?_)
    refine kX_getN rfl rfl (kT_kn h1) rfl ?_
    refine kX_top (h5) ?_
    repeat refine kX_one rfl ?_
    refine kX_if (fun q => ?_) (fun q => ?_)
    · have q : x < nI st := of_decide_eq_true q
      repeat refine kX_one rfl ?_
      refine kX_ret (i := .ireturn) (len := 1) rfl (Or.inr rfl) rfl ⟨rF (fun z => ?_), rfl⟩
      rcases z with z | ⟨g, g1, g2, rfl⟩
      · exact hno z
      · rw [hlt st (by omega), nI_toInt (by omega)] at q
        omega
    · have q : ¬ x < nI st := of_decide_eq_false q
      rw [hlt st (by omega)] at q
      have hx0 : ¬ x < 0 := fun z => q (by
        rw [Int32.lt_iff_toInt_lt] at z
        have : (0 : Int32).toInt = 0 := rfl
        omega)
      obtain ⟨g, hg, rfl⟩ := nI_of hx0
      rw [nI_toInt hg] at q
      iterate 2 (refine kX_one rfl ?_)
      refine kX_getN rfl rfl (kT_kn h1) rfl ?_
      refine kX_top (h5) ?_
      iterate 1 (refine kX_one rfl ?_)
      refine kX_getN rfl rfl (kT_kn h1) rfl ?_
      refine kX_top (h6) ?_
      iterate 1 (refine kX_one rfl ?_)
      refine kX_top (nI_add st u) ?_
      repeat refine kX_one rfl ?_
      refine kX_if (fun q2 => ?_) (fun q2 => ?_)
      · have q2 := qge q2 g (st + u)
        repeat refine kX_one rfl ?_
        refine kX_ret (i := .ireturn) (len := 1) rfl (Or.inr rfl) rfl ⟨rF (fun z => ?_), rfl⟩
        rcases z with z | ⟨g', g1, g2, e⟩
        · exact hno z
        · have := nI_inj e
          omega
      · have q2 := qgeF q2 g (st + u)
        repeat refine kX_one rfl ?_
        refine kX_ret (i := .ireturn) (len := 1) rfl (Or.inr rfl) rfl (⟨rT (Or.inr ⟨g, by omega, q2, rfl⟩), rfl⟩)
  iterate 1 (refine kX_one rfl ?_)
  repeat refine kX_one rfl ?_
  refine kX_if (fun q => ?_) (fun q => ?_)
  · have q : x < 0 := of_decide_eq_true q
    refine k15 (fun z => ?_)
    obtain ⟨j, j1, rfl⟩ := z
    exact nI_pos (by omega) q
  · have q : ¬ x < 0 := of_decide_eq_false q
    obtain ⟨j, hj, rfl⟩ := nI_of q
    iterate 2 (refine kX_one rfl ?_)
    refine kX_getN rfl rfl (kT_kn h1) rfl ?_
    iterate 1 (refine kX_one rfl ?_)
    refine kX_top (h4) ?_
    repeat refine kX_one rfl ?_
    refine kX_if (fun q2 => ?_) (fun q2 => ?_)
    · have q2 := qlt q2 j n
      repeat refine kX_one rfl ?_
      refine kX_ret (i := .ireturn) (len := 1) rfl (Or.inr rfl) rfl (⟨rT (Or.inl ⟨j, q2, rfl⟩), rfl⟩)
    · have q2 := qltF q2 j n
      refine k15 (fun z => ?_)
      obtain ⟨j', j1, e⟩ := z
      have := nI_inj e
      omega
set_option maxRecDepth 100000 in
set_option maxHeartbeats 4000000 in
theorem mc_hasPriv (L : Nat) (xs : Nat → Int32) (d : Nat) (σ : kS) (K st n u : Nat) (x : Int32) (h : nB σ K st n u) : kXM kT L xs (d + 1) 54 [.ref K, .int x] σ (fun r σ' => (r = some (.int 0) ∨ r = some (.int 1)) ∧ σ = σ') := by
  obtain ⟨h1, h2, h3, h4, h5, h6⟩ := h
  unfold kXM
  have k44 : kX kT L xs (d + 1) 54 44 (lv_args 0 [.ref K, .int x]) [] σ (fun r σ' => (r = some (.int 0) ∨ r = some (.int 1)) ∧ σ = σ') := by
    repeat refine kX_one rfl ?_
    refine kX_ret (i := .ireturn) (len := 1) rfl (Or.inr rfl) rfl (⟨Or.inl rfl, rfl⟩)
  have k40 : kX kT L xs (d + 1) 54 40 (lv_args 0 [.ref K, .int x]) [] σ (fun r σ' => (r = some (.int 0) ∨ r = some (.int 1)) ∧ σ = σ') := by
    repeat refine kX_one rfl ?_
    refine kX_ret (i := .ireturn) (len := 1) rfl (Or.inr rfl) rfl (⟨Or.inr rfl, rfl⟩)
  iterate 1 (refine kX_one rfl ?_)
  repeat refine kX_one rfl ?_
  refine kX_if (fun q => ?_) (fun q => ?_)
  · exact k44
  · have q : ¬ x < 0 := of_decide_eq_false q
    obtain ⟨j, hj, rfl⟩ := nI_of q
    iterate 2 (refine kX_one rfl ?_)
    refine kX_getN rfl rfl (kT_kn h1) rfl ?_
    iterate 1 (refine kX_one rfl ?_)
    refine kX_top (h4) ?_
    repeat refine kX_one rfl ?_
    refine kX_if (fun q2 => ?_) (fun q2 => ?_)
    · exact k44
    · have q2 := qgeF q2 j n
      iterate 1 (refine kX_one rfl ?_)
      refine kX_getN rfl rfl (kT_kn h1) rfl ?_
      iterate 2 (refine kX_one rfl ?_)
      refine kX_baldN rfl rfl (by decide) (j) (by first | rfl | decide) (by omega) ?_
      repeat refine kX_one rfl ?_
      refine kX_if (fun q3 => ?_) (fun q3 => ?_)
      · exact k40
      · iterate 1 (refine kX_one rfl ?_)
        refine kX_getN rfl rfl (kT_kn h1) rfl ?_
        iterate 1 (refine kX_one rfl ?_)
        refine kX_ialdN rfl ((kT_k7 h1).1) (by decide) (j) (by first | rfl | decide) (by omega) ?_
        iterate 1 (refine kX_one rfl ?_)
        refine kX_getN rfl rfl (kT_kn h1) rfl ?_
        repeat refine kX_one rfl ?_
        refine kX_if (fun q4 => ?_) (fun q4 => ?_)
        · exact k44
        · exact k40
theorem nP_make {σ : kS} {K : Nat} {f : Nat → Int32} (h : nR σ K) : nP σ (va_up σ (K + 6) f) K := by
  refine ⟨fun c hc => up_ne (by omega), up_ne (by omega), fun j _ _ => by rw [up_ne (by omega)], ?_⟩
  unfold nR
  rw [up_ne (by omega), up_ne (by omega)]
  exact h
set_option maxRecDepth 100000 in
set_option maxHeartbeats 4000000 in
theorem mc_canMake (L : Nat) (xs : Nat → Int32) (K st n u : Nat) : ∀ (m d : Nat) (dd : Nat) (σ : kS) (x : Int32), dd + m = 49 → nB σ K st n u → nR σ K → kXM kT L xs (d + m + 2) 55 [.ref K, .int x, .int (nI dd)] σ (fun r σ' => (r = some (.int 0) ∨ r = some (.int 1)) ∧ nP σ σ' K) := by
  intro m
  induction m with
  | zero =>
    intro d dd σ x hdd h hR
    unfold kXM
    iterate 2 (refine kX_one rfl ?_)
    refine kX_cal (mc_kHas L xs d σ K st n u x h) rfl (Or.inr rfl) rfl (jcall_v rfl rfl rfl (kT_kn h.1) rfl rfl) rfl (fun r1 σ1 q1 => ?_)
    obtain ⟨rfl, rfl⟩ := q1
    repeat refine kX_one rfl ?_
    refine kX_if (fun q => ?_) (fun q => ?_)
    · repeat refine kX_one rfl ?_
      refine kX_ret (i := .ireturn) (len := 1) rfl (Or.inr rfl) rfl (⟨Or.inl rfl, nP_refl hR⟩)
    · iterate 2 (refine kX_one rfl ?_)
      repeat refine kX_one rfl ?_
      refine kX_if (fun q2 => ?_) (fun q2 => ?_)
      · repeat refine kX_one rfl ?_
        refine kX_ret (i := .ireturn) (len := 1) rfl (Or.inr rfl) rfl (⟨Or.inl rfl, nP_refl hR⟩)
      · have q2 := qgtF q2 dd 48
        omega
  | succ m ih =>
    intro d dd σ x hdd h hR
    have hb := isK_b h.1
    unfold kXM
    have k28 : kX kT L xs (d + m + 3) 55 28 (lv_args 0 [.ref K, .int x, .int (nI dd)]) [] σ (fun r σ' => (r = some (.int 0) ∨ r = some (.int 1)) ∧ nP σ σ' K) := by
      repeat refine kX_one rfl ?_
      refine kX_ret (i := .ireturn) (len := 1) rfl (Or.inr rfl) rfl (⟨Or.inl rfl, nP_refl hR⟩)
    iterate 2 (refine kX_one rfl ?_)
    refine kX_cal (mc_kHas L xs (d + m + 1) σ K st n u x h) rfl (Or.inr rfl) rfl (jcall_v rfl rfl rfl (kT_kn h.1) rfl rfl) rfl (fun r1 σ1 q1 => ?_)
    obtain ⟨rfl, rfl⟩ := q1
    repeat refine kX_one rfl ?_
    refine kX_if (fun q => ?_) (fun q => ?_)
    · exact k28
    · obtain ⟨g, hg, rfl⟩ := nH_lt h.2.1 hb.2.2.2 h.2.2.1 (isB_ne.mp (qeqF q))
      iterate 2 (refine kX_one rfl ?_)
      repeat refine kX_one rfl ?_
      refine kX_if (fun q2 => ?_) (fun q2 => ?_)
      · exact k28
      · iterate 1 (refine kX_one rfl ?_)
        refine kX_getN rfl rfl (kT_kn h.1) rfl ?_
        iterate 1 (refine kX_one rfl ?_)
        refine kX_ialdN rfl (kT_k5 h.1 (Or.inr rfl)) (by decide) (g) (by first | rfl | decide) (hg) ?_
        iterate 1 (refine kX_one rfl ?_)
        refine kX_getN rfl rfl (kT_kn h.1) rfl ?_
        iterate 1 (refine kX_one rfl ?_)
        repeat refine kX_one rfl ?_
        refine kX_if (fun q3 => ?_) (fun q3 => ?_)
        · iterate 1 (refine kX_one rfl ?_)
          refine kX_getN rfl rfl (kT_kn h.1) rfl ?_
          iterate 1 (refine kX_one rfl ?_)
          refine kX_ialdN rfl (kT_k5 h.1 (Or.inr rfl)) (by decide) (g) (by first | rfl | decide) (hg) ?_
          iterate 1 (refine kX_one rfl ?_)
          refine kX_getN rfl rfl (kT_kn h.1) rfl ?_
          repeat refine kX_one rfl ?_
          refine kX_if (fun q4 => ?_) (fun q4 => ?_)
          · have k224 : ∀ (τ : kS) (v : Int32) (y z : Int32), (v = 0 ∨ v = 1) → nP σ τ K → kX kT L xs (d + m + 3) 55 224 [(5, .int v), (3, .int y), (4, .int z), (0, .ref K), (1, .int (nI g)), (2, .int (nI dd))] [] τ (fun r σ' => (r = some (.int 0) ∨ r = some (.int 1)) ∧ nP σ σ' K) := by
              intro τ v y z hv hP
              have k262 : ∀ w : Int32, kX kT L xs (d + m + 3) 55 262 [(5, .int v), (3, .int y), (4, .int z), (0, .ref K), (1, .int (nI g)), (2, .int (nI dd))] [.int w, .int (nI g), .ref (K + 6)] τ (fun r σ' => (r = some (.int 0) ∨ r = some (.int 1)) ∧ nP σ σ' K) := by
                intro w
                refine kX_iastN rfl (kT_k5 h.1 (Or.inr rfl)) (by decide) (g) (by first | rfl | decide) (hg) ?_
                iterate 1 (refine kX_one rfl ?_)
                rcases hv with rfl | rfl
                · refine kX_ret (i := .ireturn) (len := 1) rfl (Or.inr rfl) rfl (⟨Or.inl rfl, nP_trans hP (nP_make hP.2.2.2)⟩)
                · refine kX_ret (i := .ireturn) (len := 1) rfl (Or.inr rfl) rfl (⟨Or.inr rfl, nP_trans hP (nP_make hP.2.2.2)⟩)
              iterate 1 (refine kX_one rfl ?_)
              refine kX_getN rfl rfl (kT_kn h.1) rfl ?_
              iterate 2 (refine kX_one rfl ?_)
              repeat refine kX_one rfl ?_
              refine kX_if (fun q5 => ?_) (fun q5 => ?_)
              · iterate 1 (refine kX_one rfl ?_)
                refine kX_getN rfl rfl (kT_kn h.1) rfl ?_
                repeat refine kX_one rfl ?_
                refine kX_if (fun q6 => ?_) (fun q6 => ?_)
                · iterate 1 (refine kX_one rfl ?_)
                  refine kX_getN rfl rfl (kT_kn h.1) rfl ?_
                  iterate 1 (refine kX_one rfl ?_)
                  refine kX_ialdN rfl (kT_k5 h.1 (Or.inr rfl)) (by decide) (g) (by first | rfl | decide) (hg) ?_
                  exact k262 _
                · iterate 1 (refine kX_one rfl ?_)
                  refine kX_getN rfl rfl (kT_kn h.1) rfl ?_
                  iterate 2 (refine kX_one rfl ?_)
                  exact k262 _
              · iterate 1 (refine kX_one rfl ?_)
                refine kX_getN rfl rfl (kT_kn h.1) rfl ?_
                iterate 1 (refine kX_one rfl ?_)
                exact k262 _
            have hrec : ∀ τ w, nP σ τ K → kXM kT L xs (d + m + 2) 55 [.ref K, .int w, .int (nI dd + Int32.ofInt 1)] τ (fun r σ' => (r = some (.int 0) ∨ r = some (.int 1)) ∧ nP τ σ' K) := fun τ w hP => by
              have := ih d (dd + 1) τ w (by omega) (nB_P h hP) hP.2.2.2
              rw [← nI_1] at this
              exact this
            have k224' : ∀ (v : Int32) (y z : Int32) τ, (v = 0 ∨ v = 1) → nP σ τ K → ∀ lv, nk lv = true → ([(5, .int v), (3, .int y), (4, .int z), (0, .ref K), (1, .int (nI g)), (2, .int (nI dd))] : jL).map (fun q => jl lv q.1) = ([(5, Value.int v), (3, .int y), (4, .int z), (0, .ref K), (1, .int (nI g)), (2, .int (nI dd))] : jL).map (fun q => some q.2) → kX kT L xs (d + m + 3) 55 224 lv [] τ (fun r σ' => (r = some (.int 0) ∨ r = some (.int 1)) ∧ nP σ σ' K) := fun v y z τ hv hP lv hk hlv => kX_lv _ hk rfl hlv (k224 τ v y z hv hP)
            iterate 1 (refine kX_one rfl ?_)
            refine kX_getN rfl rfl (kT_kn h.1) rfl ?_
            iterate 2 (refine kX_one rfl ?_)
            refine kX_ialdN rfl rfl (by decide) (g) (by first | rfl | decide) (hg) ?_
            iterate 2 (refine kX_one rfl ?_)
            refine kX_getN rfl rfl (kT_kn h.1) rfl ?_
            iterate 2 (refine kX_one rfl ?_)
            refine kX_ialdN rfl rfl (by decide) (g) (by first | rfl | decide) (hg) ?_
            iterate 4 (refine kX_one rfl ?_)
            refine kX_getN rfl rfl (kT_kn h.1) rfl ?_
            iterate 2 (refine kX_one rfl ?_)
            refine kX_ialdN rfl rfl (by decide) (g) (by first | rfl | decide) (hg) ?_
            have hz : nP σ σ K := nP_refl hR
            by_cases hy : ∃ k, k < 10 ∧ σ 2 g = nI k
            · obtain ⟨k, hk, hk2⟩ := hy
              refine kX_top (hk2) ?_
              have : k = 0 ∨ k = 1 ∨ k = 2 ∨ k = 3 ∨ k = 4 ∨ k = 5 ∨ k = 6 ∨ k = 7 ∨ k = 8 ∨ k = 9 := by omega
              have k138 : kX kT L xs (d + m + 3) 55 138 [(5, .int 0), (3, .int (σ 3 g)), (4, .int (σ 4 g)), (0, .ref K), (1, .int (nI g)), (2, .int (nI dd))] [] σ (fun r σ' => (r = some (.int 0) ∨ r = some (.int 1)) ∧ nP σ σ' K) := by
                iterate 5 (refine kX_one rfl ?_)
                refine kX_cal (hrec σ (σ 3 g) hz) rfl (Or.inr rfl) rfl (jcall_v rfl rfl rfl (kT_kn h.1) rfl rfl) rfl (fun r1 σ1 q1 => ?_)
                obtain ⟨hq, hP1⟩ := q1
                rcases hq with rfl | rfl
                · iterate 4 (refine kX_one rfl ?_)
                  exact k224' 0 _ _ σ1 (Or.inl rfl) hP1 _ rfl rfl
                · iterate 6 (refine kX_one rfl ?_)
                  refine kX_cal (hrec σ1 (σ 4 g) hP1) rfl (Or.inr rfl) rfl (jcall_v rfl rfl rfl (kT_kn h.1) rfl rfl) rfl (fun r1 σ1 q1 => ?_)
                  obtain ⟨hq, hP2⟩ := q1
                  rcases hq with rfl | rfl
                  · iterate 4 (refine kX_one rfl ?_)
                    exact k224' 0 _ _ _ (Or.inl rfl) (nP_trans hP1 hP2) _ rfl rfl
                  · iterate 5 (refine kX_one rfl ?_)
                    exact k224' 1 _ _ _ (Or.inr rfl) (nP_trans hP1 hP2) _ rfl rfl
              have k171 : kX kT L xs (d + m + 3) 55 171 [(5, .int 0), (3, .int (σ 3 g)), (4, .int (σ 4 g)), (0, .ref K), (1, .int (nI g)), (2, .int (nI dd))] [] σ (fun r σ' => (r = some (.int 0) ∨ r = some (.int 1)) ∧ nP σ σ' K) := by
                iterate 5 (refine kX_one rfl ?_)
                refine kX_cal (hrec σ (σ 3 g) hz) rfl (Or.inr rfl) rfl (jcall_v rfl rfl rfl (kT_kn h.1) rfl rfl) rfl (fun r1 σ1 q1 => ?_)
                obtain ⟨hq, hP1⟩ := q1
                rcases hq with rfl | rfl
                · iterate 2 (refine kX_one rfl ?_)
                  exact k224' 0 _ _ σ1 (Or.inl rfl) hP1 _ rfl rfl
                · iterate 2 (refine kX_one rfl ?_)
                  exact k224' 1 _ _ σ1 (Or.inr rfl) hP1 _ rfl rfl
              rcases this with rfl | rfl | rfl | rfl | rfl | rfl | rfl | rfl | rfl | rfl
              · iterate 4 (refine kX_one rfl ?_)
                exact k224' 1 _ _ σ (Or.inr rfl) hz _ rfl rfl
              · iterate 1 (refine kX_one rfl ?_)
                exact k224' 0 _ _ σ (Or.inl rfl) hz _ rfl rfl
              · iterate 1 (refine kX_one rfl ?_)
                exact k224' 0 _ _ σ (Or.inl rfl) hz _ rfl rfl
              · iterate 1 (refine kX_one rfl ?_)
                exact k224' 0 _ _ σ (Or.inl rfl) hz _ rfl rfl
              · iterate 1 (refine kX_one rfl ?_)
                exact kX_lv _ rfl rfl rfl k138
              · iterate 1 (refine kX_one rfl ?_)
                exact kX_lv _ rfl rfl rfl k138
              · iterate 1 (refine kX_one rfl ?_)
                exact kX_lv _ rfl rfl rfl k171
              · iterate 3 (refine kX_one rfl ?_)
                refine kX_cal (mc_hasPriv L xs (d + m + 1) σ K st n u (σ 3 g) h) rfl (Or.inr rfl) rfl (jcall_v rfl rfl rfl (kT_kn h.1) rfl rfl) rfl (fun r1 σ1 q1 => ?_)
                obtain ⟨hq, rfl⟩ := q1
                rcases hq with rfl | rfl
                · iterate 2 (refine kX_one rfl ?_)
                  exact k224' 0 _ _ σ (Or.inl rfl) hz _ rfl rfl
                · iterate 2 (refine kX_one rfl ?_)
                  exact k224' 1 _ _ σ (Or.inr rfl) hz _ rfl rfl
              · iterate 3 (refine kX_one rfl ?_)
                refine kX_cal (mc_hasPriv L xs (d + m + 1) σ K st n u (σ 4 g) h) rfl (Or.inr rfl) rfl (jcall_v rfl rfl rfl (kT_kn h.1) rfl rfl) rfl (fun r1 σ1 q1 => ?_)
                obtain ⟨hq, rfl⟩ := q1
                rcases hq with rfl | rfl
                · iterate 4 (refine kX_one rfl ?_)
                  exact k224' 0 _ _ σ (Or.inl rfl) hz _ rfl rfl
                · iterate 6 (refine kX_one rfl ?_)
                  refine kX_cal (hrec σ (σ 3 g) hz) rfl (Or.inr rfl) rfl (jcall_v rfl rfl rfl (kT_kn h.1) rfl rfl) rfl (fun r1 σ1 q1 => ?_)
                  obtain ⟨hq, hP1⟩ := q1
                  rcases hq with rfl | rfl
                  · iterate 4 (refine kX_one rfl ?_)
                    exact k224' 0 _ _ _ (Or.inl rfl) hP1 _ rfl rfl
                  · iterate 5 (refine kX_one rfl ?_)
                    exact k224' 1 _ _ _ (Or.inr rfl) hP1 _ rfl rfl
              · iterate 1 (refine kX_one rfl ?_)
                exact kX_lv _ rfl rfl rfl k171
            · refine kX_tabO rfl (kp_out 10 (fun k hk e => hy ⟨k, hk, e⟩) (by decide)) rfl ?_
              exact k224' 0 _ _ σ (Or.inl rfl) hz _ rfl rfl
          · repeat refine kX_one rfl ?_
            refine kX_ret (i := .ireturn) (len := 1) rfl (Or.inr rfl) rfl (⟨Or.inr rfl, nP_refl hR⟩)
        · exact k28
