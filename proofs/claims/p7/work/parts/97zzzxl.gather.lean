/-! alike: beginKnowledge, gather, intruder -/
theorem trKn_take {σ : kS} {kl : List Nat} {i : Nat} (h : i < kl.length) : trKn σ (kl.take (i + 1)) = trA (trKn σ (kl.take i)) (tvl (σ 233) (σ 234) (σ 235) (kl[i]'h)) (nI 0) (-6) := by
  unfold trKn
  rw [List.take_succ_eq_append_getElem h, List.foldl_append]
  rfl
/-- an intruder that begins -/
def bkP (σ σ' : kS) (K st n m : Nat) (kl : List Nat) : Prop := nF2 σ σ' K st ∧ ∃ l, iE σ' K st n 0 m l ∧ cCn σ' n ∧ gR σ' n ∧ kTr σ' l = trKn σ kl ∧ σ' K 13 = 0
theorem cCn_P {σ τ : kS} {K st n : Nat} (hK : isK K st) (h : nP σ τ K) (hC : cCn σ n) : cCn τ n := by
  have hb := isK_b hK
  unfold cCn cpt at hC ⊢
  rw [h.1 2 (by omega), h.1 3 (by omega), h.1 4 (by omega), h.1 7 (by omega), h.1 6 (by omega)]
  exact hC
theorem gR_P {σ τ : kS} {K st n : Nat} (hK : isK K st) (h : nP σ τ K) (hC : gR σ n) : gR τ n := by
  have hb := isK_b hK
  unfold gR kGd at hC ⊢
  rw [h.1 2 (by omega), h.1 3 (by omega), h.1 4 (by omega), h.1 8 (by omega)]
  exact hC
set_option maxRecDepth 100000 in
set_option maxHeartbeats 4000000 in
theorem mf_beginKn (L : Nat) (xs : Nat → Int32) (d : Nat) (σ : kS) (K st n b u m : Nat) (kl : List Nat) (hB : nB σ K st n u) (he : cKe σ K st u) (hT : mTb σ n b) (hA : aT σ n) (hM : kMs σ K m) (hm : m < 2147483646) (hk : aK σ kl) (hkn : mKn σ n kl) : kXM kT L xs (d + 3) 21 [.ref 13, .ref K] σ (fun r σ' => r = none ∧ bkP σ σ' K st n (m + 1) kl) := by
  have hb := isK_b hB.1
  have hkl := hkn.2.1
  unfold kXM
  iterate 1 (refine kX_one rfl ?_)
  refine kX_cal (mf_kStart L xs d σ K st n u m hB he hM.1) rfl (Or.inr rfl) rfl (jcall_v rfl rfl rfl (kT_kn hB.1) rfl rfl) rfl (fun r1 σ1 q1 => ?_)
  obtain ⟨rfl, hS⟩ := q1
  obtain ⟨hE1, hC1, hG1⟩ := iE_start hB.1 hT hA hB.2.2.2.1 hM hm hS
  have g1 := hS.1
  have hF1 : nF2 σ σ1 K st := by
    refine ⟨⟨fun c a1 _ _ _ _ _ => g1 c (by omega), fun j _ => ?_⟩, fun j _ => by rw [g1 5 (by omega)]⟩
    rw [g1 2 (by omega), g1 3 (by omega), g1 4 (by omega), g1 6 (by omega)]
    exact ⟨rfl, rfl, rfl, rfl⟩
  have hc1 : eqC σ σ1 kCl := fun c hc => g1 c (by have := of_decide_eq_true (List.all_eq_true.mp (show kCl.all (fun c => decide (c < 186 ∨ 222 ≤ c)) = true by decide) c hc); omega)
  have loop : ∀ q : Nat × kS × rwT, (q.1 ≤ kl.length ∧ nP σ1 q.2.1 K ∧ iE q.2.1 K st n 0 (m + 1) q.2.2 ∧ q.2.1 K 13 = 0 ∧ kTr q.2.1 q.2.2 = trKn σ (kl.take q.1)) → kX kT L xs (d + 3) 21 6 [(2, .int (nI q.1)), (0, .ref 13), (1, .ref K)] [] q.2.1 (fun r σ' => r = none ∧ bkP σ σ' K st n (m + 1) kl) := by
    refine kX_while (fun q : Nat × kS × rwT => [(2, .int (nI q.1)), (0, .ref 13), (1, .ref K)]) (fun q => q.2.1) _ (fun q => kl.length - q.1) ?_
    rintro ⟨i, τ, l⟩ ⟨i1, i2, i3, i4, i5⟩ ih
    dsimp only at i1 i2 i3 i4 i5 ih ⊢
    have e13 : ∀ c, 13 ≤ c → c < 181 → τ c = σ c := fun c c1 c2 => (i2.1 c (by omega)).trans (g1 c (by omega))
    iterate 3 (refine kX_one rfl ?_)
    refine kX_top (y := nI kl.length) (by rw [e13 13 (by decide) (by decide)]; exact hk.1) ?_
    repeat refine kX_one rfl ?_
    refine kX_if (fun q => ?_) (fun q => ?_)
    · have q := qge q i kl.length
      obtain rfl : i = kl.length := by omega
      rw [List.take_length] at i5
      refine kX_ret (i := .return_) (len := 1) rfl (Or.inr rfl) rfl ⟨rfl, nF2_trans hF1 (nF2_P hB.1 i2), l, i3, cCn_P hB.1 i2 hC1, gR_P hB.1 i2 hG1, i5, i4⟩
    · have q := qgeF q i kl.length
      have hg := hkn.2.2.2 (kl[i]'q) (List.getElem_mem q)
      have hct : eqC σ τ kCl := fun c hc => (nP_c hB.1 i2 c hc).trans (hc1 c hc)
      have htv : kTv τ (kl[i]'q) = tvl (σ 233) (σ 234) (σ 235) (kl[i]'q) := by
        rw [kTv_c hct]
        exact aT_tv hT hA.1 hg.1
      have hgd : kGd τ (kl[i]'q) := by
        unfold kGd
        rw [hct 2 (by decide), hct 3 (by decide), hct 4 (by decide), aT_gd hT hA.1 hg.1]
        exact hg.2
      iterate 4 (refine kX_one rfl ?_)
      refine kX_ialdV rfl rfl (by decide) (i) (by first | rfl | decide) (by omega) ((congrFun (e13 _ (by decide) (by decide)) i).trans (hk.2 i q)) ?_
      iterate 2 (refine kX_one rfl ?_)
      refine kX_cal (mf_add L xs d τ K st n 0 (m + 1) (kl[i]'q) l (Int32.ofInt 0) (Int32.ofInt (-1)) i3 (Or.inl hg.1) hgd i4) rfl (Or.inr rfl) rfl (jcall_v rfl rfl rfl (kT_kn hB.1) rfl rfl) rfl (fun r1 σ2 q1 => ?_)
      obtain ⟨rfl, a2, a3, a4⟩ := q1
      have hx : kTr σ2 (rwA l (kl[i]'q) (Int32.ofInt 0) (Int32.ofInt (-1))) = trKn σ (kl.take (i + 1)) := by
        rw [kTr_c (nP_c hB.1 a4), kTr_add i3 (Or.inl hg.1), i5, htv, trKn_take q]
        rfl
      iterate 3 (refine kX_one rfl ?_)
      have := ih (i + 1, σ2, rwA l (kl[i]'q) (Int32.ofInt 0) (Int32.ofInt (-1))) ⟨q, nP_trans i2 a4, a2, a3, hx⟩ (by simp only; omega)
      dsimp only at this
      rw [← nI_1] at this
      exact kX_lv _ rfl rfl rfl this
  iterate 2 (refine kX_one rfl ?_)
  exact kX_lv _ rfl rfl rfl (loop (0, σ1, []) ⟨Nat.zero_le _, nP_refl (iE_nR hE1), hE1, hS.2.2.2.2.2.2, rfl⟩)
/-- the RUN's intruder at work -/
def gI (σ τ : kS) (n u m : Nat) (l : rwT) : Prop := nF2 (va_up σ 184 (τ 184)) τ 186 200 ∧ iE τ 186 200 n u m l ∧ cCn τ n ∧ gR τ n
theorem gI_cell {σ τ : kS} {n u m : Nat} {l : rwT} (h : gI σ τ n u m l) {c : Nat} (c1 : c = 1 ∨ 7 ≤ c) (c2 : c ≠ 184) (c3 : c < 186 ∨ 195 ≤ c) : τ c = σ c := by
  have := h.1.1.1 c c3 (by omega) (by omega) (by omega) (by omega) (by omega)
  rw [up_ne c2] at this
  exact this
theorem gI_num {σ τ : kS} {n u m : Nat} {l : rwT} (h : gI σ τ n u m l) {t : Nat} (ht : t < n) : τ 2 t = σ 2 t ∧ τ 3 t = σ 3 t ∧ τ 4 t = σ 4 t := by
  have hn := h.2.1.2.1
  have := h.1.1.2 t (by omega)
  exact ⟨this.1, this.2.1, this.2.2.1⟩
/-- turns alone changes -/
theorem gI_turn {σ τ : kS} {n u m : Nat} {l : rwT} (f : Nat → Int32) (h : gI σ τ n u m l) : gI σ (va_up τ 184 f) n u m l := by
  obtain ⟨h1, h2, h3, h4⟩ := h
  refine ⟨⟨⟨fun c a1 a2 a3 a4 a5 a6 => ?_, h1.1.2⟩, h1.2⟩, ?_, h3, h4⟩
  · by_cases e : c = 184
    · subst e
      rfl
    · have := h1.1.1 c a1 a2 a3 a4 a5 a6
      rw [up_ne e] at this ⊢
      rw [up_ne e]
      exact this
  · have e : ∀ c, c ≠ 184 → va_up τ 184 f c = τ c := fun c hc => up_ne hc
    exact h2
