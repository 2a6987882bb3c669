/-! the class: receive -/
theorem kX_acpyN {T : List jC} {L : Nat} {xs : Nat → Int32} {d mi pc : Nat} {lv : jL} {σ : kS} {Q : Option Value → kS → Prop} {x y z : Int32} {a0 a n0 n1 idx : Nat} {f0 g0 : Nat → Int32} {rest : List Value} (hi : jm_ins mi pc = some (.invokestatic idx, 3)) (hm : jm_mm (jm_own mi) idx = none) (hc : jm_ac (jm_own mi) idx = true) (ht : jm_mth (jm_own mi) idx = none) (h0 : T[a0]? = some (.inl (0, n0, .inl f0))) (h1 : T[a]? = some (.inl (0, n1, .inl g0))) (sp dp n : Nat) (hx : x = nI sp) (hy : y = nI dp) (hz : z = nI n) (b0 : sp + n ≤ n0) (b1 : dp + n ≤ n1) (m0 : n0 ≤ 100000) (m1 : n1 ≤ 100000) (hr : (rest.map fun v => v.category).sum ≤ 8) (g : kX T L xs (d + 1) mi (pc + 3) lv rest (va_up σ a (va_cpy (σ a0) (σ a) sp dp n)) Q) : kX T L xs (d + 1) mi pc lv (.int z :: .int y :: .ref a :: .int x :: .ref a0 :: rest) σ Q := by
  subst hx hy hz
  have c1 : (nI sp).toNatClampNeg = sp := nI_clamp (by omega)
  have c2 : (nI dp).toNatClampNeg = dp := nI_clamp (by omega)
  have c3 : (nI n).toNatClampNeg = n := nI_clamp (by omega)
  have p1 : ¬ nI sp < 0 := nI_pos (by omega)
  have p2 : ¬ nI dp < 0 := nI_pos (by omega)
  have p3 : ¬ nI n < 0 := nI_pos (by omega)
  exact kX_one (by unfold kone; rw [hi]; simp [jlen, kplain, jend, jcall, jA, kH, hm, hc, ht, h0, h1, p1, p2, p3, c1, c2, c3, b0, b1, hr]) g
def tP (σ τ : kS) (n : Nat) : Prop := (∀ c, c ≠ 185 → τ c = σ c) ∧ ∀ k, k < 6 → gV σ n (τ 185 k)
theorem tP_trans {σ τ ρ : kS} {n : Nat} (h1 : tP σ τ n) (h2 : tP τ ρ n) : tP σ ρ n := ⟨fun c hc => (h2.1 c hc).trans (h1.1 c hc), fun k hk => gV_up (Nat.le_refl _) (fun z _ => by rw [h1.1 8 (by decide)]) (h2.2 k hk)⟩
theorem cT_tP {σ τ : kS} {n : Nat} (h : tP σ τ n) (hT : cT σ n) : cT τ n := cT_eq (by rw [h.1 1 (by decide)]) (h.1 _ (by decide)) (fun u _ => ⟨by rw [h.1 2 (by decide)], by rw [h.1 3 (by decide)], by rw [h.1 4 (by decide)], by rw [h.1 8 (by decide)], by rw [h.1 12 (by decide)], by rw [h.1 6 (by decide)]⟩) hT
theorem cG_ch {σ : kS} {n v : Nat} (hT : cT σ n) (hv : v < n) (hg : σ 8 v = 1) : cG σ n (σ 3 v) ∧ cG σ n (σ 4 v) := by
  have hn := hT.1
  obtain ⟨-, c1, c2, -, b1, b2, -⟩ := hT.2.2.2 v hv
  have hk : σ 2 v ≠ nI 3 := fun e => by
    have := (b1 e).1
    rw [hg] at this
    exact absurd this (by decide)
  obtain ⟨g1, g2⟩ := (b2 hk).mp hg
  have key : ∀ c, cCh v c → cG σ v c → cG σ n c := fun c hc hg z z1 z2 => by
    rcases hc with q | ⟨w, w1, w2, w3⟩
    · exact absurd (z2.symm.trans q) (nI_m1 (by omega))
    · have := nI_inj (z2.symm.trans w2)
      exact hg z (by omega) z2
  exact ⟨key _ c1 g1, key _ c2 g2⟩
set_option maxRecDepth 100000 in
set_option maxHeartbeats 4000000 in
theorem mc_mayStand (L : Nat) (xs : Nat → Int32) (d : Nat) (σ : kS) (n p v : Nat) (hT : cT σ n) (hp : p < n) (hv : v < n) (hgv : σ 8 v = 1) (hk : σ 2 p = nI 3) (hV : ∀ k, k < 6 → gV σ n (σ 185 k)) : kXM kT L xs (d + 1) 75 [.ref 181, .int (nI p), .int (nI v)] σ (fun q σ' => (q = some (.int 0) ∨ q = some (.int 1)) ∧ tP σ σ' n) := by
  have hn := hT.1
  obtain ⟨-, pl, hpl, hpl2⟩ := (hT.2.2.2 p hp).2.2.2.2.1 hk
  have hsame : tP σ σ n := ⟨fun _ _ => rfl, hV⟩
  unfold kXM
  iterate 4 (refine kX_one rfl ?_)
  refine kX_ialdV rfl rfl (by decide) (p) (by first | rfl | decide) (by omega) (hpl2) ?_
  iterate 5 (refine kX_one rfl ?_)
  refine kX_ialdN rfl rfl (by decide) (p) (by first | rfl | decide) (by omega) ?_
  have k69 : kX kT L xs (d + 1) 75 69 [(3, .int (nI pl)), (0, .ref 181), (1, .int (nI p)), (2, .int (nI v))] [] σ (fun q σ' => (q = some (.int 0) ∨ q = some (.int 1)) ∧ tP σ σ' n) := by
    iterate 4 (refine kX_one rfl ?_)
    refine kX_iastN rfl rfl (by decide) (pl) (by first | rfl | decide) (hpl) ?_
    repeat refine kX_one rfl ?_
    refine kX_ret (i := .ireturn) (len := 1) rfl (Or.inr rfl) rfl ⟨Or.inr rfl, fun c hc => up_ne hc, fun k hk => ?_⟩
    rw [up_eq]
    by_cases e : k = pl
    · subst e
      rw [pk_us]
      exact Or.inr ⟨v, hv, rfl, hgv⟩
    · rw [pk_un e]
      exact hV k hk
  iterate 4 (refine kX_one rfl ?_)
  refine kX_ialdN rfl rfl (by decide) (pl) (by first | rfl | decide) (hpl) ?_
  repeat refine kX_one rfl ?_
  refine kX_if (fun q => ?_) (fun q => ?_)
  · repeat refine kX_one rfl ?_
    refine kX_if (fun q2 => ?_) (fun q2 => ?_)
    · exact kX_lv _ rfl rfl rfl k69
    · iterate 4 (refine kX_one rfl ?_)
      refine kX_ialdN rfl rfl (by decide) (v) (by first | rfl | decide) (by omega) ?_
      repeat refine kX_one rfl ?_
      refine kX_if (fun q3 => ?_) (fun q3 => ?_)
      · exact kX_lv _ rfl rfl rfl k69
      · repeat refine kX_one rfl ?_
        refine kX_ret (i := .ireturn) (len := 1) rfl (Or.inr rfl) rfl (⟨Or.inl rfl, hsame⟩)
  · iterate 3 (refine kX_one rfl ?_)
    refine kX_ialdN rfl rfl (by decide) (pl) (by first | rfl | decide) (hpl) ?_
    repeat refine kX_one rfl ?_
    refine kX_if (fun q2 => ?_) (fun q2 => ?_)
    · repeat refine kX_one rfl ?_
      refine kX_ret (i := .ireturn) (len := 1) rfl (Or.inr rfl) rfl (⟨Or.inl rfl, hsame⟩)
    · repeat refine kX_one rfl ?_
      refine kX_ret (i := .ireturn) (len := 1) rfl (Or.inr rfl) rfl (⟨Or.inr rfl, hsame⟩)
set_option maxRecDepth 100000 in
set_option maxHeartbeats 4000000 in
theorem mc_matches (L : Nat) (xs : Nat → Int32) (n : Nat) : ∀ (m d dd : Nat) (σ : kS) (x y : Int32), dd + m = 49 → cT σ n → cG σ n y → (∀ k, k < 6 → gV σ n (σ 185 k)) → kXM kT L xs (d + m + 2) 74 [.ref 181, .int x, .int y, .int (nI dd)] σ (fun q σ' => (q = some (.int 0) ∨ q = some (.int 1)) ∧ tP σ σ' n) := by
  intro m
  induction m with
  | zero =>
    intro d dd σ x y hdd hT hy hV
    have hn := hT.1
    have hsame : tP σ σ n := ⟨fun _ _ => rfl, hV⟩
    obtain rfl : dd = 49 := by omega
    unfold kXM
    iterate 3 (refine kX_one rfl ?_)
    refine kX_cal (mc_has L xs d σ n x hn hT.2.1) rfl (Or.inr rfl) rfl rfl rfl (fun r1 σ1 q1 => ?_)
    obtain ⟨rfl, rfl⟩ := q1
    repeat refine kX_one rfl ?_
    refine kX_if (fun q => ?_) (fun q => ?_)
    · repeat refine kX_one rfl ?_
      refine kX_ret (i := .ireturn) (len := 1) rfl (Or.inr rfl) rfl (⟨Or.inl rfl, hsame⟩)
    · iterate 3 (refine kX_one rfl ?_)
      refine kX_cal (mc_has L xs d σ n y hn hT.2.1) rfl (Or.inr rfl) rfl rfl rfl (fun r1 σ1 q1 => ?_)
      obtain ⟨rfl, rfl⟩ := q1
      repeat refine kX_one rfl ?_
      refine kX_if (fun q2 => ?_) (fun q2 => ?_)
      · repeat refine kX_one rfl ?_
        refine kX_ret (i := .ireturn) (len := 1) rfl (Or.inr rfl) rfl (⟨Or.inl rfl, hsame⟩)
      · repeat refine kX_one rfl ?_
        refine kX_ret (i := .ireturn) (len := 1) rfl (Or.inr rfl) rfl (⟨Or.inl rfl, hsame⟩)
  | succ m IH =>
    intro d dd σ x y hdd hT hy hV
    have hn := hT.1
    have hsame : tP σ σ n := ⟨fun _ _ => rfl, hV⟩
    unfold kXM
    iterate 3 (refine kX_one rfl ?_)
    refine kX_cal (mc_has L xs (d + m + 1) σ n x hn hT.2.1) rfl (Or.inr rfl) rfl rfl rfl (fun r1 σ1 q1 => ?_)
    obtain ⟨rfl, rfl⟩ := q1
    repeat refine kX_one rfl ?_
    refine kX_if (fun q => ?_) (fun q => ?_)
    · repeat refine kX_one rfl ?_
      refine kX_ret (i := .ireturn) (len := 1) rfl (Or.inr rfl) rfl (⟨Or.inl rfl, hsame⟩)
    · obtain ⟨p, hp, rfl⟩ := isB_ne.mp (qeqF q)
      iterate 3 (refine kX_one rfl ?_)
      refine kX_cal (mc_has L xs (d + m + 1) σ n y hn hT.2.1) rfl (Or.inr rfl) rfl rfl rfl (fun r1 σ1 q1 => ?_)
      obtain ⟨rfl, rfl⟩ := q1
      repeat refine kX_one rfl ?_
      refine kX_if (fun q2 => ?_) (fun q2 => ?_)
      · repeat refine kX_one rfl ?_
        refine kX_ret (i := .ireturn) (len := 1) rfl (Or.inr rfl) rfl (⟨Or.inl rfl, hsame⟩)
      · obtain ⟨v, hv, rfl⟩ := isB_ne.mp (qeqF q2)
        have hgv : σ 8 v = 1 := hy v hv rfl
        obtain ⟨g1, g2⟩ := cG_ch hT hv hgv
        repeat refine kX_one rfl ?_
        refine kX_if (fun q3 => ?_) (fun q3 => ?_)
        · iterate 4 (refine kX_one rfl ?_)
          refine kX_baldN rfl rfl (by decide) (p) (by first | rfl | decide) (by omega) ?_
          repeat refine kX_one rfl ?_
          refine kX_if (fun q4 => ?_) (fun q4 => ?_)
          · iterate 4 (refine kX_one rfl ?_)
            refine kX_ialdN rfl rfl (by decide) (p) (by first | rfl | decide) (by omega) ?_
            repeat refine kX_one rfl ?_
            refine kX_if (fun q5 => ?_) (fun q5 => ?_)
            · iterate 4 (refine kX_one rfl ?_)
              refine kX_ialdN rfl rfl (by decide) (p) (by first | rfl | decide) (by omega) ?_
              iterate 4 (refine kX_one rfl ?_)
              refine kX_ialdN rfl rfl (by decide) (v) (by first | rfl | decide) (by omega) ?_
              repeat refine kX_one rfl ?_
              refine kX_if (fun q6 => ?_) (fun q6 => ?_)
              · iterate 5 (refine kX_one rfl ?_)
                refine kX_ialdN rfl rfl (by decide) (p) (by first | rfl | decide) (by omega) ?_
                iterate 4 (refine kX_one rfl ?_)
                refine kX_ialdN rfl rfl (by decide) (v) (by first | rfl | decide) (by omega) ?_
                iterate 3 (refine kX_one rfl ?_)
                refine kX_top (y := nI (dd + 1)) (nI_1 dd) ?_
                refine kX_cal (IH d (dd + 1) σ _ _ (by omega) hT g1 hV) rfl (Or.inr rfl) rfl rfl rfl (fun r1 τ q1 => ?_)
                obtain ⟨hq, hP⟩ := q1
                rcases hq with rfl | rfl
                · repeat refine kX_one rfl ?_
                  refine kX_ret (i := .ireturn) (len := 1) rfl (Or.inr rfl) rfl (⟨Or.inl rfl, hP⟩)
                · iterate 5 (refine kX_one rfl ?_)
                  refine kX_ialdN rfl rfl (by decide) (p) (by first | rfl | decide) (by omega) ?_
                  repeat refine kX_one rfl ?_
                  refine kX_if (fun q7 => ?_) (fun q7 => ?_)
                  · repeat refine kX_one rfl ?_
                    refine kX_ret (i := .ireturn) (len := 1) rfl (Or.inr rfl) rfl (⟨Or.inr rfl, hP⟩)
                  · iterate 5 (refine kX_one rfl ?_)
                    refine kX_ialdN rfl rfl (by decide) (p) (by first | rfl | decide) (by omega) ?_
                    iterate 4 (refine kX_one rfl ?_)
                    refine kX_ialdN rfl rfl (by decide) (v) (by first | rfl | decide) (by omega) ?_
                    iterate 3 (refine kX_one rfl ?_)
                    refine kX_top (y := nI (dd + 1)) (nI_1 dd) ?_
                    refine kX_cal (IH d (dd + 1) τ _ _ (by omega) (cT_tP hP hT) (by rw [hP.1 4 (by decide)]; exact (cG_eq (fun u _ => by rw [hP.1 8 (by decide)])).mpr g2) (fun k hk => gV_up (Nat.le_refl _) (fun z _ => by rw [hP.1 8 (by decide)]) (hP.2 k hk))) rfl (Or.inr rfl) rfl rfl rfl (fun r1 ω q1 => ?_)
                    obtain ⟨hq, hP2⟩ := q1
                    rcases hq with rfl | rfl
                    · repeat refine kX_one rfl ?_
                      refine kX_ret (i := .ireturn) (len := 1) rfl (Or.inr rfl) rfl (⟨Or.inl rfl, tP_trans hP hP2⟩)
                    · repeat refine kX_one rfl ?_
                      refine kX_ret (i := .ireturn) (len := 1) rfl (Or.inr rfl) rfl (⟨Or.inr rfl, tP_trans hP hP2⟩)
              · repeat refine kX_one rfl ?_
                refine kX_ret (i := .ireturn) (len := 1) rfl (Or.inr rfl) rfl (⟨Or.inl rfl, hsame⟩)
            · iterate 3 (refine kX_one rfl ?_)
              refine kX_cal (mc_mayStand L xs (d + m + 1) σ n p v hT hp hv hgv (qneF q5) hV) rfl (Or.inr rfl) rfl rfl rfl (fun r1 τ q1 => ?_)
              obtain ⟨hq, hP⟩ := q1
              rcases hq with rfl | rfl
              · refine kX_ret (i := .ireturn) (len := 1) rfl (Or.inr rfl) rfl (⟨Or.inl rfl, hP⟩)
              · refine kX_ret (i := .ireturn) (len := 1) rfl (Or.inr rfl) rfl (⟨Or.inr rfl, hP⟩)
          · repeat refine kX_one rfl ?_
            refine kX_if (fun q5 => ?_) (fun q5 => ?_)
            · repeat refine kX_one rfl ?_
              refine kX_ret (i := .ireturn) (len := 1) rfl (Or.inr rfl) rfl (⟨Or.inl rfl, hsame⟩)
            · repeat refine kX_one rfl ?_
              refine kX_ret (i := .ireturn) (len := 1) rfl (Or.inr rfl) rfl (⟨Or.inr rfl, hsame⟩)
        · repeat refine kX_one rfl ?_
          refine kX_ret (i := .ireturn) (len := 1) rfl (Or.inr rfl) rfl (⟨Or.inl rfl, hsame⟩)
def acP (σ τ : kS) (n S : Nat) : Prop := (∀ c, c ≠ 185 → c ≠ 182 → τ c = σ c) ∧ cV σ n S (τ 182) 0
set_option maxRecDepth 100000 in
set_option maxHeartbeats 4000000 in
theorem mc_accepts (L : Nat) (xs : Nat → Int32) (d : Nat) (σ : kS) (n S s r k t : Nat) (hT : cT σ n) (hS4 : S ≤ 4) (hs : s < S) (hr4 : r < 4) (hk6 : k < 6) (ht : t < n) (hg : σ 8 t = 1) (hV : cV σ n S (σ 182) 0) : kXM kT L xs (d + 52) 73 [.ref 181, .int (nI s), .ref (28 + 35 * r + 5 * k), .int (nI t)] σ (fun q σ' => (q = some (.int 0) ∨ q = some (.int 1)) ∧ acP σ σ' n S) := by
  have hn := hT.1
  unfold kXM
  iterate 5 (refine kX_one rfl ?_)
  refine kX_top (y := nI (7 * s + 1)) (ix7z s) ?_
  iterate 8 (refine kX_one rfl ?_)
  refine kX_acpyN (n0 := 28) (n1 := 6) (f0 := fun _ => 0) (g0 := fun _ => 0) rfl rfl rfl rfl rfl rfl (7 * s + 1) 0 6 rfl rfl rfl (by omega) (by decide) (by decide) (by decide) (by decide) ?_
  generalize hτ : va_up σ 185 (va_cpy (σ 182) (σ 185) (7 * s + 1) 0 6) = τ
  have h1 : tP σ τ n := by
    rw [← hτ]
    refine ⟨fun c hc => up_ne hc, fun k hk => ?_⟩
    rw [up_eq, va_cpy, if_pos ⟨Nat.zero_le _, by omega⟩]
    have := hV s k hs hk
    rw [show 0 + 7 * s + 1 + k = 7 * s + 1 + (k - 0) by omega] at this
    exact this
  iterate 2 (refine kX_one rfl ?_)
  refine kX_getN rfl rfl (kT_ev hr4 hk6) rfl ?_
  iterate 2 (refine kX_one rfl ?_)
  refine kX_cal (mc_matches L xs n 49 (d) 0 τ _ _ rfl (cT_tP h1 hT) (fun z _ z2 => by
    have := nI_inj z2
    subst this
    rw [h1.1 8 (by decide)]
    exact hg) (fun k hk => gV_up (Nat.le_refl _) (fun z _ => by rw [h1.1 8 (by decide)]) (h1.2 k hk))) rfl (Or.inr rfl) rfl rfl rfl (fun r1 ω q1 => ?_)
  obtain ⟨hq, hP⟩ := q1
  have h2 := tP_trans h1 hP
  have hat : ω 182 = σ 182 := h2.1 _ (by decide)
  rcases hq with rfl | rfl
  · repeat refine kX_one rfl ?_
    refine kX_ret (i := .ireturn) (len := 1) rfl (Or.inr rfl) rfl (⟨Or.inl rfl, fun c c1 _ => h2.1 c c1, by rw [hat]; exact hV⟩)
  · iterate 8 (refine kX_one rfl ?_)
    refine kX_acpyN (n0 := 6) (n1 := 28) (f0 := fun _ => 0) (g0 := fun _ => 0) rfl rfl rfl rfl rfl rfl 0 (7 * s + 1) 6 rfl rfl rfl (by decide) (by omega) (by decide) (by decide) (by decide) ?_
    iterate 1 (refine kX_one rfl ?_)
    refine kX_ret (i := .ireturn) (len := 1) rfl (Or.inr rfl) rfl ⟨Or.inr rfl, fun c c1 c2 => ?_, fun s' k' hs' hk' => ?_⟩
    · rw [up_ne c2]
      exact h2.1 c c1
    · rw [up_eq, va_cpy]
      by_cases e : 7 * s + 1 ≤ 0 + 7 * s' + 1 + k' ∧ 0 + 7 * s' + 1 + k' < 7 * s + 1 + 6
      · rw [if_pos e]
        exact h2.2 _ (by omega)
      · rw [if_neg e, hat]
        exact hV s' k' hs' hk'
set_option maxRecDepth 100000 in
set_option maxHeartbeats 4000000 in
theorem mk_receive (L : Nat) (xs : Nat → Int32) (d : Nat) (σ : kS) (n R S C : Nat) (x y : Int32) (h : cJ σ n R S C) : kXM kT L xs (d + 56) 125 [.ref 0, .int x, .int y] σ (fun r σ' => (∃ x, r = some (.int x)) ∧ cAfter σ σ' R) := by
  have hT := h.1
  have hn := hT.1
  have hS := h.2.2.1
  have hS4 := hS.1
  unfold kXM
  iterate 3 (refine kX_one rfl ?_)
  refine kX_cal (mc_hasSession L xs (d + 54) σ S x hS4 hS.2.1) rfl (Or.inr rfl) rfl rfl rfl (fun r1 σ1 q1 => ?_)
  obtain ⟨rfl, rfl⟩ := q1
  repeat refine kX_one rfl ?_
  refine kX_if (fun q => ?_) (fun q => ?_)
  · repeat refine kX_one rfl ?_
    refine kX_ret (i := .ireturn) (len := 1) rfl (Or.inr rfl) rfl (⟨⟨_, rfl⟩, cAfter_same h⟩)
  · obtain ⟨s, hs, rfl⟩ := isB_ne.mp (qeqF q)
    iterate 3 (refine kX_one rfl ?_)
    refine kX_cal (mc_has L xs (d + 54) σ n y hn hT.2.1) rfl (Or.inr rfl) rfl rfl rfl (fun r1 σ1 q1 => ?_)
    obtain ⟨rfl, rfl⟩ := q1
    repeat refine kX_one rfl ?_
    refine kX_if (fun q => ?_) (fun q => ?_)
    · obtain ⟨t, ht, rfl⟩ := isB_ne.mp (qne q)
      repeat refine kX_one rfl ?_
      refine kX_if (fun q2 => ?_) (fun q2 => ?_)
      · have hon : σ 181 8 ≠ 0 := qne q2
        iterate 7 (refine kX_one rfl ?_)
        refine kX_cal (mc_due L xs (d + 53) σ n R S 182 28 0 s (fun _ => 0) h.2.1 hS4 hS.2.2.1 hs rfl (by decide) (by decide)) rfl (Or.inr rfl) rfl rfl rfl (fun r1 σ1 q1 => ?_)
        obtain ⟨hq, rfl⟩ := q1
        rcases hq with rfl | ⟨r, k, hr4, hk6, rfl, hE⟩
        · repeat refine kX_one rfl ?_
          refine kX_ret (i := .ireturn) (len := 1) rfl (Or.inr rfl) rfl (⟨⟨_, rfl⟩, cAfter_same h⟩)
        · iterate 4 (refine kX_one rfl ?_)
          refine kX_getN rfl rfl (kT_ev hr4 hk6) rfl ?_
          repeat refine kX_one rfl ?_
          refine kX_if (fun q3 => ?_) (fun q3 => ?_)
          · repeat refine kX_one rfl ?_
            refine kX_ret (i := .ireturn) (len := 1) rfl (Or.inr rfl) rfl (⟨⟨_, rfl⟩, cAfter_same h⟩)
          · iterate 4 (refine kX_one rfl ?_)
            refine kX_baldN rfl rfl (by decide) (t) (by first | rfl | decide) (by omega) ?_
            repeat refine kX_one rfl ?_
            refine kX_if (fun q4 => ?_) (fun q4 => ?_)
            · repeat refine kX_one rfl ?_
              refine kX_ret (i := .ireturn) (len := 1) rfl (Or.inr rfl) rfl (⟨⟨_, rfl⟩, cAfter_same h⟩)
            · have hgt : σ 8 t = 1 := by
                rcases (hT.2.2.2 t ht).2.2.2.1 with z | z
                · exact absurd z (qeqF q4)
                · exact z
              iterate 2 (refine kX_one rfl ?_)
              refine kX_cal (mc_intruder L xs d σ n R S C h hon) rfl (Or.inr rfl) rfl rfl rfl (fun r1 τ q1 => ?_)
              obtain ⟨rfl, i1, i2, ⟨u, i3⟩, i4, i5⟩ := q1
              iterate 2 (refine kX_one rfl ?_)
              refine kX_cal (mc_canMake L xs 186 200 n u 49 (d + 4) 0 τ (nI t) rfl i3.1 i3.2.1) rfl (Or.inr rfl) rfl rfl rfl (fun r1 ω q1 => ?_)
              obtain ⟨hq, hP⟩ := q1
              have hJ : cJ ω n R S C := cJ_P i2 i3 hP
              have hHi : cHi σ ω := cHi_trans i1 (fun c hc => hP.1 c (by omega))
              have hon2 : ω 181 8 ≠ 0 := by
                rw [hP.1 181 (by decide), i5 _ (by decide)]
                exact hon
              have hg2 : ω 8 t = 1 := by
                rw [hP.1 8 (by decide), i4 8 (by decide) (by decide) (by decide) (by decide)]
                exact hgt
              rcases hq with rfl | rfl
              · repeat refine kX_one rfl ?_
                refine kX_ret (i := .ireturn) (len := 1) rfl (Or.inr rfl) rfl (⟨⟨_, rfl⟩, hHi, n, S, C, hJ⟩)
              · have hRu := hJ.2.2.2.2.2.2.2.2.1
                rcases hRu with hRu | ⟨on1, cnt, hV, hgf⟩
                · exact absurd hRu hon2
                · iterate 6 (refine kX_one rfl ?_)
                  refine kX_cal (mc_accepts L xs (d + 3) ω n S s r k t hJ.1 hS4 hs hr4 hk6 ht hg2 hV) rfl (Or.inr rfl) rfl rfl rfl (fun r1 ρ q1 => ?_)
                  obtain ⟨hq, hA1, hA2⟩ := q1
                  have e : ∀ c, c < 181 ∨ 186 ≤ c → ρ c = ω c := fun c hc => hA1 c (by omega) (by omega)
                  have e181 : ρ 181 = ω 181 := hA1 _ (by decide) (by decide)
                  have hgr : ∀ z, z < n → ρ 8 z = ω 8 z := fun z _ => by rw [e _ (by decide)]
                  have hJ2 : cJ ρ n R S C := by
                    refine cJ_run hJ e (Or.inr ⟨by rw [e181]; exact on1, by rw [e181, hA1 183 (by decide) (by decide)]; exact cnt, cV_eq hgr hA2, ?_⟩)
                    rw [e181, e 186 (by decide)]
                    rcases hgf with z | ⟨g, z1, z2, z3⟩
                    · exact Or.inl z
                    · refine Or.inr ⟨g, z1, z2, fun hg => ?_⟩
                      obtain ⟨u, u1, u2, u3⟩ := z3 hg
                      exact ⟨u, u1, u2, cKg_eq hgr (fun g _ _ => by rw [e 3 (by decide), e 4 (by decide)]; exact ⟨rfl, rfl⟩) u3⟩
                  have hHi2 : cHi σ ρ := cHi_trans hHi (cHi_run e)
                  rcases hq with rfl | rfl
                  · repeat refine kX_one rfl ?_
                    refine kX_ret (i := .ireturn) (len := 1) rfl (Or.inr rfl) rfl (⟨⟨_, rfl⟩, hHi2, n, S, C, hJ2⟩)
                  · iterate 4 (refine kX_one rfl ?_)
                    refine kX_cal (mc_step L xs (d + 54) ρ n R S C s hJ2 (by rw [e181]; exact hon2) hs) rfl (Or.inr rfl) rfl rfl rfl (fun r1 π q1 => ?_)
                    obtain ⟨rfl, s1, s2, s3, s4⟩ := q1
                    iterate 7 (refine kX_one rfl ?_)
                    refine kX_cal (mc_doneBy L xs (d + 54) π 182 28 0 s (fun _ => 0) rfl (by decide) (by omega)) rfl (Or.inr rfl) rfl rfl rfl (fun r1 σ1 q1 => ?_)
                    obtain ⟨rfl, rfl⟩ := q1
                    refine kX_ret (i := .ireturn) (len := 1) rfl (Or.inr rfl) rfl (⟨⟨_, rfl⟩, cHi_trans hHi2 s1, n, S, C, s2⟩)
      · repeat refine kX_one rfl ?_
        refine kX_ret (i := .ireturn) (len := 1) rfl (Or.inr rfl) rfl (⟨⟨_, rfl⟩, cAfter_same h⟩)
    · repeat refine kX_one rfl ?_
      refine kX_ret (i := .ireturn) (len := 1) rfl (Or.inr rfl) rfl (⟨⟨_, rfl⟩, cAfter_same h⟩)
