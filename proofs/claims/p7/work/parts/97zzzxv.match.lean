/-! alike: matches -/
/-- what stands for a VARIABLE in the class, in the reference -/
def trR (n : Nat) (x y : Int32) : Prop := (x = -1 ∧ y = -6) ∨ ∃ z, z < n ∧ x = nI z ∧ y = nI z
theorem mtF_c {σ τ : kS} (e : eqC σ τ [233, 234, 235, 241, 240]) : ∀ f p t a, mtF τ f p t a = mtF σ f p t a := by
  intro f
  induction f with
  | zero => intro p t a; rfl
  | succ f ih =>
    intro p t a
    unfold mtF
    rw [e 233 (by decide), e 234 (by decide), e 235 (by decide), e 241 (by decide), e 240 (by decide)]
    simp only [ih]
def mtQ (σ : kS) (n : Nat) (res : Option (Nat → Int32)) (q : Option Value) (σ' : kS) : Prop := (∀ c, c ≠ 185 → σ' c = σ c) ∧ ((res = none ∧ q = some (.int 0)) ∨ ∃ a', res = some a' ∧ q = some (.int 1) ∧ ∀ k, k < 6 → trR n (σ' 185 k) (a' k))
set_option maxRecDepth 100000 in
set_option maxHeartbeats 4000000 in
theorem mf_mayStand (L : Nat) (xs : Nat → Int32) (d : Nat) (σ : kS) (n b p v : Nat) (a : Nat → Int32) (hT : cT σ n) (hM : mTb σ n b) (hA : ∀ t, t < n → aT1 σ t) (hp : p < n) (hv : v < n) (hk : σ 233 p = nI 3) (ht : ∀ k, k < 6 → trR n (σ 185 k) (a k)) : kXM kT L xs (d + 1) 75 [.ref 181, .int (nI p), .int (nI v)] σ (mtQ σ n (mtF σ (p + 1) p v a)) := by
  have hn := hT.1
  obtain ⟨y1, -, -, -, -, -, y7⟩ := hA p hp
  obtain ⟨-, y8, y9⟩ := y7 hk
  obtain ⟨-, pl, hpl, hpl2⟩ := (hT.2.2.2 p hp).2.2.2.2.1 (y1.trans hk)
  have hof : fN (σ 241 p) = pl := by rw [← y9, hpl2]; exact fN_nI (by omega)
  have hgp : ¬ tgd (σ 233) (σ 234) (σ 235) p = true := by
    rw [tgd_0 hk (by decide)]
    exact fun z => absurd rfl (of_decide_eq_true z)
  have hres : mtF σ (p + 1) p v a = (if ¬ a pl < 0 then (if a pl = nI v then some a else none) else (if σ 240 p ≠ nI 3 ∧ σ 233 v ≠ σ 240 p then none else some (upd a pl (nI v)))) := by
    unfold mtF
    rw [if_neg hgp, if_pos hk, hof]
  rw [hres]
  unfold kXM
  iterate 4 (refine kX_one rfl ?_)
  refine kX_ialdV rfl rfl (by decide) (p) (by first | rfl | decide) (by omega) (hpl2) ?_
  iterate 5 (refine kX_one rfl ?_)
  refine kX_ialdV rfl rfl (by decide) (p) (by first | rfl | decide) (by omega) (y8) ?_
  have k69 : a pl < 0 → ¬ (σ 240 p ≠ nI 3 ∧ σ 233 v ≠ σ 240 p) → kX kT L xs (d + 1) 75 69 [(3, .int (nI pl)), (0, .ref 181), (1, .int (nI p)), (2, .int (nI v))] [] σ (mtQ σ n (if ¬ a pl < 0 then (if a pl = nI v then some a else none) else (if σ 240 p ≠ nI 3 ∧ σ 233 v ≠ σ 240 p then none else some (upd a pl (nI v))))) := by
    intro h1 h2
    rw [if_neg (fun z => z h1), if_neg h2]
    iterate 4 (refine kX_one rfl ?_)
    refine kX_iastN rfl rfl (by decide) (pl) (by first | rfl | decide) (hpl) ?_
    repeat refine kX_one rfl ?_
    refine kX_ret (i := .ireturn) (len := 1) rfl (Or.inr rfl) rfl ⟨fun c hc => up_ne hc, Or.inr ⟨_, rfl, rfl, fun k hk => ?_⟩⟩
    rw [up_eq]
    by_cases e : k = pl
    · subst e
      rw [pk_us, pk_us]
      exact Or.inr ⟨v, hv, rfl, rfl⟩
    · rw [pk_un e, pk_un e]
      exact ht k hk
  iterate 4 (refine kX_one rfl ?_)
  refine kX_ialdN rfl rfl (by decide) (pl) (by first | rfl | decide) (hpl) ?_
  repeat refine kX_one rfl ?_
  refine kX_if (fun q => ?_) (fun q => ?_)
  · have q : σ 185 pl = -1 := qeq q
    have hneg : a pl < 0 := by
      rcases ht pl hpl with z | ⟨z, z1, z2, -⟩
      · rw [z.2]
        decide
      · exact absurd (z2.symm.trans q) (nI_m1 (by omega))
    repeat refine kX_one rfl ?_
    refine kX_if (fun q2 => ?_) (fun q2 => ?_)
    · have q2 : σ 240 p = nI 3 := qeq q2
      exact kX_lv _ rfl rfl rfl (k69 hneg (fun z => z.1 q2))
    · have q2 : σ 240 p ≠ nI 3 := qeqF q2
      iterate 4 (refine kX_one rfl ?_)
      refine kX_ialdV rfl rfl (by decide) (v) (by first | rfl | decide) (by omega) ((hA v hv).1) ?_
      repeat refine kX_one rfl ?_
      refine kX_if (fun q3 => ?_) (fun q3 => ?_)
      · have q3 : σ 233 v = σ 240 p := qeq q3
        exact kX_lv _ rfl rfl rfl (k69 hneg (fun z => z.2 q3))
      · have q3 : σ 233 v ≠ σ 240 p := qeqF q3
        rw [if_neg (fun z => z hneg), if_pos ⟨q2, q3⟩]
        repeat refine kX_one rfl ?_
        refine kX_ret (i := .ireturn) (len := 1) rfl (Or.inr rfl) rfl (⟨fun _ _ => rfl, Or.inl ⟨rfl, rfl⟩⟩)
  · have q : σ 185 pl ≠ -1 := qeqF q
    obtain ⟨z, z1, z2, z3⟩ : ∃ z, z < n ∧ σ 185 pl = nI z ∧ a pl = nI z := by
      rcases ht pl hpl with z | z
      · exact absurd z.1 q
      · exact z
    rw [if_pos (by rw [z3]; exact nI_pos (by omega)), z3]
    iterate 3 (refine kX_one rfl ?_)
    refine kX_ialdV rfl rfl (by decide) (pl) (by first | rfl | decide) (hpl) (z2) ?_
    repeat refine kX_one rfl ?_
    refine kX_if (fun q2 => ?_) (fun q2 => ?_)
    · have q2 : nI z ≠ nI v := qne q2
      rw [if_neg q2]
      repeat refine kX_one rfl ?_
      refine kX_ret (i := .ireturn) (len := 1) rfl (Or.inr rfl) rfl (⟨fun _ _ => rfl, Or.inl ⟨rfl, rfl⟩⟩)
    · have q2 : nI z = nI v := qneF q2
      rw [if_pos q2]
      repeat refine kX_one rfl ?_
      refine kX_ret (i := .ireturn) (len := 1) rfl (Or.inr rfl) rfl (⟨fun _ _ => rfl, Or.inr ⟨a, rfl, rfl, ht⟩⟩)
set_option maxRecDepth 100000 in
set_option maxHeartbeats 4000000 in
theorem mf_matches (L : Nat) (xs : Nat → Int32) (n b : Nat) : ∀ (f d dd : Nat) (σ : kS) (p v : Nat) (a : Nat → Int32), dd + f = 49 → kDp σ p + dd ≤ 48 → cT σ n → mTb σ n b → (∀ t, t < n → aT1 σ t) → p < n → v < n → tgd (σ 233) (σ 234) (σ 235) v = true → (∀ k, k < 6 → trR n (σ 185 k) (a k)) → kXM kT L xs (d + f + 2) 74 [.ref 181, .int (nI p), .int (nI v), .int (nI dd)] σ (mtQ σ n (mtF σ (p + 1) p v a)) := by
  intro f
  induction f with
  | zero =>
    intro d dd σ p v a hdd hdp
    omega
  | succ f IH =>
    intro d dd σ p v a hdd hdp hT hM hA hp hv hgv ht
    have hn := hT.1
    have hVr := mTb_num hM
    unfold kXM
    iterate 3 (refine kX_one rfl ?_)
    refine kX_cal (mc_has L xs (d + f + 1) σ n (nI p) hn hT.2.1) rfl (Or.inr rfl) rfl rfl rfl (fun r1 σ1 q1 => ?_)
    obtain ⟨rfl, rfl⟩ := q1
    repeat refine kX_one rfl ?_
    refine kX_ifF (decide_eq_false (isB_ne.mpr ⟨p, hp, rfl⟩)) ?_
    iterate 3 (refine kX_one rfl ?_)
    refine kX_cal (mc_has L xs (d + f + 1) σ n (nI v) hn hT.2.1) rfl (Or.inr rfl) rfl rfl rfl (fun r1 σ1 q1 => ?_)
    obtain ⟨rfl, rfl⟩ := q1
    repeat refine kX_one rfl ?_
    refine kX_ifF (decide_eq_false (isB_ne.mpr ⟨v, hv, rfl⟩)) ?_
    repeat refine kX_one rfl ?_
    refine kX_if (fun q3 => ?_) (fun q3 => ?_)
    rotate_left
    · have q3 := qleF q3 dd 48
      omega
    · iterate 4 (refine kX_one rfl ?_)
      refine kX_baldV rfl rfl (by decide) (p) (by first | rfl | decide) (by omega) ((hA p hp).2.2.2.2.1.trans (hM.2.2.2.2.2.2.1 p (Or.inl hp))) ?_
      repeat refine kX_one rfl ?_
      refine kX_if (fun q4 => ?_) (fun q4 => ?_)
      · have q4 : tgd (σ 233) (σ 234) (σ 235) p = false := (bI_eq _).mp (qeq q4)
        have q4' : ¬ tgd (σ 233) (σ 234) (σ 235) p = true := by rw [q4]; decide
        iterate 4 (refine kX_one rfl ?_)
        refine kX_ialdV rfl rfl (by decide) (p) (by first | rfl | decide) (by omega) ((hA p hp).1) ?_
        repeat refine kX_one rfl ?_
        refine kX_if (fun q5 => ?_) (fun q5 => ?_)
        · have q5 : σ 233 p ≠ nI 3 := qne q5
          iterate 4 (refine kX_one rfl ?_)
          refine kX_ialdV rfl rfl (by decide) (p) (by first | rfl | decide) (by omega) ((hA p hp).1) ?_
          iterate 4 (refine kX_one rfl ?_)
          refine kX_ialdV rfl rfl (by decide) (v) (by first | rfl | decide) (by omega) ((hA v hv).1) ?_
          repeat refine kX_one rfl ?_
          refine kX_if (fun q6 => ?_) (fun q6 => ?_)
          · have q6 : σ 233 p = σ 233 v := qeq q6
            rcases (hVr p hp).2 with ⟨k, h3, hk, -, -⟩ | ⟨k, x, y, h3, hk, hx, hy, h4, h5, h6, h7⟩ | ⟨k, x, h3, hk, hx, hy, h4, h6⟩
            · refine absurd ?_ q4'
              rw [tgd_0 hk h3]
              exact decide_eq_true (fun e => q5 (hk.trans (by rw [e])))
            · obtain ⟨x', y', hx', hy', h4', h5', h6', h7'⟩ : ∃ x' y', σ 234 v = nI x' ∧ σ 235 v = nI y' ∧ x' < v ∧ y' < v ∧ x' < n ∧ y' < n := by
                rcases (hVr v hv).2 with ⟨k', z3, zk, -, -⟩ | ⟨k', x', y', z3, zk, zx, zy, z4, z5, z6, z7⟩ | ⟨k', x', z3, zk, zx, zy, z4, z6⟩
                · have := nI_inj (hk.symm.trans (q6.trans zk))
                  omega
                · exact ⟨x', y', zx, zy, z4, z5, z6, z7⟩
                · have := nI_inj (hk.symm.trans (q6.trans zk))
                  omega
              have hkv : σ 233 v = nI k := q6.symm.trans hk
              have hgv2 := hgv
              rw [tgd_2 hVr hkv hx' hy' (by omega) (by omega) h4' h5' h6' h7', Bool.and_eq_true] at hgv2
              have hres : mtF σ (p + 1) p v a = (mtF σ (x + 1) x x' a).bind (fun a' => mtF σ (y + 1) y y' a') := by
                rw [mtF, if_neg q4', if_neg q5, if_neg (fun z => z q6), hx, hx', hy, hy', fN_nI (by omega), fN_nI (by omega), fN_nI (by omega), fN_nI (by omega), mtF_fuel hM p (x + 1) x x' a h6 h4 (by omega)]
                congr 1
                funext a'
                rw [if_neg (nI_m1 (by omega)), mtF_fuel hM p (y + 1) y y' a' h7 h5 (by omega)]
              have hdt : kDp σ p = 1 + max (kDp σ x) (kDp σ y) := by
                have e : ∀ z, z < n → kDp σ z = tdp (σ 233) (σ 234) (σ 235) z := fun z hz => aT_A hM hA (fun _ _ => rfl) hz
                rw [e p hp, e x h6, e y h7]
                exact tdp_2 hVr hk hx hy (by omega) (by omega) h4 h5 h6 h7
              rw [hres]
              iterate 5 (refine kX_one rfl ?_)
              refine kX_ialdV rfl rfl (by decide) (p) (by first | rfl | decide) (by omega) ((hA p hp).2.1.trans hx) ?_
              iterate 4 (refine kX_one rfl ?_)
              refine kX_ialdV rfl rfl (by decide) (v) (by first | rfl | decide) (by omega) ((hA v hv).2.1.trans hx') ?_
              iterate 3 (refine kX_one rfl ?_)
              refine kX_top (y := nI (dd + 1)) (nI_1 dd) ?_
              refine kX_cal (IH d (dd + 1) σ x x' a (by omega) (by omega) hT hM hA h6 h6' hgv2.1 ht) rfl (Or.inr rfl) rfl rfl rfl (fun r1 τ q1 => ?_)
              obtain ⟨hP, hq⟩ := q1
              rcases hq with ⟨hm, rfl⟩ | ⟨a', hm, rfl, hta⟩
              · rw [hm]
                repeat refine kX_one rfl ?_
                refine kX_ret (i := .ireturn) (len := 1) rfl (Or.inr rfl) rfl (⟨hP, Or.inl ⟨rfl, rfl⟩⟩)
              · rw [hm]
                have eT : ∀ z, z < n → τ 4 z = σ 235 z := fun z hz => by rw [hP 4 (by decide)]; exact (hA z hz).2.2.1
                iterate 5 (refine kX_one rfl ?_)
                refine kX_ialdV rfl rfl (by decide) (p) (by first | rfl | decide) (by omega) ((eT p hp).trans hy) ?_
                repeat refine kX_one rfl ?_
                refine kX_ifF (decide_eq_false (nI_m1 (by omega))) ?_
                iterate 5 (refine kX_one rfl ?_)
                refine kX_ialdV rfl rfl (by decide) (p) (by first | rfl | decide) (by omega) ((eT p hp).trans hy) ?_
                iterate 4 (refine kX_one rfl ?_)
                refine kX_ialdV rfl rfl (by decide) (v) (by first | rfl | decide) (by omega) ((eT v hv).trans hy') ?_
                iterate 3 (refine kX_one rfl ?_)
                refine kX_top (y := nI (dd + 1)) (nI_1 dd) ?_
                have hP' : ∀ c, c ≠ 185 → τ c = σ c := hP
                have hTt : cT τ n := cT_eq (by rw [hP 1 (by decide)]) (hP _ (by decide)) (fun u _ => ⟨by rw [hP 2 (by decide)], by rw [hP 3 (by decide)], by rw [hP 4 (by decide)], by rw [hP 8 (by decide)], by rw [hP 12 (by decide)], by rw [hP 6 (by decide)]⟩) hT
                have hAt : ∀ t, t < n → aT1 τ t := fun t htn => by
                  have := hA t htn
                  unfold aT1 at this ⊢
                  simp only [hP 2 (by decide), hP 3 (by decide), hP 4 (by decide), hP 5 (by decide), hP 8 (by decide), hP 9 (by decide), hP 10 (by decide), hP 11 (by decide), hP 12 (by decide), hP 233 (by decide), hP 234 (by decide), hP 235 (by decide), hP 236 (by decide), hP 237 (by decide), hP 238 (by decide), hP 239 (by decide), hP 240 (by decide), hP 241 (by decide)]
                  exact this
                have hMt : mTb τ n b := by
                  unfold mTb mAG mpt at hM ⊢
                  simp only [hP 232 (by decide), hP 233 (by decide), hP 234 (by decide), hP 235 (by decide), hP 236 (by decide), hP 237 (by decide), hP 240 (by decide), hP 242 (by decide), hP 243 (by decide)]
                  exact hM
                have hdy : kDp τ y = kDp σ y := by
                  unfold kDp
                  rw [hP 2 (by decide), hP 3 (by decide), hP 4 (by decide)]
                refine kX_cal (IH d (dd + 1) τ y y' a' (by omega) (by omega) hTt hMt hAt h7 h7' (by rw [hP 233 (by decide), hP 234 (by decide), hP 235 (by decide)]; exact hgv2.2) hta) rfl (Or.inr rfl) rfl rfl rfl (fun r1 ω q1 => ?_)
                obtain ⟨hP2, hq⟩ := q1
                rw [mtF_c (fun c hc => hP c (by have := of_decide_eq_true (List.all_eq_true.mp (show ([233, 234, 235, 241, 240] : List Nat).all (fun c => decide (232 ≤ c)) = true by decide) c hc); omega))] at hq
                have hP3 : ∀ c, c ≠ 185 → ω c = σ c := fun c hc => (hP2 c hc).trans (hP c hc)
                rcases hq with ⟨hm2, rfl⟩ | ⟨a2, hm2, rfl, hta2⟩
                · repeat refine kX_one rfl ?_
                  refine kX_ret (i := .ireturn) (len := 1) rfl (Or.inr rfl) rfl (⟨hP3, Or.inl ⟨hm2, rfl⟩⟩)
                · repeat refine kX_one rfl ?_
                  refine kX_ret (i := .ireturn) (len := 1) rfl (Or.inr rfl) rfl (⟨hP3, Or.inr ⟨a2, hm2, rfl, hta2⟩⟩)
            · obtain ⟨x', hx', h4', h6'⟩ : ∃ x', σ 234 v = nI x' ∧ x' < v ∧ x' < n := by
                rcases (hVr v hv).2 with ⟨k', z3, zk, -, -⟩ | ⟨k', x', y', z3, zk, zx, zy, z4, z5, z6, z7⟩ | ⟨k', x', z3, zk, zx, zy, z4, z6⟩
                · have := nI_inj (hk.symm.trans (q6.trans zk))
                  omega
                · have := nI_inj (hk.symm.trans (q6.trans zk))
                  omega
                · exact ⟨x', zx, z4, z6⟩
              have hkv : σ 233 v = nI k := q6.symm.trans hk
              have hyv : σ 235 v = -1 := by
                rcases (hVr v hv).2 with ⟨k', z3, zk, -, -⟩ | ⟨k', x', y', z3, zk, zx, zy, z4, z5, z6, z7⟩ | ⟨k', x', z3, zk, zx, zy, z4, z6⟩
                · have := nI_inj (hk.symm.trans (q6.trans zk))
                  omega
                · have := nI_inj (hk.symm.trans (q6.trans zk))
                  omega
                · exact zy
              have hgv2 := hgv
              rw [tgd_1 hVr hkv hx' hyv (by omega) (by omega) h4' h6'] at hgv2
              have hres : mtF σ (p + 1) p v a = (mtF σ (x + 1) x x' a).bind (fun a' => some a') := by
                rw [mtF, if_neg q4', if_neg q5, if_neg (fun z => z q6), hx, hx', hy, fN_nI (by omega), fN_nI (by omega), mtF_fuel hM p (x + 1) x x' a h6 h4 (by omega)]
                congr 1
              have hdt : kDp σ p = 1 + max (kDp σ x) 0 := by
                have e : ∀ z, z < n → kDp σ z = tdp (σ 233) (σ 234) (σ 235) z := fun z hz => aT_A hM hA (fun _ _ => rfl) hz
                rw [e p hp, e x h6]
                exact tdp_1 hVr hk hx hy (by omega) (by omega) h4 h6
              rw [hres]
              iterate 5 (refine kX_one rfl ?_)
              refine kX_ialdV rfl rfl (by decide) (p) (by first | rfl | decide) (by omega) ((hA p hp).2.1.trans hx) ?_
              iterate 4 (refine kX_one rfl ?_)
              refine kX_ialdV rfl rfl (by decide) (v) (by first | rfl | decide) (by omega) ((hA v hv).2.1.trans hx') ?_
              iterate 3 (refine kX_one rfl ?_)
              refine kX_top (y := nI (dd + 1)) (nI_1 dd) ?_
              refine kX_cal (IH d (dd + 1) σ x x' a (by omega) (by omega) hT hM hA h6 h6' hgv2 ht) rfl (Or.inr rfl) rfl rfl rfl (fun r1 τ q1 => ?_)
              obtain ⟨hP, hq⟩ := q1
              rcases hq with ⟨hm, rfl⟩ | ⟨a', hm, rfl, hta⟩
              · rw [hm]
                repeat refine kX_one rfl ?_
                refine kX_ret (i := .ireturn) (len := 1) rfl (Or.inr rfl) rfl (⟨hP, Or.inl ⟨rfl, rfl⟩⟩)
              · rw [hm]
                have eT : τ 4 p = -1 := by rw [hP 4 (by decide)]; exact (hA p hp).2.2.1.trans hy
                iterate 5 (refine kX_one rfl ?_)
                refine kX_ialdV rfl rfl (by decide) (p) (by first | rfl | decide) (by omega) (eT) ?_
                repeat refine kX_one rfl ?_
                refine kX_ret (i := .ireturn) (len := 1) rfl (Or.inr rfl) rfl (⟨hP, Or.inr ⟨a', rfl, rfl, hta⟩⟩)
          · have q6 : σ 233 p ≠ σ 233 v := qeqF q6
            rw [mtF, if_neg q4', if_neg q5, if_pos q6]
            repeat refine kX_one rfl ?_
            refine kX_ret (i := .ireturn) (len := 1) rfl (Or.inr rfl) rfl (⟨fun _ _ => rfl, Or.inl ⟨rfl, rfl⟩⟩)
        · have q5 : σ 233 p = nI 3 := qneF q5
          iterate 3 (refine kX_one rfl ?_)
          refine kX_cal (mf_mayStand L xs (d + f + 1) σ n b p v a hT hM hA hp hv q5 ht) rfl (Or.inr rfl) rfl rfl rfl (fun r1 τ q1 => ?_)
          obtain ⟨hP, hq⟩ := q1
          rcases hq with ⟨hm, rfl⟩ | ⟨a', hm, rfl, hta⟩
          · refine kX_ret (i := .ireturn) (len := 1) rfl (Or.inr rfl) rfl (⟨hP, Or.inl ⟨hm, rfl⟩⟩)
          · refine kX_ret (i := .ireturn) (len := 1) rfl (Or.inr rfl) rfl (⟨hP, Or.inr ⟨a', hm, rfl, hta⟩⟩)
      · have q4 : tgd (σ 233) (σ 234) (σ 235) p = true := (bI_ne _).mp (qeqF q4)
        rw [mtF, if_pos q4]
        repeat refine kX_one rfl ?_
        refine kX_if (fun q5 => ?_) (fun q5 => ?_)
        · have q5 : p ≠ v := fun e => qne q5 (by rw [e])
          rw [if_neg q5]
          repeat refine kX_one rfl ?_
          refine kX_ret (i := .ireturn) (len := 1) rfl (Or.inr rfl) rfl (⟨fun _ _ => rfl, Or.inl ⟨rfl, rfl⟩⟩)
        · have q5 : p = v := nI_inj (qneF q5)
          rw [if_pos q5]
          repeat refine kX_one rfl ?_
          refine kX_ret (i := .ireturn) (len := 1) rfl (Or.inr rfl) rfl (⟨fun _ _ => rfl, Or.inr ⟨a, rfl, rfl, ht⟩⟩)
