/-! the class: a way is weighed -/
theorem cKw_of {σ : kS} {K st n u : Nat} (h1 : nB σ K st n u) (h2 : nR σ K) (h3 : cKe σ K st u) : cKw σ K st := by
  obtain ⟨ln, a1, a2, a3⟩ := h2
  exact ⟨h1.2.2.2.2.1, u, ln, h1.2.2.1, a1, h1.2.2.2.2.2, a2, a3, h3⟩
theorem cKw_P {σ τ : kS} {K st n : Nat} (hK : isK K st) (hT : cT σ n) (h : cKw σ K st) (hP : nP σ τ K) : cKw τ K st := by
  obtain ⟨u, h1, h2, h3⟩ := cKw_n hK hT h
  have hb := isK_b hK
  refine cKw_of (nB_P h1 hP) hP.2.2.2 (cKe_eq (by omega) hP.2.1 (fun g _ => ?_) h3)
  rw [hP.1 2 (by omega), hP.1 3 (by omega), hP.1 4 (by omega), hP.1 6 (by omega)]
  exact ⟨rfl, rfl, rfl, rfl⟩
set_option maxRecDepth 100000 in
set_option maxHeartbeats 4000000 in
theorem mc_qValueOf (L : Nat) (xs : Nat → Int32) (d : Nat) (σ : kS) (n u s t : Nat) (hT : cT σ n) (ht : t < n) (hs : s < 4) (hv : σ 222 3 = nI (7 * s + 1)) (hB : nB σ 204 776 n u) (he : cKe σ 204 776 u) : kXM kT L xs (d + 3) 36 [.ref 222, .int (nI t)] σ (fun r σ' => (∃ x, r = some (.int x) ∧ (x = -1 → σ 8 t = 0)) ∧ σ = σ') := by
  have hn := hT.1
  unfold kXM
  iterate 4 (refine kX_one rfl ?_)
  refine kX_baldN rfl rfl (by decide) (t) (by first | rfl | decide) (by omega) ?_
  repeat refine kX_one rfl ?_
  refine kX_if (fun q => ?_) (fun q => ?_)
  · have hg0 : σ 8 t = 0 := qeq q
    have k87 : ∀ X Y v : Int32, kX kT L xs (d + 3) 36 87 [(3, .int v), (2, .int X), (0, .ref 222), (1, .int (nI t))] [.int Y] σ (fun r σ' => (∃ x, r = some (.int x) ∧ (x = -1 → σ 8 t = 0)) ∧ σ = σ') := by
      intro X Y v
      have k105 : kX kT L xs (d + 3) 36 105 [(4, .int Y), (3, .int v), (2, .int X), (0, .ref 222), (1, .int (nI t))] [] σ (fun r σ' => (∃ x, r = some (.int x) ∧ (x = -1 → σ 8 t = 0)) ∧ σ = σ') := by
        iterate 11 (refine kX_one rfl ?_)
        refine kX_ialdN rfl rfl (by decide) (t) (by first | rfl | decide) (by omega) ?_
        iterate 2 (refine kX_one rfl ?_)
        refine kX_cal (mc_kFind L xs d σ 204 776 n u _ _ _ hB he hT) rfl (Or.inr rfl) rfl rfl rfl (fun r1 σ1 q1 => ?_)
        obtain ⟨hq, rfl⟩ := q1
        rcases hq with rfl | ⟨z, -, rfl, -⟩ | ⟨z, -, -, rfl⟩
        · repeat refine kX_one rfl ?_
          refine kX_ret (i := .ireturn) (len := 1) rfl (Or.inr rfl) rfl (⟨⟨_, rfl, fun _ => hg0⟩, rfl⟩)
        · repeat refine kX_one rfl ?_
          refine kX_ret (i := .ireturn) (len := 1) rfl (Or.inr rfl) rfl (⟨⟨_, rfl, fun _ => hg0⟩, rfl⟩)
        · repeat refine kX_one rfl ?_
          refine kX_ret (i := .ireturn) (len := 1) rfl (Or.inr rfl) rfl (⟨⟨_, rfl, fun _ => hg0⟩, rfl⟩)
      iterate 1 (refine kX_one rfl ?_)
      repeat refine kX_one rfl ?_
      refine kX_if (fun q => ?_) (fun q => ?_)
      · repeat refine kX_one rfl ?_
        refine kX_ret (i := .ireturn) (len := 1) rfl (Or.inr rfl) rfl (⟨⟨_, rfl, fun _ => hg0⟩, rfl⟩)
      · repeat refine kX_one rfl ?_
        refine kX_if (fun q => ?_) (fun q => ?_)
        · exact kX_lv _ rfl rfl rfl k105
        · repeat refine kX_one rfl ?_
          refine kX_if (fun q => ?_) (fun q => ?_)
          · repeat refine kX_one rfl ?_
            refine kX_ret (i := .ireturn) (len := 1) rfl (Or.inr rfl) rfl (⟨⟨_, rfl, fun _ => hg0⟩, rfl⟩)
          · exact kX_lv _ rfl rfl rfl k105
    iterate 4 (refine kX_one rfl ?_)
    refine kX_ialdN rfl rfl (by decide) (t) (by first | rfl | decide) (by omega) ?_
    repeat refine kX_one rfl ?_
    refine kX_if (fun q2 => ?_) (fun q2 => ?_)
    · obtain ⟨x, x1, x2, hy⟩ := cT_open hT ht hg0 (qne q2)
      iterate 6 (refine kX_one rfl ?_)
      refine kX_ialdV rfl rfl (by decide) (t) (by first | rfl | decide) (by omega) (x2) ?_
      refine kX_ialdN rfl rfl (by decide) (x) (by first | rfl | decide) (by omega) ?_
      iterate 5 (refine kX_one rfl ?_)
      rcases hy with ⟨y, y1, y2⟩ | ⟨y2, -⟩
      · refine kX_ialdV rfl rfl (by decide) (t) (by first | rfl | decide) (by omega) (y2) ?_
        iterate 1 (refine kX_one rfl ?_)
        repeat refine kX_one rfl ?_
        refine kX_if (fun q3 => ?_) (fun q3 => ?_)
        · iterate 3 (refine kX_one rfl ?_)
          refine kX_ialdN rfl rfl (by decide) (y) (by first | rfl | decide) (by omega) ?_
          exact kX_lv _ rfl rfl rfl (k87 _ _ _)
        · exact absurd (qneF q3) (nI_m1 (by omega))
      · refine kX_ialdV rfl rfl (by decide) (t) (by first | rfl | decide) (by omega) (y2) ?_
        iterate 6 (refine kX_one rfl ?_)
        exact kX_lv _ rfl rfl rfl (k87 _ _ _)
    · obtain ⟨-, p, p1, p2⟩ := (hT.2.2.2 t ht).2.2.2.2.1 (qneF q2)
      iterate 4 (refine kX_one rfl ?_)
      refine kX_top (hv) ?_
      iterate 4 (refine kX_one rfl ?_)
      refine kX_ialdV rfl rfl (by decide) (t) (by first | rfl | decide) (by omega) (p2) ?_
      iterate 1 (refine kX_one rfl ?_)
      refine kX_top (y := nI (7 * s + 1 + p)) (nI_add (7 * s + 1) p) ?_
      refine kX_ialdN rfl rfl (by decide) (7 * s + 1 + p) (by first | rfl | decide) (by omega) ?_
      refine kX_ret (i := .ireturn) (len := 1) rfl (Or.inr rfl) rfl (⟨⟨_, rfl, fun _ => hg0⟩, rfl⟩)
  · repeat refine kX_one rfl ?_
    refine kX_ret (i := .ireturn) (len := 1) rfl (Or.inr rfl) rfl (⟨⟨_, rfl, fun e => absurd e (nI_m1 (by omega))⟩, rfl⟩)
set_option maxRecDepth 100000 in
set_option maxHeartbeats 4000000 in
theorem mc_canCompose (L : Nat) (xs : Nat → Int32) (d : Nat) (σ : kS) (n u t : Nat) (hT : cT σ n) (ht : t < n) (hg0 : σ 8 t = 0) (hB : nB σ 204 776 n u) (hcan : ∀ j, j < 200 → σ 231 j = 0 ∨ σ 231 j = 1) : kXM kT L xs (d + 2) 37 [.ref 222, .int (nI t)] σ (fun r σ' => (r = some (.int 0) ∨ r = some (.int 1)) ∧ σ = σ') := by
  have hn := hT.1
  obtain ⟨k, k9, hk⟩ := (hT.2.2.2 t ht).1
  unfold kXM
  by_cases hk3 : k ≤ 3
  · iterate 4 (refine kX_one rfl ?_)
    refine kX_ialdN rfl rfl (by decide) (t) (by first | rfl | decide) (by omega) ?_
    iterate 5 (refine kX_one rfl ?_)
    refine kX_ialdN rfl rfl (by decide) (t) (by first | rfl | decide) (by omega) ?_
    iterate 5 (refine kX_one rfl ?_)
    refine kX_ialdV rfl rfl (by decide) (t) (by first | rfl | decide) (by omega) (hk) ?_
    have : k = 0 ∨ k = 1 ∨ k = 2 ∨ k = 3 := by omega
    rcases this with rfl | rfl | rfl | rfl
    · repeat refine kX_one rfl ?_
      refine kX_ret (i := .ireturn) (len := 1) rfl (Or.inr rfl) rfl (⟨Or.inl rfl, rfl⟩)
    · repeat refine kX_one rfl ?_
      refine kX_ret (i := .ireturn) (len := 1) rfl (Or.inr rfl) rfl (⟨Or.inl rfl, rfl⟩)
    · repeat refine kX_one rfl ?_
      refine kX_ret (i := .ireturn) (len := 1) rfl (Or.inr rfl) rfl (⟨Or.inl rfl, rfl⟩)
    · repeat refine kX_one rfl ?_
      refine kX_ret (i := .ireturn) (len := 1) rfl (Or.inr rfl) rfl (⟨Or.inl rfl, rfl⟩)
  · obtain ⟨x, x1, x2, hy⟩ := cT_open hT ht hg0 (by rw [hk]; exact nI_ne (b := 3) (by omega))
    have hy' : k ≠ 7 → k ≠ 9 → ∃ y, y < t ∧ σ 4 t = nI y := fun a b => by
      rcases hy with hy | ⟨-, z | z⟩
      · exact hy
      · exact absurd (nI_inj (hk.symm.trans z)) a
      · exact absurd (nI_inj (hk.symm.trans z)) b
    have hx200 : x < 200 := by omega
    iterate 4 (refine kX_one rfl ?_)
    refine kX_ialdV rfl rfl (by decide) (t) (by first | rfl | decide) (by omega) (x2) ?_
    iterate 5 (refine kX_one rfl ?_)
    have : k = 4 ∨ k = 5 ∨ k = 6 ∨ k = 7 ∨ k = 8 ∨ k = 9 := by omega
    rcases this with rfl | rfl | rfl | rfl | rfl | rfl
    · obtain ⟨y, y1, y2⟩ := hy' (by decide) (by decide)
      refine kX_ialdV rfl rfl (by decide) (t) (by first | rfl | decide) (by omega) (y2) ?_
      iterate 5 (refine kX_one rfl ?_)
      refine kX_ialdV rfl rfl (by decide) (t) (by first | rfl | decide) (by omega) (hk) ?_
      iterate 4 (refine kX_one rfl ?_)
      refine kX_baldN rfl rfl (by decide) (x) (by first | rfl | decide) (by omega) ?_
      repeat refine kX_one rfl ?_
      refine kX_if (fun q => ?_) (fun q => ?_)
      · repeat refine kX_one rfl ?_
        refine kX_ret (i := .ireturn) (len := 1) rfl (Or.inr rfl) rfl (⟨Or.inl rfl, rfl⟩)
      · iterate 3 (refine kX_one rfl ?_)
        refine kX_baldN rfl rfl (by decide) (y) (by first | rfl | decide) (by omega) ?_
        repeat refine kX_one rfl ?_
        refine kX_if (fun q => ?_) (fun q => ?_)
        · repeat refine kX_one rfl ?_
          refine kX_ret (i := .ireturn) (len := 1) rfl (Or.inr rfl) rfl (⟨Or.inl rfl, rfl⟩)
        · repeat refine kX_one rfl ?_
          refine kX_ret (i := .ireturn) (len := 1) rfl (Or.inr rfl) rfl (⟨Or.inr rfl, rfl⟩)
    · obtain ⟨y, y1, y2⟩ := hy' (by decide) (by decide)
      refine kX_ialdV rfl rfl (by decide) (t) (by first | rfl | decide) (by omega) (y2) ?_
      iterate 5 (refine kX_one rfl ?_)
      refine kX_ialdV rfl rfl (by decide) (t) (by first | rfl | decide) (by omega) (hk) ?_
      iterate 4 (refine kX_one rfl ?_)
      refine kX_baldN rfl rfl (by decide) (x) (by first | rfl | decide) (by omega) ?_
      repeat refine kX_one rfl ?_
      refine kX_if (fun q => ?_) (fun q => ?_)
      · repeat refine kX_one rfl ?_
        refine kX_ret (i := .ireturn) (len := 1) rfl (Or.inr rfl) rfl (⟨Or.inl rfl, rfl⟩)
      · iterate 3 (refine kX_one rfl ?_)
        refine kX_baldN rfl rfl (by decide) (y) (by first | rfl | decide) (by omega) ?_
        repeat refine kX_one rfl ?_
        refine kX_if (fun q => ?_) (fun q => ?_)
        · repeat refine kX_one rfl ?_
          refine kX_ret (i := .ireturn) (len := 1) rfl (Or.inr rfl) rfl (⟨Or.inl rfl, rfl⟩)
        · repeat refine kX_one rfl ?_
          refine kX_ret (i := .ireturn) (len := 1) rfl (Or.inr rfl) rfl (⟨Or.inr rfl, rfl⟩)
    · refine kX_ialdN rfl rfl (by decide) (t) (by first | rfl | decide) (by omega) ?_
      iterate 5 (refine kX_one rfl ?_)
      refine kX_ialdV rfl rfl (by decide) (t) (by first | rfl | decide) (by omega) (hk) ?_
      iterate 4 (refine kX_one rfl ?_)
      rcases hcan x hx200 with e | e
      · refine kX_baldV rfl rfl (by decide) x (by rfl) (by omega) e ?_
        refine kX_ret (i := .ireturn) (len := 1) rfl (Or.inr rfl) rfl (⟨Or.inl rfl, rfl⟩)
      · refine kX_baldV rfl rfl (by decide) x (by rfl) (by omega) e ?_
        refine kX_ret (i := .ireturn) (len := 1) rfl (Or.inr rfl) rfl (⟨Or.inr rfl, rfl⟩)
    · refine kX_ialdN rfl rfl (by decide) (t) (by first | rfl | decide) (by omega) ?_
      iterate 5 (refine kX_one rfl ?_)
      refine kX_ialdV rfl rfl (by decide) (t) (by first | rfl | decide) (by omega) (hk) ?_
      iterate 6 (refine kX_one rfl ?_)
      refine kX_ialdN rfl rfl (by decide) (x) (by first | rfl | decide) (by omega) ?_
      refine kX_cal (mc_hasPriv L xs d σ 204 776 n u _ hB) rfl (Or.inr rfl) rfl rfl rfl (fun r1 σ1 q1 => ?_)
      obtain ⟨hq, rfl⟩ := q1
      rcases hq with rfl | rfl
      · refine kX_ret (i := .ireturn) (len := 1) rfl (Or.inr rfl) rfl (⟨Or.inl rfl, rfl⟩)
      · refine kX_ret (i := .ireturn) (len := 1) rfl (Or.inr rfl) rfl (⟨Or.inr rfl, rfl⟩)
    · obtain ⟨y, y1, y2⟩ := hy' (by decide) (by decide)
      refine kX_ialdV rfl rfl (by decide) (t) (by first | rfl | decide) (by omega) (y2) ?_
      iterate 5 (refine kX_one rfl ?_)
      refine kX_ialdV rfl rfl (by decide) (t) (by first | rfl | decide) (by omega) (hk) ?_
      iterate 4 (refine kX_one rfl ?_)
      refine kX_baldN rfl rfl (by decide) (x) (by first | rfl | decide) (by omega) ?_
      repeat refine kX_one rfl ?_
      refine kX_if (fun q => ?_) (fun q => ?_)
      · repeat refine kX_one rfl ?_
        refine kX_ret (i := .ireturn) (len := 1) rfl (Or.inr rfl) rfl (⟨Or.inl rfl, rfl⟩)
      · iterate 5 (refine kX_one rfl ?_)
        refine kX_ialdN rfl rfl (by decide) (y) (by first | rfl | decide) (by omega) ?_
        refine kX_cal (mc_hasPriv L xs d σ 204 776 n u _ hB) rfl (Or.inr rfl) rfl rfl rfl (fun r1 σ1 q1 => ?_)
        obtain ⟨hq, rfl⟩ := q1
        rcases hq with rfl | rfl
        · repeat refine kX_one rfl ?_
          refine kX_ret (i := .ireturn) (len := 1) rfl (Or.inr rfl) rfl (⟨Or.inl rfl, rfl⟩)
        · repeat refine kX_one rfl ?_
          refine kX_ret (i := .ireturn) (len := 1) rfl (Or.inr rfl) rfl (⟨Or.inr rfl, rfl⟩)
    · refine kX_ialdN rfl rfl (by decide) (t) (by first | rfl | decide) (by omega) ?_
      iterate 5 (refine kX_one rfl ?_)
      refine kX_ialdV rfl rfl (by decide) (t) (by first | rfl | decide) (by omega) (hk) ?_
      iterate 4 (refine kX_one rfl ?_)
      rcases hcan x hx200 with e | e
      · refine kX_baldV rfl rfl (by decide) x (by rfl) (by omega) e ?_
        refine kX_ret (i := .ireturn) (len := 1) rfl (Or.inr rfl) rfl (⟨Or.inl rfl, rfl⟩)
      · refine kX_baldV rfl rfl (by decide) x (by rfl) (by omega) e ?_
        refine kX_ret (i := .ireturn) (len := 1) rfl (Or.inr rfl) rfl (⟨Or.inr rfl, rfl⟩)
def wgP (σ τ : kS) : Prop := (∀ c, c < 204 ∨ 213 ≤ c → c ≠ 230 → c ≠ 231 → τ c = σ c) ∧ cKw τ 204 776 ∧ ∀ j, j < 200 → τ 231 j = 0 ∨ τ 231 j = 1
theorem cT_wg {σ τ : kS} {n : Nat} (h : wgP σ τ) (hT : cT σ n) : cT τ n := cT_eq (by rw [h.1 1 (by decide) (by decide) (by decide)]) (h.1 _ (by decide) (by decide) (by decide)) (fun u _ => ⟨by rw [h.1 2 (by decide) (by decide) (by decide)], by rw [h.1 3 (by decide) (by decide) (by decide)], by rw [h.1 4 (by decide) (by decide) (by decide)], by rw [h.1 8 (by decide) (by decide) (by decide)], by rw [h.1 12 (by decide) (by decide) (by decide)], by rw [h.1 6 (by decide) (by decide) (by decide)]⟩) hT
theorem wg_is {σ τ : kS} {f : Nat → Int32} (h : wgP σ τ) : wgP σ (va_up τ 230 f) := ⟨fun c a b e => (up_ne b).trans (h.1 c a b e), h.2.1, h.2.2⟩
theorem wg_can {σ τ : kS} {t : Nat} {x : Int32} (h : wgP σ τ) (hx : x = 0 ∨ x = 1) : wgP σ (va_up τ 231 (upd (τ 231) t x)) := ⟨fun c a b e => (up_ne e).trans (h.1 c a b e), h.2.1, fun j hj => by
  rw [up_eq]
  by_cases e : j = t
  · subst e
    rw [pk_us]
    exact hx
  · rw [pk_un e]
    exact h.2.2 j hj⟩
set_option maxRecDepth 100000 in
set_option maxHeartbeats 4000000 in
theorem mc_weigh (L : Nat) (xs : Nat → Int32) (d : Nat) (σ : kS) (n r k s f : Nat) (hT : cT σ n) (hr4 : r < 4) (hk6 : k < 6) (hE : cE σ n (28 + 35 * r + 5 * k)) (hf : f ≤ 24) (hs : s < 4) (hv : σ 222 3 = nI (7 * s + 1)) (hw : wgP σ σ) : kXM kT L xs (d + 52) 35 [.ref 222, .ref (28 + 35 * r + 5 * k), .int (nI f)] σ (fun q σ' => (q = some (.int 0) ∨ q = some (.int 1)) ∧ wgP σ σ') := by
  have hK : isK 204 776 := Or.inr (Or.inl ⟨rfl, rfl⟩)
  have hn := hT.1
  have b0 : 28 + 35 * r + 5 * k < 163 := ev_b r k 0 hr4 hk6 (by decide)
  have b3 := ev_b r k 3 hr4 hk6 (by decide)
  obtain ⟨t, mm, qq, t1, -, q24, t2, -, q2, -, pt⟩ := hE
  have loop : ∀ q : Nat × kS, (q.1 ≤ 24 ∧ wgP σ q.2) → kX kT L xs (d + 52) 35 2 [(3, .int (nI q.1)), (0, .ref 222), (1, .ref (28 + 35 * r + 5 * k)), (2, .int (nI f))] [] q.2 (fun q σ' => (q = some (.int 0) ∨ q = some (.int 1)) ∧ wgP σ σ') := by
    refine kX_while (fun q : Nat × kS => [(3, .int (nI q.1)), (0, .ref 222), (1, .ref (28 + 35 * r + 5 * k)), (2, .int (nI f))]) (fun q => q.2) _ (fun q => 24 - q.1) ?_
    rintro ⟨i, τ⟩ ⟨i1, i2⟩ ih
    dsimp only at i1 i2 ih ⊢
    have ee : ∀ c, c < 163 → τ c = σ c := fun c hc => i2.1 c (by omega) (by omega) (by omega)
    iterate 2 (refine kX_one rfl ?_)
    refine kX_getN rfl rfl (kT_ev hr4 hk6) rfl ?_
    refine kX_top (y := nI qq) (by rw [ee _ b0]; exact q2) ?_
    repeat refine kX_one rfl ?_
    refine kX_if (fun q => ?_) (fun q => ?_)
    · iterate 3 (refine kX_one rfl ?_)
      refine kX_getN rfl rfl (kT_ev hr4 hk6) rfl ?_
      refine kX_top (y := nI t) (by rw [ee _ b0]; exact t2) ?_
      rcases i2.2.2 t (by omega) with e | e
      · refine kX_baldV rfl rfl (by decide) t (by rfl) (by omega) e ?_
        refine kX_ret (i := .ireturn) (len := 1) rfl (Or.inr rfl) rfl (⟨Or.inl rfl, i2⟩)
      · refine kX_baldV rfl rfl (by decide) t (by rfl) (by omega) e ?_
        refine kX_ret (i := .ireturn) (len := 1) rfl (Or.inr rfl) rfl (⟨Or.inr rfl, i2⟩)
    · have q := qgeF q i qq
      obtain ⟨tp, p1, p2⟩ := pt i q
      have hTt := cT_wg i2 hT
      obtain ⟨u, hB, hR, he⟩ := cKw_n hK hTt i2.2.1
      have hvt : τ 222 3 = nI (7 * s + 1) := by rw [i2.1 222 (by decide) (by decide) (by decide)]; exact hv
      have k73 : ∀ τ', wgP σ τ' → kX kT L xs (d + 52) 35 73 [(3, .int (nI i)), (0, .ref 222), (1, .ref (28 + 35 * r + 5 * k)), (2, .int (nI f))] [] τ' (fun q σ' => (q = some (.int 0) ∨ q = some (.int 1)) ∧ wgP σ σ') := by
        intro τ' ht
        iterate 2 (refine kX_one rfl ?_)
        have := ih (i + 1, τ') ⟨by simp only; omega, ht⟩ (by simp only; omega)
        dsimp only at this
        rw [← nI_1] at this
        exact kX_lv _ rfl rfl rfl this
      iterate 1 (refine kX_one rfl ?_)
      refine kX_getN rfl rfl (kT_ev hr4 hk6) rfl ?_
      iterate 1 (refine kX_one rfl ?_)
      refine kX_ialdV rfl ((kT_e3 hr4 hk6).1) (by decide) (i) (by first | rfl | decide) (by omega) ((congrFun (ee _ b3) i).trans p2) ?_
      iterate 6 (refine kX_one rfl ?_)
      refine kX_cal (mc_qValueOf L xs (d + 48) τ n u s tp hTt p1 hs hvt hB he) rfl (Or.inr rfl) rfl rfl rfl (fun r1 σ1 q1 => ?_)
      obtain ⟨⟨x, rfl, hx⟩, rfl⟩ := q1
      refine kX_iastN rfl rfl (by decide) (tp) (by first | rfl | decide) (by omega) ?_
      have j2 : wgP σ (va_up τ 230 (upd (τ 230) tp x)) := wg_is i2
      have hT1 := cT_wg j2 hT
      have hB1 : nB (va_up τ 230 (upd (τ 230) tp x)) 204 776 n u := hB
      have hR1 : nR (va_up τ 230 (upd (τ 230) tp x)) 204 := hR
      have hx1 : va_up τ 230 (upd (τ 230) tp x) 230 tp = x := by rw [up_eq, pk_us]
      have hg1 : x = -1 → va_up τ 230 (upd (τ 230) tp x) 8 tp = 0 := hx
      generalize va_up τ 230 (upd (τ 230) tp x) = ω at *
      iterate 6 (refine kX_one rfl ?_)
      refine kX_ialdV rfl rfl (by decide) tp (by rfl) (by omega) hx1 ?_
      repeat refine kX_one rfl ?_
      refine kX_if (fun q3 => ?_) (fun q3 => ?_)
      · iterate 2 (refine kX_one rfl ?_)
        refine kX_cal (mc_canCompose L xs (d + 49) ω n u tp hT1 p1 (hg1 (qeq q3)) hB1 j2.2.2) rfl (Or.inr rfl) rfl rfl rfl (fun r1 σ1 q1 => ?_)
        obtain ⟨hq, rfl⟩ := q1
        rcases hq with rfl | rfl
        · refine kX_bastN rfl rfl (by decide) (tp) (by first | rfl | decide) (by omega) (Or.inl rfl) ?_
          exact kX_lv _ rfl rfl rfl (k73 _ (wg_can j2 (Or.inl rfl)))
        · refine kX_bastN rfl rfl (by decide) (tp) (by first | rfl | decide) (by omega) (Or.inr rfl) ?_
          exact kX_lv _ rfl rfl rfl (k73 _ (wg_can j2 (Or.inr rfl)))
      · iterate 5 (refine kX_one rfl ?_)
        refine kX_ialdN rfl rfl (by decide) (tp) (by first | rfl | decide) (by omega) ?_
        iterate 1 (refine kX_one rfl ?_)
        refine kX_cal (mc_canMake L xs 204 776 n u 49 d 0 ω _ rfl hB1 hR1) rfl (Or.inr rfl) rfl rfl rfl (fun r1 ρ q1 => ?_)
        obtain ⟨hq, hP⟩ := q1
        have j3 : wgP σ ρ := ⟨fun c a b e => (hP.1 c (by omega)).trans (j2.1 c a b e), cKw_P hK hT1 j2.2.1 hP, fun j hj => by
          rw [hP.1 231 (by decide)]
          exact j2.2.2 j hj⟩
        rcases hq with rfl | rfl
        · iterate 1 (refine kX_one rfl ?_)
          refine kX_bastN rfl rfl (by decide) (tp) (by first | rfl | decide) (by omega) (Or.inl rfl) ?_
          exact kX_lv _ rfl rfl rfl (k73 _ (wg_can j3 (Or.inl rfl)))
        · iterate 1 (refine kX_one rfl ?_)
          refine kX_bastN rfl rfl (by decide) (tp) (by first | rfl | decide) (by omega) (Or.inr rfl) ?_
          exact kX_lv _ rfl rfl rfl (k73 _ (wg_can j3 (Or.inr rfl)))
  unfold kXM
  iterate 2 (refine kX_one rfl ?_)
  exact kX_lv _ rfl rfl rfl (loop (f, σ) ⟨hf, hw⟩)
