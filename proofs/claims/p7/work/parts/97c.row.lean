/-! the reference: lasting and row -/
set_option maxRecDepth 100000 in
set_option maxHeartbeats 4000000 in
theorem mr_lo_two (L : Nat) (xs : Nat → Int32) (d : Nat) (σ : kS) (n b : Nat) (l : List Nat) (h : mTb σ n b) (hb : b ≤ 776) (hL : foL σ b l) (h200 : n + l.length ≤ 200) (NK NF NS : Nat → Int32) (hI : loI σ n l NK NF NS l.length) (tv : Int32) (Q : Option Value → kS → Prop)
    (he : ∀ τ, mGr σ τ n → loK σ τ n l l.length → (0 < l.length → mTb τ (n + l.length) 200 ∧ τ 232 47 = 0) → kX kT L xs (d + 4) 203 179 [(0, .ref 232), (1, .int tv)] [] τ Q) :
    ∀ q : Nat × kS, (q.1 ≤ l.length ∧ (∃ bk, mTb q.2 (n + q.1) bk) ∧ mGr σ q.2 n ∧ q.2 281 = NK ∧ q.2 282 = NF ∧ q.2 283 = NS ∧ loK σ q.2 n l q.1 ∧ (0 < q.1 → mTb q.2 (n + q.1) 200 ∧ q.2 232 47 = 0)) → kX kT L xs (d + 4) 203 131 [(4, .int (nI q.1)), (0, .ref 232), (1, .int tv), (2, .int (nI l.length)), (3, .int (nI n))] [] q.2 Q := by
  refine kX_while (fun q : Nat × kS => [(4, .int (nI q.1)), (0, .ref 232), (1, .int tv), (2, .int (nI l.length)), (3, .int (nI n))]) (fun q => q.2) _ (fun q => l.length - q.1) ?_
  rintro ⟨k, τ⟩ ⟨i1, ⟨bk, i2⟩, i3, i4, i5, i6, i7, i8⟩ ih
  dsimp only at i1 i2 i3 i4 i5 i6 i7 i8 ih ⊢
  have hn := h.1
  iterate 2 (refine kX_one rfl ?_)
  repeat refine kX_one rfl ?_
  refine kX_if (fun q => ?_) (fun q => ?_)
  · have q := qge q k l.length
    have : k = l.length := by omega
    subst this
    exact kX_lv _ rfl rfl rfl (he τ i3 i7 i8)
  · have q := qgeF q k l.length
    obtain ⟨g1, g2, g3⟩ := hI k q q
    have ha := loT_of hn (by omega) g2
    have hc := loT_of hn (by omega) g3
    obtain ⟨kd, x, y, n1, n2, n3, n4, n5, n6, n7, n8⟩ := lo_next h hb i2 i3 hL i7 q ha hc
    have hlast := mr_last L xs d τ (n + k) bk kd _ _ x y i2 (by omega) n4 n5 n6 n7 n8
    iterate 4 (refine kX_one rfl ?_)
    refine kX_ialdV rfl rfl (by decide) (k) (by first | rfl | decide) (by omega) (by rw [i4, g1, n1]) ?_
    iterate 4 (refine kX_one rfl ?_)
    refine kX_ialdV rfl rfl (by decide) (k) (by first | rfl | decide) (by omega) (by rw [i5]) ?_
    iterate 1 (refine kX_one rfl ?_)
    refine kX_cal (mr_lastOf L xs (d + 2) τ (NF k) (nI n)) rfl (Or.inr rfl) rfl rfl rfl (fun r1 σ1 q1 => ?_)
    obtain ⟨rfl, rfl⟩ := q1
    iterate 4 (refine kX_one rfl ?_)
    refine kX_ialdV rfl rfl (by decide) (k) (by first | rfl | decide) (by omega) (by rw [i6]) ?_
    iterate 1 (refine kX_one rfl ?_)
    refine kX_cal (mr_lastOf L xs (d + 2) τ (NS k) (nI n)) rfl (Or.inr rfl) rfl rfl rfl (fun r1 σ1 q1 => ?_)
    obtain ⟨rfl, rfl⟩ := q1
    refine kX_cal hlast rfl (Or.inr rfl) rfl rfl rfl (fun r1 σ1 q1 => ?_)
    obtain ⟨rfl, hN⟩ := q1
    have hN : mNw τ σ1 (n + k) kd _ _ := hN
    have hG2 := mGr_new hN
    have hrt := mNw_rit hN
    have hK2 := loK_new i7 q hN n1 ha hc
    have hcc : ∀ c, c = 281 ∨ c = 282 ∨ c = 283 → σ1 c = τ c := by
      obtain ⟨z, g, nx, hd, jd, rfl, -⟩ := hN
      rintro c (rfl | rfl | rfl) <;> rfl
    have hT2 : mTb σ1 (n + k + 1) 200 := by
      obtain ⟨z, g, nx, hd, jd, -, hT⟩ := hN
      exact hT
    iterate 3 (refine kX_one rfl ?_)
    have := ih (k + 1, σ1) ⟨by simp only; omega, ⟨200, hT2⟩, mGr_trans i3 hG2 (by omega), (hcc _ (Or.inl rfl)).trans i4, (hcc _ (Or.inr (Or.inl rfl))).trans i5, (hcc _ (Or.inr (Or.inr rfl))).trans i6, hK2, fun _ => ⟨hT2, hrt⟩⟩ (by simp only; omega)
    dsimp only at this
    rw [← nI_1] at this
    exact kX_lv _ rfl rfl rfl this
/-- what order is found by changes nothing else -/
theorem mI_fo {σ : kS} {n b R S C : Nat} {kl : List Nat} {W I O : Nat → Int32} {m : Int32} (h : mI σ n b R S C kl) : mI (foS σ W I O m) n b R S C kl := by
  obtain ⟨g1, g2, g3, g4, g5, g6, g7⟩ := h
  refine ⟨g1, g2, g3, g4, g5, ?_, g7⟩
  rcases g6 with g6 | ⟨g6, ds, d1, d2, d3⟩
  · exact Or.inl g6
  · refine Or.inr ⟨g6, ds, d1, d2, ?_⟩
    rcases d3 with d3 | ⟨d3, d4, l, l1, l2, l3⟩
    · exact Or.inl d3
    · refine Or.inr ⟨d3, d4, l, l1, l2, ?_⟩
      rw [trRun_eq (σ := σ) (τ := foS σ W I O m) ⟨rfl, rfl, rfl, rfl, rfl, rfl, rfl, rfl, rfl⟩, ← l3]
      rfl
theorem mI_lo {σ : kS} {n b R S C : Nat} {kl : List Nat} {W I O : Nat → Int32} (h : mI σ n b R S C kl) : mI (loS σ W I O) n b R S C kl := by
  obtain ⟨g1, g2, g3, g4, g5, g6, g7⟩ := h
  refine ⟨g1, g2, g3, g4, g5, ?_, g7⟩
  rcases g6 with g6 | ⟨g6, ds, d1, d2, d3⟩
  · exact Or.inl g6
  · refine Or.inr ⟨g6, ds, d1, d2, ?_⟩
    rcases d3 with d3 | ⟨d3, d4, l, l1, l2, l3⟩
    · exact Or.inl d3
    · refine Or.inr ⟨d3, d4, l, l1, l2, ?_⟩
      rw [trRun_eq (σ := σ) (τ := loS σ W I O) ⟨rfl, rfl, rfl, rfl, rfl, rfl, rfl, rfl, rfl⟩, ← l3]
      rfl
set_option maxRecDepth 100000 in
set_option maxHeartbeats 4000000 in
theorem mr_lasting (L : Nat) (xs : Nat → Int32) (d : Nat) (σ : kS) (n b R S C : Nat) (kl : List Nat) (t : Nat) (h : mI σ n b R S C kl) (hb : b ≤ 776) (ht : 200 ≤ t) (htb : t < b) (h24 : tsz (σ 233) (σ 234) (σ 235) t ≤ 24) : kXM kT L xs (d + 4) 203 [.ref 232, .int (nI t)] σ (fun r σ' => (∃ x, r = some (.int x)) ∧ mAfter σ σ' R) := by
  have hT := h.1
  have hn := hT.1
  unfold kXM
  iterate 2 (refine kX_one rfl ?_)
  refine kX_cal (mr_findOrder L xs (d + 1) σ n b t hT hb ht htb h24) rfl (Or.inr rfl) rfl rfl rfl (fun r1 σ1 q1 => ?_)
  obtain ⟨rfl, l, W, I, O, rfl, hl, hL, htl⟩ := q1
  have hll := foL_len hL hb
  have hI1 : mI (foS σ W I O (nI l.length)) n b R S C kl := mI_fo h
  have hL1 : foL (foS σ W I O (nI l.length)) b l := hL
  have hlow : mLow σ (foS σ W I O (nI l.length)) := fun c hc => by
    unfold foS va_up
    rw [if_neg (by omega), if_neg (by omega), if_neg (by omega), if_neg (by omega)]
  have hord : foS σ W I O (nI l.length) 232 61 = nI l.length := rfl
  have hord2 : lst (foS σ W I O (nI l.length) 279) l := hl
  have hter : foS σ W I O (nI l.length) 232 9 = nI n := hI1.1.2.2.2.1
  generalize foS σ W I O (nI l.length) = ρ at *
  have k23 : n + l.length ≤ 200 → kX kT L xs (d + 4) 203 23 [(0, .ref 232), (1, .int (nI t))] [] ρ (fun r σ' => (∃ x, r = some (.int x)) ∧ mAfter σ σ' R) := by
    intro h200
    iterate 2 (refine kX_one rfl ?_)
    have h1 := mr_lo_one L xs (d + 2) ρ n b l hI1.1 hb hord2 hord hL1 (nI t) (fun r σ' => (∃ x, r = some (.int x)) ∧ mAfter σ σ' R) (fun NK NF NS hlo => ?_) (0, ρ 281, ρ 282, ρ 283) ⟨Nat.zero_le _, fun j _ hj => absurd hj (Nat.not_lt_zero _)⟩
    · refine kX_to _ _ rfl rfl rfl ?_ h1
      funext c; unfold loS va_up; repeat' split
      all_goals first | rfl | omega | (subst_vars; rfl) | (funext j; unfold upd; repeat' split; all_goals first | rfl | omega | (subst_vars; rfl))
    · have hT3 : mTb (loS ρ NK NF NS) n b := hI1.1
      have hI3 : mI (loS ρ NK NF NS) n b R S C kl := mI_lo hI1
      have hL3 : foL (loS ρ NK NF NS) b l := hL1
      have hlo3 : loI (loS ρ NK NF NS) n l NK NF NS l.length := hlo
      have hlow3 : mLow σ (loS ρ NK NF NS) := mLow_trans hlow (fun c hc => by
        unfold loS va_up
        rw [if_neg (by omega), if_neg (by omega), if_neg (by omega)])
      have h2 := mr_lo_two L xs d (loS ρ NK NF NS) n b l hT3 hb hL3 h200 NK NF NS hlo3 (nI t) (fun r σ' => (∃ x, r = some (.int x)) ∧ mAfter σ σ' R) (fun τ g1 g2 g3 => ?_) (0, loS ρ NK NF NS) ⟨Nat.zero_le _, ⟨b, hT3⟩, ⟨fun _ _ => rfl, fun _ _ => rfl, fun _ _ => ⟨rfl, rfl, rfl⟩⟩, rfl, rfl, rfl, fun j _ hj => absurd hj (Nat.not_lt_zero _), fun hj => absurd hj (Nat.lt_irrefl _)⟩
      · iterate 2 (refine kX_one rfl ?_)
        refine kX_top (hord) ?_
        iterate 3 (refine kX_one rfl ?_)
        refine kX_top (hter) ?_
        iterate 3 (refine kX_one rfl ?_)
        exact kX_lv _ rfl rfl rfl h2
      · have hpos : 0 < l.length := List.length_pos_of_mem htl
        obtain ⟨g4, g5⟩ := g3 hpos
        repeat refine kX_one rfl ?_
        refine kX_ret (i := .ireturn) (len := 1) rfl (Or.inr rfl) rfl ⟨⟨_, rfl⟩, mLow_trans hlow3 (mLow_gr g1), n + l.length, 200, S, C, kl, mI_gr hI3 g1 (by omega) (fun u u1 u2 => ?_) g4 g5⟩
        obtain ⟨j, rfl⟩ : ∃ j, u = n + j := ⟨u - n, by omega⟩
        have hj : j < l.length := by omega
        obtain ⟨x1, x2, -⟩ := hL3.1 _ (List.getElem_mem hj)
        have := hT3.2.2.2.2.2.2.2.2.1 _ x1 x2
        rw [(g2 j hj hj).1]
        intro e
        rw [e, fN_nI (by omega)] at this
        omega
  iterate 2 (refine kX_one rfl ?_)
  refine kX_top (hter) ?_
  iterate 2 (refine kX_one rfl ?_)
  refine kX_top (hord) ?_
  iterate 1 (refine kX_one rfl ?_)
  refine kX_top (nI_add n l.length) ?_
  iterate 1 (refine kX_one rfl ?_)
  repeat refine kX_one rfl ?_
  refine kX_if (fun q => ?_) (fun q => ?_)
  · have q := qle q (n + l.length) 200
    exact k23 q
  · repeat refine kX_one rfl ?_
    refine kX_ret (i := .ireturn) (len := 1) rfl (Or.inr rfl) rfl (⟨⟨_, rfl⟩, hlow, n, b, S, C, kl, hI1⟩)
