/-! alike: the reference's row -/
/-- the place i of the row gets a number -/
def rowOk (σ : kS) (n : Nat) (tr : trT) (i : Nat) (q : Jvm.Term × Int32 × Int32) : Prop := tr[i]? = some q ∧ ¬ numN σ n q.1 ∧ vsz q.1 ≤ 24 ∧ n + (poT (numN σ n) q.1 []).length ≤ 200
set_option maxRecDepth 100000 in
set_option maxHeartbeats 4000000 in
theorem mg_row (L : Nat) (xs : Nat → Int32) (d : Nat) (σ : kS) (n b R S C : Nat) (kl : List Nat) (x w : Int32) (Q : Option Value → kS → Prop) (h : mI σ n b R S C kl) (hO : ¬ (isN w 5 ∧ σ 232 52 = 1) → ∀ z, Q (some (.int z)) σ)
    (hF : ∀ ds b' σ' z, isN w 5 → σ 232 52 = 1 → mRn σ n R S ds → ¬ (w = nI 4 ∧ ∃ i q, x = nI i ∧ rowOk σ n (trRun σ kl ds) i q) → mFr σ σ' n → mI σ' n b' R S C kl → Q (some (.int z)) σ')
    (hM : ∀ ds i q σ' z, w = nI 4 → σ 232 52 = 1 → mRn σ n R S ds → x = nI i → rowOk σ n (trRun σ kl ds) i q → mGr σ σ' n → mI σ' (n + (poT (numN σ n) q.1 []).length) 200 R S C kl → (∀ j (h : j < (poT (numN σ n) q.1 []).length), mtv σ' (n + j) = (poT (numN σ n) q.1 [])[j]'h) → Q (some (.int z)) σ') : kXM kT L xs (d + 8) 204 [.ref 232, .int x, .int w] σ Q := by
  have h0 := h
  obtain ⟨h1, h2, h3, h4, h5, h6, h7⟩ := h
  have hn := h1.1
  unfold kXM
  repeat refine kX_one rfl ?_
  refine kX_cal (mr_in L xs (d + 7) σ _ _ _) rfl (Or.inr rfl) rfl rfl rfl (fun r1 σ1 q1 => ?_)
  obtain ⟨rfl, rfl⟩ := q1
  rw [isB_dec]
  repeat refine kX_one rfl ?_
  refine kX_if (fun q => ?_) (fun q => ?_)
  · obtain ⟨k, -, k2, rfl⟩ := in_R (lo := 0) (hi := 4) (by omega) (by omega) (isB_ne.mp (qne q)).1 (isB_ne.mp (qne q)).2
    rcases h6 with h6 | ⟨h6, ds, g1, g2, g3⟩
    · iterate 2 (refine kX_one rfl ?_)
      refine kX_top (h6) ?_
      repeat refine kX_one rfl ?_
      refine kX_ret (i := .ireturn) (len := 1) rfl (Or.inr rfl) rfl (hO (fun z => absurd (z.2.symm.trans h6) (by decide)) _)
    · iterate 2 (refine kX_one rfl ?_)
      refine kX_top (h6) ?_
      repeat refine kX_one rfl ?_
      refine kX_cal (mr_row L xs d σ n b R S C kl ds h0 h6 g1 g2 g3) rfl (Or.inr rfl) rfl rfl rfl (fun r1 σ1 q1 => ?_)
      obtain ⟨rfl, f1, f2, b', l, f3, f4, f5, f6, f7⟩ := q1
      have hI1 := (mI_there h0 h6 g1 g2 f1 f2 f3 f4 f5 f6 f7).1
      have hw5 : isN (nI k) 5 := ⟨k, by omega, rfl⟩
      have hA1 : ¬ (nI k = nI 4 ∧ ∃ i q, x = nI i ∧ rowOk σ n (trRun σ kl ds) i q) → ∀ z, Q (some (.int z)) σ1 := fun hz z => hF ds b' σ1 z hw5 h6 g1 hz f1 hI1
      have hlr : l.length ≤ 1000 := by
        rw [← f5.2.2.2.2]
        exact cnt_le _ _
      repeat refine kX_one rfl ?_
      refine kX_cal (mr_in L xs (d + 7) σ1 _ _ _) rfl (Or.inr rfl) rfl rfl rfl (fun r1 σ1 q1 => ?_)
      obtain ⟨rfl, rfl⟩ := q1
      rw [isB_dec]
      repeat refine kX_one rfl ?_
      refine kX_if (fun q => ?_) (fun q => ?_)
      · obtain ⟨i, hi, rfl⟩ : isN x l.length := (in_N (by omega)).mp (by rw [← f5.1]; exact isB_ne.mp (qne q))
        obtain ⟨e1, -, -⟩ := f5.2.1 i hi
        have hv : mvG σ1 n b' (l[i]).1 := f5.2.2.1 _ ⟨l[i], List.getElem_mem hi, rfl⟩
        have htr : ∃ q, (trRun σ kl ds)[i]? = some q ∧ q.1 = mtv σ1 (l[i]).1 := by
          rw [← f7]
          unfold rwM
          rw [List.getElem?_map, List.getElem?_eq_getElem hi]
          exact ⟨_, rfl, rfl⟩
        have hz := rwM_sz h1 h2 h4 g1 f4 f7 ⟨l[i], List.getElem_mem hi, rfl⟩ hv.1
        generalize (l[i]).1 = t at e1 hv hz htr
        obtain ⟨q0, hq0, hq1⟩ := htr
        have hnn : numN σ1 n = numN σ n := by
          funext g
          refine propext ⟨fun ⟨t, t1, t2⟩ => ⟨t, t1, (mFr_all h1 f1 t1).1.symm.trans t2⟩, fun ⟨t, t1, t2⟩ => ⟨t, t1, (mFr_all h1 f1 t1).1.trans t2⟩⟩
        have hszt : vsz q0.1 = tsz (σ1 233) (σ1 234) (σ1 235) t := by
          rw [hq1]
          exact vsz_tvl f4.2.2.2.2.2.1.1 t hv.1
        have huq : ∀ i' q', nI i = nI i' → (trRun σ kl ds)[i']? = some q' → q' = q0 := fun i' q' e1 e2 => by
          have hi' : i' < (trRun σ kl ds).length := (List.getElem?_eq_some_iff.mp e2).1
          have hlt : (trRun σ kl ds).length = l.length := by rw [← f7, rwM_len]
          obtain rfl : i = i' := nI_inj e1
          exact Option.some.inj (e2.symm.trans hq0)
        have ht : t < 1000 := by
          have := hv.1
          unfold mv at this
          omega
        iterate 3 (refine kX_one rfl ?_)
        refine kX_ialdV rfl rfl (by decide) (i) (by first | rfl | decide) (by omega) (e1) ?_
        have : k = 0 ∨ k = 1 ∨ k = 2 ∨ k = 3 ∨ k = 4 := by omega
        rcases this with rfl | rfl | rfl | rfl | rfl
        · repeat refine kX_one rfl ?_
          refine kX_ialdN rfl rfl (by decide) (t) (by first | rfl | decide) (ht) ?_
          refine kX_ret (i := .ireturn) (len := 1) rfl (Or.inr rfl) rfl (hA1 (fun z => absurd (nI_inj z.1) (by decide)) _)
        · repeat refine kX_one rfl ?_
          refine kX_ialdN rfl rfl (by decide) (t) (by first | rfl | decide) (ht) ?_
          refine kX_ret (i := .ireturn) (len := 1) rfl (Or.inr rfl) rfl (hA1 (fun z => absurd (nI_inj z.1) (by decide)) _)
        · repeat refine kX_one rfl ?_
          refine kX_ialdN rfl rfl (by decide) (i) (by first | rfl | decide) (by omega) ?_
          refine kX_ret (i := .ireturn) (len := 1) rfl (Or.inr rfl) rfl (hA1 (fun z => absurd (nI_inj z.1) (by decide)) _)
        · repeat refine kX_one rfl ?_
          refine kX_ialdN rfl rfl (by decide) (i) (by first | rfl | decide) (by omega) ?_
          refine kX_ret (i := .ireturn) (len := 1) rfl (Or.inr rfl) rfl (hA1 (fun z => absurd (nI_inj z.1) (by decide)) _)
        · repeat refine kX_one rfl ?_
          refine kX_if (fun q => ?_) (fun q => ?_)
          · have q := qge q t 200
            have hvt : 200 ≤ t ∧ t < b' := by
              have := hv.1
              unfold mv at this
              omega
            iterate 3 (refine kX_one rfl ?_)
            refine kX_ialdV rfl rfl (by decide) (t) (by first | rfl | decide) (ht) (f4.2.2.2.2.2.1.2.1 t hv.1) ?_
            repeat refine kX_one rfl ?_
            refine kX_if (fun q2 => ?_) (fun q2 => ?_)
            · have h24 : tsz (σ1 233) (σ1 234) (σ1 235) t ≤ 24 := by
                exact qle q2 _ 24
              repeat refine kX_one rfl ?_
              refine kX_cal (mf_lasting L xs (d + 3) σ1 n b' R S C kl t hI1 f3 hvt.1 hvt.2 h24) rfl (Or.inr rfl) rfl rfl rfl (fun r1 σ2 q1 => ?_)
              obtain ⟨⟨y, rfl⟩, hA2⟩ := q1
              rw [hnn, ← hq1] at hA2
              have hnN : ¬ numN σ n q0.1 := by
                rw [← hnn, hq1]
                exact numN_hi f4 hvt.1 hvt.2
              rcases hA2 with ⟨a1, a2, a3⟩ | ⟨a1, a2, a3, a4⟩
              · refine kX_ret (i := .ireturn) (len := 1) rfl (Or.inr rfl) rfl (hF ds b' σ2 y hw5 h6 g1 (fun ⟨_, i', q', e1, e2, _, _, e5⟩ => by rw [huq i' q' e1 e2] at e5; omega) (mFr_trans f1 a2) a3)
              · have hGr : mGr σ σ2 n := by
                  refine ⟨fun c hc => (a2.1 c hc).trans (f1.1 c hc), fun j hj => (a2.2.1 j hj).trans (f1.2.1 j (fun z => hj (List.mem_cons_of_mem _ z))), fun u hu => ?_⟩
                  obtain ⟨x1, x2, x3⟩ := a2.2.2 u hu
                  obtain ⟨y1, y2, y3⟩ := f1.2.2 u (by omega)
                  exact ⟨x1.trans y1, x2.trans y2, x3.trans y3⟩
                refine kX_ret (i := .ireturn) (len := 1) rfl (Or.inr rfl) rfl (hM ds i q0 σ2 y rfl h6 g1 rfl ⟨hq0, hnN, by omega, a1⟩ hGr a3 a4)
            · have q2 := qleF q2 _ 24
              repeat refine kX_one rfl ?_
              refine kX_ret (i := .ireturn) (len := 1) rfl (Or.inr rfl) rfl (hA1 (fun ⟨_, i', q', e1, e2, _, e4, _⟩ => by rw [huq i' q' e1 e2] at e4; omega) _)
          · have q := qgeF q t 200
            have htn : t < n := by
              have := hv.1
              unfold mv at this
              omega
            repeat refine kX_one rfl ?_
            refine kX_ret (i := .ireturn) (len := 1) rfl (Or.inr rfl) rfl (hA1 (fun ⟨_, i', q', e1, e2, e3, _⟩ => by rw [huq i' q' e1 e2, hq1, ← hnn] at e3; exact e3 ⟨t, htn, rfl⟩) _)
      · have q : ¬ isN x l.length := fun z => isB_ne.mpr (by have := (in_N (by omega)).mpr z; rw [← f5.1] at this; exact this) (qneF q)
        repeat refine kX_one rfl ?_
        refine kX_ret (i := .ireturn) (len := 1) rfl (Or.inr rfl) rfl (hA1 (fun ⟨_, i', q', e1, e2, _⟩ => q ⟨i', by have := (List.getElem?_eq_some_iff.mp e2).1; rw [← f7, rwM_len] at this; exact this, e1⟩) _)
  · have q : ¬ isN w 5 := fun ⟨j, j1, j2⟩ => by
      subst j2
      refine absurd (qneF q) (isB_ne.mpr ⟨?_, ?_⟩)
      · show ¬ (nI j).toInt64 < (nI 0).toInt64
        rw [i64_lt, Int32.lt_iff_toInt_lt, nI_toInt (by omega), nI_toInt (by omega)]
        omega
      · show ¬ (nI 4).toInt64 < (nI j).toInt64
        rw [i64_lt, Int32.lt_iff_toInt_lt, nI_toInt (by omega), nI_toInt (by omega)]
        omega
    repeat refine kX_one rfl ?_
    refine kX_ret (i := .ireturn) (len := 1) rfl (Or.inr rfl) rfl (hO (fun z => q z.1) _)
