section
/-! alike: the reference's row -/
/-- the place i of the row gets a number -/
def rowOk (σ : kS) (n : Nat) (tr : trT) (i : Nat) (q : Jvm.Term × Int32 × Int32) : Prop := tr[i]? = some q ∧ ¬ numN σ n q.1 ∧ vsz q.1 ≤ 24 ∧ n + (poT (numN σ n) q.1 []).length ≤ 200
set_option maxRecDepth 100000 in
set_option maxHeartbeats 4000000 in
theorem mg_row (L : Nat) (xs : Nat → Int32) (d : Nat) (σ : kS) (n b R S C : Nat) (kl : List Nat) (x w : Int32) (Q : Option Value → kS → Prop) (h : mI σ n b R S C kl) (hO : ¬ (isN w 5 ∧ σ 232 52 = 1) → ∀ z, Q (some (.int z)) σ)
    (hF : ∀ ds b' σ' z, isN w 5 → σ 232 52 = 1 → mRn σ n R S ds → ¬ (w = nI 4 ∧ ∃ i q, x = nI i ∧ rowOk σ n (trRun σ kl ds) i q) → mFr σ σ' n → mI σ' n b' R S C kl → Q (some (.int z)) σ')
    (hM : ∀ ds i q σ' z, w = nI 4 → σ 232 52 = 1 → mRn σ n R S ds → x = nI i → rowOk σ n (trRun σ kl ds) i q → mGr σ σ' n → mI σ' (n + (poT (numN σ n) q.1 []).length) 200 R S C kl → (∀ j (h : j < (poT (numN σ n) q.1 []).length), mtv σ' (n + j) = (poT (numN σ n) q.1 [])[j]'h) → Q (some (.int z)) σ') : kXM kT L xs (d + 8) 204 [.ref 232, .int x, .int w] σ Q := by
  have h0 := h
  obtain ⟨h1, h2, h3, h4, h5, h6, h7⟩ := h
  have hn := h1.1
  unfold kXM
  repeat refine kX_one rfl ?_
  refine kX_cal (mr_in L xs (d + 7) σ _ _ _) rfl (Or.inr rfl) rfl rfl rfl (fun r1 σ1 q1 => ?_)
  obtain ⟨rfl, rfl⟩ := q1
  rw [isB_dec]
  repeat refine kX_one rfl ?_
  refine kX_if (fun q => ?_) (fun q => ?_)
  · obtain ⟨k, -, k2, rfl⟩ := in_R (lo := 0) (hi := 4) (by omega) (by omega) (isB_ne.mp (qne q)).1 (isB_ne.mp (qne q)).2
    rcases h6 with h6 | ⟨h6, ds, g1, g2, g3⟩
    · iterate 2 (refine kX_one rfl ?_)
      refine kX_top (h6) ?_
      repeat refine kX_one rfl ?_
      refine kX_ret (i := .ireturn) (len := 1) rfl (Or.inr rfl) rfl (hO (fun z => absurd (z.2.symm.trans h6) (by decide)) _)
    · iterate 2 (refine kX_one rfl ?_)
      refine kX_top (h6) ?_
      repeat refine kX_one rfl ?_
      refine kX_cal (mr_row L xs d σ n b R S C kl ds h0 h6 g1 g2 g3) rfl (Or.inr rfl) rfl rfl rfl (fun r1 σ1 q1 => ?_)
      obtain ⟨rfl, f1, f2, b', l, f3, f4, f5, f6, f7⟩ := q1
      have hI1 := (mI_there h0 h6 g1 g2 f1 f2 f3 f4 f5 f6 f7).1
      have hw5 : isN (nI k) 5 := ⟨k, by omega, rfl⟩
      have hA1 : ¬ (nI k = nI 4 ∧ ∃ i q, x = nI i ∧ rowOk σ n (trRun σ kl ds) i q) → ∀ z, Q (some (.int z)) σ1 := fun hz z => hF ds b' σ1 z hw5 h6 g1 hz f1 hI1
      have hlr : l.length ≤ 1000 := by
        rw [← f5.2.2.2.2]
        exact cnt_le _ _
      repeat refine kX_one rfl ?_
      refine kX_cal (mr_in L xs (d + 7) σ1 _ _ _) rfl (Or.inr rfl) rfl rfl rfl (fun r1 σ1 q1 => ?_)
      obtain ⟨rfl, rfl⟩ := q1
      rw [isB_dec]
      repeat refine kX_one rfl ?_
      refine kX_if (fun q => ?_) (fun q => ?_)
      · obtain ⟨i, hi, rfl⟩ : isN x l.length := (in_N (by omega)).mp (by rw [← f5.1]; exact isB_ne.mp (qne q))
        obtain ⟨e1, -, -⟩ := f5.2.1 i hi
        have hv : mvG σ1 n b' (l[i]).1 := f5.2.2.1 _ ⟨l[i], List.getElem_mem hi, rfl⟩
        have htr : ∃ q, (trRun σ kl ds)[i]? = some q ∧ q.1 = mtv σ1 (l[i]).1 := by
          rw [← f7]
          unfold rwM
          rw [List.getElem?_map, List.getElem?_eq_getElem hi]
          exact ⟨_, rfl, rfl⟩
        have hz := rwM_sz h1 h2 h4 g1 f4 f7 ⟨l[i], List.getElem_mem hi, rfl⟩ hv.1
        generalize (l[i]).1 = t at e1 hv hz htr
        obtain ⟨q0, hq0, hq1⟩ := htr
        have hnn : numN σ1 n = numN σ n := by
          funext g
          refine propext ⟨fun ⟨t, t1, t2⟩ => ⟨t, t1, (mFr_all h1 f1 t1).1.symm.trans t2⟩, fun ⟨t, t1, t2⟩ => ⟨t, t1, (mFr_all h1 f1 t1).1.trans t2⟩⟩
        have hszt : vsz q0.1 = tsz (σ1 233) (σ1 234) (σ1 235) t := by
          rw [hq1]
          exact vsz_tvl f4.2.2.2.2.2.1.1 t hv.1
        have huq : ∀ i' q', nI i = nI i' → (trRun σ kl ds)[i']? = some q' → q' = q0 := fun i' q' e1 e2 => by
          have hi' : i' < (trRun σ kl ds).length := (List.getElem?_eq_some_iff.mp e2).1
          have hlt : (trRun σ kl ds).length = l.length := by rw [← f7, rwM_len]
          obtain rfl : i = i' := nI_inj e1
          exact Option.some.inj (e2.symm.trans hq0)
        have ht : t < 1000 := by
          have := hv.1
          unfold mv at this
          omega
        iterate 3 (refine kX_one rfl ?_)
        refine kX_ialdV rfl rfl (by decide) (i) (by first | rfl | decide) (by omega) (e1) ?_
        have : k = 0 ∨ k = 1 ∨ k = 2 ∨ k = 3 ∨ k = 4 := by omega
        rcases this with rfl | rfl | rfl | rfl | rfl
        · repeat refine kX_one rfl ?_
          refine kX_ialdN rfl rfl (by decide) (t) (by first | rfl | decide) (ht) ?_
          refine kX_ret (i := .ireturn) (len := 1) rfl (Or.inr rfl) rfl (hA1 (fun z => absurd (nI_inj z.1) (by decide)) _)
        · repeat refine kX_one rfl ?_
          refine kX_ialdN rfl rfl (by decide) (t) (by first | rfl | decide) (ht) ?_
          refine kX_ret (i := .ireturn) (len := 1) rfl (Or.inr rfl) rfl (hA1 (fun z => absurd (nI_inj z.1) (by decide)) _)
        · repeat refine kX_one rfl ?_
          refine kX_ialdN rfl rfl (by decide) (i) (by first | rfl | decide) (by omega) ?_
          refine kX_ret (i := .ireturn) (len := 1) rfl (Or.inr rfl) rfl (hA1 (fun z => absurd (nI_inj z.1) (by decide)) _)
        · repeat refine kX_one rfl ?_
          refine kX_ialdN rfl rfl (by decide) (i) (by first | rfl | decide) (by omega) ?_
          refine kX_ret (i := .ireturn) (len := 1) rfl (Or.inr rfl) rfl (hA1 (fun z => absurd (nI_inj z.1) (by decide)) _)
        · repeat refine kX_one rfl ?_
          refine kX_if (fun q => ?_) (fun q => ?_)
          · have q := qge q t 200
            have hvt : 200 ≤ t ∧ t < b' := by
              have := hv.1
              unfold mv at this
              omega
            iterate 3 (refine kX_one rfl ?_)
            refine kX_ialdV rfl rfl (by decide) (t) (by first | rfl | decide) (ht) (f4.2.2.2.2.2.1.2.1 t hv.1) ?_
            repeat refine kX_one rfl ?_
            refine kX_if (fun q2 => ?_) (fun q2 => ?_)
            · have h24 : tsz (σ1 233) (σ1 234) (σ1 235) t ≤ 24 := by
                exact qle q2 _ 24
              repeat refine kX_one rfl ?_
              refine kX_cal (mf_lasting L xs (d + 3) σ1 n b' R S C kl t hI1 f3 hvt.1 hvt.2 h24) rfl (Or.inr rfl) rfl rfl rfl (fun r1 σ2 q1 => ?_)
              obtain ⟨⟨y, rfl⟩, hA2⟩ := q1
              rw [hnn, ← hq1] at hA2
              have hnN : ¬ numN σ n q0.1 := by
                rw [← hnn, hq1]
                exact numN_hi f4 hvt.1 hvt.2
              rcases hA2 with ⟨a1, a2, a3⟩ | ⟨a1, a2, a3, a4⟩
              · refine kX_ret (i := .ireturn) (len := 1) rfl (Or.inr rfl) rfl (hF ds b' σ2 y hw5 h6 g1 (fun ⟨_, i', q', e1, e2, _, _, e5⟩ => by rw [huq i' q' e1 e2] at e5; omega) (mFr_trans f1 a2) a3)
              · have hGr : mGr σ σ2 n := by
                  refine ⟨fun c hc => (a2.1 c hc).trans (f1.1 c hc), fun j hj => (a2.2.1 j hj).trans (f1.2.1 j (fun z => hj (List.mem_cons_of_mem _ z))), fun u hu => ?_⟩
                  obtain ⟨x1, x2, x3⟩ := a2.2.2 u hu
                  obtain ⟨y1, y2, y3⟩ := f1.2.2 u (by omega)
                  exact ⟨x1.trans y1, x2.trans y2, x3.trans y3⟩
                refine kX_ret (i := .ireturn) (len := 1) rfl (Or.inr rfl) rfl (hM ds i q0 σ2 y rfl h6 g1 rfl ⟨hq0, hnN, by omega, a1⟩ hGr a3 a4)
            · have q2 := qleF q2 _ 24
              repeat refine kX_one rfl ?_
              refine kX_ret (i := .ireturn) (len := 1) rfl (Or.inr rfl) rfl (hA1 (fun ⟨_, i', q', e1, e2, _, e4, _⟩ => by rw [huq i' q' e1 e2] at e4; omega) _)
          · have q := qgeF q t 200
            have htn : t < n := by
              have := hv.1
              unfold mv at this
              omega
            repeat refine kX_one rfl ?_
            refine kX_ret (i := .ireturn) (len := 1) rfl (Or.inr rfl) rfl (hA1 (fun ⟨_, i', q', e1, e2, e3, _⟩ => by rw [huq i' q' e1 e2, hq1, ← hnn] at e3; exact e3 ⟨t, htn, rfl⟩) _)
      · have q : ¬ isN x l.length := fun z => isB_ne.mpr (by have := (in_N (by omega)).mpr z; rw [← f5.1] at this; exact this) (qneF q)
        repeat refine kX_one rfl ?_
        refine kX_ret (i := .ireturn) (len := 1) rfl (Or.inr rfl) rfl (hA1 (fun ⟨_, i', q', e1, e2, _⟩ => q ⟨i', by have := (List.getElem?_eq_some_iff.mp e2).1; rw [← f7, rwM_len] at this; exact this, e1⟩) _)
  · have q : ¬ isN w 5 := fun ⟨j, j1, j2⟩ => by
      subst j2
      refine absurd (qneF q) (isB_ne.mpr ⟨?_, ?_⟩)
      · show ¬ (nI j).toInt64 < (nI 0).toInt64
        rw [i64_lt, Int32.lt_iff_toInt_lt, nI_toInt (by omega), nI_toInt (by omega)]
        omega
      · show ¬ (nI 4).toInt64 < (nI j).toInt64
        rw [i64_lt, Int32.lt_iff_toInt_lt, nI_toInt (by omega), nI_toInt (by omega)]
        omega
    repeat refine kX_one rfl ?_
    refine kX_ret (i := .ireturn) (len := 1) rfl (Or.inr rfl) rfl (hO (fun z => q z.1) _)
end
section
/-! alike: missingFor -/
def knN (σ : kS) (n : Nat) (g : Jvm.Term) : Prop := ∃ t, t < n ∧ kTv σ t = g
/-- with each tree what it is of -/
def cloK (σ : kS) (n u : Nat) (L : List Jvm.Term) : Prop := ∀ x, 200 ≤ x → x < 200 + u → kTv σ x ∈ L → ∀ p, p < 2000 → (σ 3 x = nI p ∨ σ 4 x = nI p) → knN σ n (kTv σ p) ∨ kTv σ p ∈ L
section MISS
variable {σ : kS} {n u m : Nat} {l : rwT}
theorem kN_hi (h : iE σ 186 200 n u m l) {x : Nat} (x1 : 200 ≤ x) (x2 : x < 200 + u) : ¬ knN σ n (kTv σ x) := fun ⟨t, t1, t2⟩ => by
  have := kTv_inj h (Or.inl t1) (Or.inr ⟨x1, x2⟩) t2
  have := h.2.1
  omega
theorem k_of (h : iE σ 186 200 n u m l) {x : Nat} (x1 : 200 ≤ x) (x2 : x < 200 + u) : (∃ k p z, (k = 4 ∨ k = 5 ∨ ((k = 6 ∨ k = 8) ∧ kAG σ n z)) ∧ σ 2 x = nI k ∧ σ 3 x = nI p ∧ σ 4 x = nI z ∧ p < x ∧ z < x ∧ kV n 200 u p ∧ kV n 200 u z ∧ kTv σ x = vnd k (kTv σ p) (some (kTv σ z))) ∨ ∃ k p, (k = 9 ∨ (k = 7 ∧ kAG σ n p)) ∧ σ 2 x = nI k ∧ σ 3 x = nI p ∧ σ 4 x = -1 ∧ p < x ∧ kV n 200 u p ∧ kTv σ x = vnd k (kTv σ p) none := by
  have hk := (h.2.2.2.2.1.2.2.2.2.1 x x1 x2).1
  have hV := iE_V h
  rcases (hV x (Or.inr ⟨x1, x2⟩)).2 with ⟨k, h3, hk', -, -⟩ | ⟨k, p, z, h3, hk', hp, hz, h4, h5, h6, h7⟩ | ⟨k, p, h3, hk', hp, hz, h4, h6⟩
  · rw [hk', fN_nI (by omega)] at hk
    omega
  · exact Or.inl ⟨k, p, z, h3, hk', hp, hz, h4, h5, h6, h7, tvl_2 hV hk' hp hz (by omega) (by omega) h4 h5 h6 h7⟩
  · exact Or.inr ⟨k, p, h3, hk', hp, hz, h4, h6, tvl_1 hV hk' hp hz (by omega) (by omega) h4 h6⟩
/-- the order over the intruder's table -/
theorem po_tab (h : iE σ 186 200 n u m l) : ∀ g, kV n 200 u g → ∀ acc, cloK σ n u acc → acc.Pairwise (fun x y => x ≠ y) → (cloK σ n u (poT (knN σ n) (kTv σ g) acc) ∧ (poT (knN σ n) (kTv σ g) acc).Pairwise (fun x y => x ≠ y)) ∧ (∀ t ∈ poT (knN σ n) (kTv σ g) acc, t ∈ acc ∨ ∃ x, 200 ≤ x ∧ x < 200 + u ∧ x ≤ g ∧ t = kTv σ x) ∧ (knN σ n (kTv σ g) ∨ kTv σ g ∈ poT (knN σ n) (kTv σ g) acc) := by
  have hu := h.2.2.2.2.1.1
  intro g
  induction g using Nat.strongRecOn with
  | _ g ih =>
    intro hg acc hc hp
    by_cases hin : knN σ n (kTv σ g) ∨ kTv σ g ∈ acc
    · rw [poT_in hin]
      exact ⟨⟨hc, hp⟩, fun t ht => Or.inl ht, hin⟩
    obtain ⟨hn1, hn2⟩ := not_or.mp hin
    have hg2 : 200 ≤ g ∧ g < 200 + u := by
      rcases hg with q | q
      · exact absurd ⟨g, q, rfl⟩ hn1
      · exact q
    have fin : ∀ A : List Jvm.Term, cloK σ n u A → A.Pairwise (fun x y => x ≠ y) → (∀ t ∈ A, t ∈ acc ∨ ∃ x, 200 ≤ x ∧ x < 200 + u ∧ x < g ∧ t = kTv σ x) → (∀ p, p < 2000 → (σ 3 g = nI p ∨ σ 4 g = nI p) → knN σ n (kTv σ p) ∨ kTv σ p ∈ A) → (cloK σ n u (A ++ [kTv σ g]) ∧ (A ++ [kTv σ g]).Pairwise (fun x y => x ≠ y)) ∧ (∀ t ∈ A ++ [kTv σ g], t ∈ acc ∨ ∃ x, 200 ≤ x ∧ x < 200 + u ∧ x ≤ g ∧ t = kTv σ x) ∧ (knN σ n (kTv σ g) ∨ kTv σ g ∈ A ++ [kTv σ g]) := by
      intro A a1 a2 a3 a4
      have hgA : kTv σ g ∉ A := fun q => by
        rcases a3 _ q with z | ⟨x, x1, x2, x3, x4⟩
        · exact hn2 z
        · have := kTv_inj h (Or.inr hg2) (Or.inr ⟨x1, x2⟩) x4
          omega
      refine ⟨⟨fun x x1 x2 hx p hp' hf => ?_, ?_⟩, fun t ht => ?_, Or.inr (by simp)⟩
      · rcases List.mem_append.mp hx with q | q
        · exact (a1 x x1 x2 q p hp' hf).imp id (fun z => List.mem_append_left _ z)
        · rw [List.mem_singleton] at q
          obtain rfl := kTv_inj h (Or.inr ⟨x1, x2⟩) (Or.inr hg2) q
          exact (a4 p hp' hf).imp id (fun z => List.mem_append_left _ z)
      · refine List.pairwise_append.mpr ⟨a2, List.pairwise_singleton _ _, fun x hx y hy => ?_⟩
        rw [List.mem_singleton] at hy
        subst hy
        exact fun e => hgA (e ▸ hx)
      · rcases List.mem_append.mp ht with q | q
        · exact (a3 t q).imp id (fun ⟨x, x1, x2, x3, x4⟩ => ⟨x, x1, x2, by omega, x4⟩)
        · rw [List.mem_singleton] at q
          exact Or.inr ⟨g, hg2.1, hg2.2, Nat.le_refl _, q⟩
    rcases k_of h hg2.1 hg2.2 with ⟨k, p, z, h3, hk, hp', hz, h4, h5, h6, h7, e⟩ | ⟨k, p, h3, hk, hp', hz, h4, h6, e⟩
    · obtain ⟨⟨b1, b2⟩, b3, b4⟩ := ih p h4 h6 acc hc hp
      obtain ⟨⟨c1, c2⟩, c3, c4⟩ := ih z h5 h7 _ b1 b2
      have e2 : poT (knN σ n) (kTv σ g) acc = poT (knN σ n) (kTv σ z) (poT (knN σ n) (kTv σ p) acc) ++ [kTv σ g] := by
        rw [e] at hin ⊢
        rw [poT_2 (by omega), cit_F hin]
      rw [e2]
      refine fin _ c1 c2 (fun t ht => ?_) (fun q hq hf => ?_)
      · rcases c3 t ht with y | ⟨x, x1, x2, x3, x4⟩
        · rcases b3 t y with w | ⟨x, x1, x2, x3, x4⟩
          · exact Or.inl w
          · exact Or.inr ⟨x, x1, x2, by omega, x4⟩
        · exact Or.inr ⟨x, x1, x2, by omega, x4⟩
      · rcases hf with hf | hf
        · obtain rfl : p = q := nI_inj (hp'.symm.trans hf)
          exact b4.imp id poT_mono
        · obtain rfl : z = q := nI_inj (hz.symm.trans hf)
          exact c4
    · obtain ⟨⟨b1, b2⟩, b3, b4⟩ := ih p h4 h6 acc hc hp
      have e2 : poT (knN σ n) (kTv σ g) acc = poT (knN σ n) (kTv σ p) acc ++ [kTv σ g] := by
        rw [e] at hin ⊢
        rw [poT_1 (by omega), cit_F hin]
      rw [e2]
      refine fin _ b1 b2 (fun t ht => ?_) (fun q hq hf => ?_)
      · rcases b3 t ht with w | ⟨x, x1, x2, x3, x4⟩
        · exact Or.inl w
        · exact Or.inr ⟨x, x1, x2, by omega, x4⟩
      · rcases hf with hf | hf
        · obtain rfl : p = q := nI_inj (hp'.symm.trans hf)
          exact b4
        · exact absurd (hf.symm.trans hz) (nI_m1 (by omega))
theorem cloK_nil : cloK σ n u [] := fun _ _ _ hx => absurd hx List.not_mem_nil
/-- the least: what holds of g and of all that this is of -/
theorem po_least (h : iE σ 186 200 n u m l) {Z : Nat → Prop} (hZ : ∀ x, 200 ≤ x → x < 200 + u → Z x → ∀ p, 200 ≤ p → p < 200 + u → (σ 3 x = nI p ∨ σ 4 x = nI p) → Z p) : ∀ g, kV n 200 u g → (200 ≤ g → Z g) → ∀ acc, (∀ t ∈ acc, ∃ x, 200 ≤ x ∧ x < 200 + u ∧ Z x ∧ t = kTv σ x) → ∀ t ∈ poT (knN σ n) (kTv σ g) acc, ∃ x, 200 ≤ x ∧ x < 200 + u ∧ Z x ∧ t = kTv σ x := by
  have hn := h.2.1
  intro g
  induction g using Nat.strongRecOn with
  | _ g ih =>
    intro hg hZg acc ha t ht
    by_cases hin : knN σ n (kTv σ g) ∨ kTv σ g ∈ acc
    · rw [poT_in hin] at ht
      exact ha t ht
    have hg2 : 200 ≤ g ∧ g < 200 + u := by
      rcases hg with q | q
      · exact absurd (Or.inl ⟨g, q, rfl⟩) hin
      · exact q
    have hch : ∀ p, kV n 200 u p → (σ 3 g = nI p ∨ σ 4 g = nI p) → 200 ≤ p → Z p := fun p hp hf h2 => hZ g hg2.1 hg2.2 (hZg hg2.1) p h2 (by unfold kV at hp; omega) hf
    rcases k_of h hg2.1 hg2.2 with ⟨k, p, z, h3, hk, hp', hz, h4, h5, h6, h7, e⟩ | ⟨k, p, h3, hk, hp', hz, h4, h6, e⟩
    · rw [show poT (knN σ n) (kTv σ g) acc = poT (knN σ n) (kTv σ z) (poT (knN σ n) (kTv σ p) acc) ++ [kTv σ g] by rw [e] at hin ⊢; rw [poT_2 (by omega), cit_F hin]] at ht
      rcases List.mem_append.mp ht with q | q
      · exact ih z h5 h7 (hch z h7 (Or.inr hz)) _ (ih p h4 h6 (hch p h6 (Or.inl hp')) acc ha) t q
      · rw [List.mem_singleton] at q
        exact ⟨g, hg2.1, hg2.2, hZg hg2.1, q⟩
    · rw [show poT (knN σ n) (kTv σ g) acc = poT (knN σ n) (kTv σ p) acc ++ [kTv σ g] by rw [e] at hin ⊢; rw [poT_1 (by omega), cit_F hin]] at ht
      rcases List.mem_append.mp ht with q | q
      · exact ih p h4 h6 (hch p h6 (Or.inl hp')) acc ha t q
      · rw [List.mem_singleton] at q
        exact ⟨g, hg2.1, hg2.2, hZg hg2.1, q⟩
end MISS
end
section
/-! alike: missingFor -/
theorem nd_sub {α : Type} : ∀ (l l' : List α), l.Pairwise (fun x y => x ≠ y) → (∀ x ∈ l, x ∈ l') → l.length ≤ l'.length
  | [], _, _, _ => Nat.zero_le _
  | a :: l, l', hd, hs => by
    obtain ⟨s, t, rfl⟩ := List.append_of_mem (hs a (by simp))
    obtain ⟨h1, h2⟩ := List.pairwise_cons.mp hd
    have := nd_sub l (s ++ t) h2 (fun x hx => by
      have := hs x (List.mem_cons_of_mem _ hx)
      rcases List.mem_append.mp this with q | q
      · exact List.mem_append_left _ q
      · rcases List.mem_cons.mp q with z | z
        · exact absurd z.symm (h1 x hx)
        · exact List.mem_append_right _ z)
    rw [List.length_append] at this
    rw [List.length_append, List.length_cons, List.length_cons]
    omega
def wnW (W W' : Nat → Int32) (u : Nat) (x : Int32) : Prop := ∀ i, i < u → W' i = cit (x = nI (200 + i)) 1 (W i)
set_option maxRecDepth 100000 in
set_option maxHeartbeats 4000000 in
theorem mf_want (L : Nat) (xs : Nat → Int32) (d : Nat) (σ : kS) (n u : Nat) (x : Int32) (h : nB σ 186 200 n u) : kXM kT L xs (d + 2) 57 [.ref 186, .int x] σ (fun r σ' => r = none ∧ ∃ W', σ' = va_up σ 194 W' ∧ wnW (σ 194) W' u x) := by
  have hu := h.2.2.1
  unfold kXM
  iterate 2 (refine kX_one rfl ?_)
  refine kX_cal (mc_unn L xs d σ 186 200 n u x h) rfl (Or.inr rfl) rfl rfl rfl (fun r1 σ1 q1 => ?_)
  obtain ⟨rfl, rfl⟩ := q1
  repeat refine kX_one rfl ?_
  refine kX_if (fun q => ?_) (fun q => ?_)
  · have q := qeq q
    refine kX_ret (i := .return_) (len := 1) rfl (Or.inr rfl) rfl (⟨rfl, σ 194, up_id.symm, fun i hi => ?_⟩)
    rw [cit_F]
    intro e
    exact isB_ne.mpr ⟨200 + i, by omega, by omega, e⟩ q
  · obtain ⟨g, g1, g2, rfl⟩ := isB_ne.mp (qeqF q)
    obtain ⟨i, rfl⟩ : ∃ i, g = 200 + i := ⟨g - 200, by omega⟩
    iterate 5 (refine kX_one rfl ?_)
    refine kX_top (h.2.2.2.2.1) ?_
    iterate 1 (refine kX_one rfl ?_)
    refine kX_top (y := nI i) ?_ ?_
    · show nI (200 + i) - nI 200 = nI i
      rw [← nI_add, Int32.add_comm, Int32.add_sub_cancel]
    iterate 1 (refine kX_one rfl ?_)
    refine kX_iastN rfl rfl (by decide) (i) (by first | rfl | decide) (by omega) ?_
    refine kX_ret (i := .return_) (len := 1) rfl (Or.inr rfl) rfl (⟨rfl, _, rfl, fun j hj => ?_⟩)
    by_cases e : j = i
    · subst e
      rw [pk_us, cit_T rfl]
      rfl
    · rw [pk_un e, cit_F]
      intro z
      have := nI_inj z
      omega
/-- what is wanted, from q on looked through -/
def miI (σ : kS) (n u g q : Nat) (W : Nat → Int32) (ls : List Nat) : Prop := (∀ i, i < u → W i = 0 ∨ W i = 1) ∧ (∀ i, i < u → W i = 1 → kTv σ (200 + i) ∈ poT (knN σ n) (kTv σ g) []) ∧ (∀ i, i < u → g = 200 + i → W i = 1) ∧ (∀ i, q ≤ i → i < u → W i = 1 → ∀ p, p < u → (σ 3 (200 + i) = nI (200 + p) ∨ σ 4 (200 + i) = nI (200 + p)) → W p = 1) ∧ ls.Pairwise (fun x y => x ≠ y) ∧ ∀ i, i ∈ ls ↔ q ≤ i ∧ i < u ∧ W i = 1
set_option maxRecDepth 100000 in
set_option maxHeartbeats 4000000 in
theorem mf_missingFor (L : Nat) (xs : Nat → Int32) (d : Nat) (σ : kS) (n u m g : Nat) (l : rwT) (h : iE σ 186 200 n u m l) (hg : kV n 200 u g) : kXM kT L xs (d + 3) 56 [.ref 186, .int (nI g)] σ (fun r σ' => r = some (.int (nI (poT (knN σ n) (kTv σ g) []).length)) ∧ ∃ W, σ' = va_up σ 194 W) := by
  have hB := iE_nB h
  have hu := hB.2.2.1
  have hn := hB.2.1
  have hW : ∀ W, nB (va_up σ 194 W) 186 200 n u := fun W => ⟨hB.1, hB.2.1, hB.2.2.1, hB.2.2.2.1, hB.2.2.2.2.1, hB.2.2.2.2.2⟩
  obtain ⟨⟨po1, po2⟩, po3, po4⟩ := po_tab h g hg [] cloK_nil List.Pairwise.nil
  have hgl : g < 776 := by unfold kV at hg; omega
  have loop : ∀ q : Nat × List Nat × (Nat → Int32), (q.1 ≤ u ∧ miI σ n u g q.1 q.2.2 q.2.1) → kX kT L xs (d + 3) 56 22 [(3, .int (pv q.1)), (2, .int (nI q.2.1.length)), (0, .ref 186), (1, .int (nI g))] [] (va_up σ 194 q.2.2) (fun r σ' => r = some (.int (nI (poT (knN σ n) (kTv σ g) []).length)) ∧ ∃ W, σ' = va_up σ 194 W) := by
    refine kX_while (fun q : Nat × List Nat × (Nat → Int32) => [(3, .int (pv q.1)), (2, .int (nI q.2.1.length)), (0, .ref 186), (1, .int (nI g))]) (fun q => va_up σ 194 q.2.2) _ (fun q => q.1) ?_
    rintro ⟨q, ls, W⟩ ⟨i1, i2⟩ ih
    dsimp only at i1 i2 ih ⊢
    obtain ⟨j1, j2, j3, j4, j5, j6⟩ := i2
    cases q with
    | zero =>
      show kX kT L xs (d + 3) 56 22 [(3, .int (-1)), (2, .int (nI ls.length)), (0, .ref 186), (1, .int (nI g))] [] (va_up σ 194 W) _
      have hle : (poT (knN σ n) (kTv σ g) []).length = ls.length := by
        have a1 : ls.length ≤ (poT (knN σ n) (kTv σ g) []).length := by
          have := nd_sub (ls.map (fun i => kTv σ (200 + i))) (poT (knN σ n) (kTv σ g) []) (List.pairwise_map.mpr (List.Pairwise.imp_of_mem (fun {a b} ha hb hab e => by
            have ha := (j6 a).mp ha
            have hb := (j6 b).mp hb
            have := kTv_inj h (Or.inr ⟨by omega, by omega⟩) (Or.inr ⟨by omega, by omega⟩) e
            omega) j5)) (fun t ht => by
            obtain ⟨i, hi, rfl⟩ := List.mem_map.mp ht
            have := (j6 i).mp hi
            exact j2 i this.2.1 this.2.2)
          rw [List.length_map] at this
          exact this
        have a2 : (poT (knN σ n) (kTv σ g) []).length ≤ ls.length := by
          have := nd_sub (poT (knN σ n) (kTv σ g) []) (ls.map (fun i => kTv σ (200 + i))) po2 (fun t ht => by
            obtain ⟨x, x1, x2, x3, x4⟩ := po_least h (Z := fun x => W (x - 200) = 1) (fun x x1 x2 hz p p1 p2 hf => by
              refine j4 (x - 200) (Nat.zero_le _) (by omega) hz (p - 200) (by omega) ?_
              rw [show 200 + (x - 200) = x by omega, show 200 + (p - 200) = p by omega]
              exact hf) g hg (fun g2 => j3 (g - 200) (by unfold kV at hg; omega) (by omega)) [] (fun t ht => absurd ht List.not_mem_nil) t ht
            refine List.mem_map.mpr ⟨x - 200, (j6 _).mpr ⟨Nat.zero_le _, by omega, x3⟩, ?_⟩
            rw [show 200 + (x - 200) = x by omega]
            exact x4.symm)
          rw [List.length_map] at this
          exact this
        omega
      rw [hle]
      repeat refine kX_one rfl ?_
      refine kX_ret (i := .ireturn) (len := 1) rfl (Or.inr rfl) rfl (⟨rfl, W, rfl⟩)
    | succ i =>
      show kX kT L xs (d + 3) 56 22 [(3, .int (nI i)), (2, .int (nI ls.length)), (0, .ref 186), (1, .int (nI g))] [] (va_up σ 194 W) _
      have k75 : ∀ ls' W', miI σ n u g i W' ls' → kX kT L xs (d + 3) 56 75 [(2, .int (nI ls'.length)), (3, .int (nI i)), (0, .ref 186), (1, .int (nI g))] [] (va_up σ 194 W') (fun r σ' => r = some (.int (nI (poT (knN σ n) (kTv σ g) []).length)) ∧ ∃ W, σ' = va_up σ 194 W) := by
        intro ls' W' ht
        iterate 2 (refine kX_one rfl ?_)
        have := ih (i, ls', W') ⟨by omega, ht⟩ (by simp only; omega)
        dsimp only at this
        rw [pv_dec] at this
        exact kX_lv _ rfl rfl rfl this
      repeat refine kX_one rfl ?_
      refine kX_ifF (decide_eq_false (nI_pos (by omega))) ?_
      iterate 3 (refine kX_one rfl ?_)
      refine kX_ialdN rfl rfl (by decide) (i) (by first | rfl | decide) (by omega) ?_
      repeat refine kX_one rfl ?_
      refine kX_if (fun q => ?_) (fun q => ?_)
      · have q : W i ≠ 1 := qne q
        refine kX_lv _ rfl rfl rfl (k75 ls W ⟨j1, j2, j3, fun i' h1 h2 h3 p hp hf => ?_, j5, fun i' => ?_⟩)
        · exact j4 i' (Nat.lt_of_le_of_ne h1 (fun e => q (e ▸ h3))) h2 h3 p hp hf
        · rw [j6 i']
          refine ⟨fun z => ⟨by omega, z.2⟩, fun z => ⟨Nat.lt_of_le_of_ne z.1 (fun e => q (e ▸ z.2.2)), z.2⟩⟩
      · have q : W i = 1 := qneF q
        have hpi := j2 i (by omega) q
        have hstep : ∀ x (W1 W2 : Nat → Int32), (x = σ 3 (200 + i) ∨ x = σ 4 (200 + i)) → wnW W1 W2 u x → (∀ j, j < u → W1 j = 0 ∨ W1 j = 1) → (∀ j, j < u → W1 j = 1 → kTv σ (200 + j) ∈ poT (knN σ n) (kTv σ g) []) → (∀ j, j < u → (W2 j = 0 ∨ W2 j = 1)) ∧ (∀ j, j < u → W2 j = 1 → kTv σ (200 + j) ∈ poT (knN σ n) (kTv σ g) []) ∧ (∀ j, j < u → W1 j = 1 → W2 j = 1) ∧ (∀ j, j < u → x = nI (200 + j) → W2 j = 1) ∧ ∀ j, i ≤ j → j < u → W2 j = W1 j := by
          intro x W1 W2 hx hw g1 g2
          refine ⟨fun j hj => ?_, fun j hj h1 => ?_, fun j hj h1 => ?_, fun j hj e => ?_, fun j hij hj => ?_⟩
          · rw [hw j hj]
            by_cases e : x = nI (200 + j)
            · rw [cit_T e]
              exact Or.inr rfl
            · rw [cit_F e]
              exact g1 j hj
          · rw [hw j hj] at h1
            by_cases e : x = nI (200 + j)
            · have := po1 (200 + i) (by omega) (by omega) hpi (200 + j) (by omega) (hx.imp (fun z => z.symm.trans e) (fun z => z.symm.trans e))
              rcases this with z | z
              · exact absurd z (kN_hi h (by omega) (by omega))
              · exact z
            · rw [cit_F e] at h1
              exact g2 j hj h1
          · rw [hw j hj]
            by_cases e : x = nI (200 + j)
            · rw [cit_T e]
            · rw [cit_F e]
              exact h1
          · rw [hw j hj, cit_T e]
          · rw [hw j hj, cit_F]
            intro e
            have hlt : 200 + j < 200 + i := by
              rcases k_of h (x := 200 + i) (by omega) (by omega) with ⟨k, p, z, h3, hk, hp', hz, h4, h5, h6, h7, -⟩ | ⟨k, p, h3, hk, hp', hz, h4, h6, -⟩
              · rcases hx with hx | hx
                · have : p = 200 + j := nI_inj (hp'.symm.trans (hx.symm.trans e))
                  omega
                · have : z = 200 + j := nI_inj (hz.symm.trans (hx.symm.trans e))
                  omega
              · rcases hx with hx | hx
                · have : p = 200 + j := nI_inj (hp'.symm.trans (hx.symm.trans e))
                  omega
                · exact absurd (e.symm.trans (hx.trans hz)) (nI_m1 (by omega))
            omega
        iterate 7 (refine kX_one rfl ?_)
        refine kX_top ((hW W).2.2.2.2.1) ?_
        iterate 2 (refine kX_one rfl ?_)
        refine kX_top (y := nI (200 + i)) (nI_add 200 i) ?_
        refine kX_ialdN rfl rfl (by decide) (200 + i) (by first | rfl | decide) (by omega) ?_
        refine kX_cal (mf_want L xs d (va_up σ 194 W) n u _ (hW W)) rfl (Or.inr rfl) rfl rfl rfl (fun r1 τ1 q1 => ?_)
        obtain ⟨rfl, W1, rfl, w1⟩ := q1
        obtain ⟨s1, s2, s3, s4, s5⟩ := hstep _ _ _ (Or.inl rfl) w1 j1 j2
        rw [kup_up]
        iterate 6 (refine kX_one rfl ?_)
        refine kX_top ((hW W1).2.2.2.2.1) ?_
        iterate 2 (refine kX_one rfl ?_)
        refine kX_top (y := nI (200 + i)) (nI_add 200 i) ?_
        refine kX_ialdN rfl rfl (by decide) (200 + i) (by first | rfl | decide) (by omega) ?_
        refine kX_cal (mf_want L xs d (va_up σ 194 W1) n u _ (hW W1)) rfl (Or.inr rfl) rfl rfl rfl (fun r1 τ2 q1 => ?_)
        obtain ⟨rfl, W2, rfl, w2⟩ := q1
        obtain ⟨v1, v2, v3, v4, v5⟩ := hstep _ _ _ (Or.inr rfl) w2 s1 s2
        rw [kup_up]
        have hW2 : ∀ j, i ≤ j → j < u → W2 j = W j := fun j a b => (v5 j a b).trans (s5 j a b)
        have := k75 (i :: ls) W2 ⟨v1, v2, fun j hj e => v3 j hj (s3 j hj (j3 j hj e)), fun i' h1 h2 h3 p hp hf => ?_, List.Pairwise.cons (fun y hy e => ?_) j5, fun i' => ?_⟩
        · rw [List.length_cons, ← nI_1] at this
          exact kX_lv _ rfl rfl rfl this
        · by_cases e : i' = i
          · subst e
            rcases hf with hf | hf
            · exact v3 p hp (s4 p hp hf)
            · exact v4 p hp hf
          · rw [hW2 i' h1 h2] at h3
            exact v3 p hp (s3 p hp (j4 i' (by omega) h2 h3 p hp hf))
        · have := (j6 y).mp hy
          omega
        · rw [List.mem_cons, j6 i']
          refine ⟨fun z => ?_, fun z => ?_⟩
          · rcases z with rfl | z
            · exact ⟨Nat.le_refl _, by omega, by rw [hW2 i' (Nat.le_refl _) (by omega)]; exact q⟩
            · exact ⟨by omega, z.2.1, by rw [hW2 i' (by omega) z.2.1]; exact z.2.2⟩
          · by_cases e : i' = i
            · exact Or.inl e
            · exact Or.inr ⟨by omega, z.2.1, by rw [← hW2 i' z.1 z.2.1]; exact z.2.2⟩
  unfold kXM
  iterate 3 (refine kX_one rfl ?_)
  refine kX_cal (kX_fill (T := kT) L xs (d + 1) 0 σ (a := 194) (n := 576) (g0 := fun _ => 0) rfl (by decide)) rfl (Or.inr rfl) rfl rfl rfl (fun r1 σ1 q1 => ?_)
  obtain ⟨rfl, rfl⟩ := q1
  iterate 2 (refine kX_one rfl ?_)
  refine kX_cal (mf_want L xs d (va_up σ 194 (fun j => if j < 576 then 0 else σ 194 j)) n u _ (hW _)) rfl (Or.inr rfl) rfl rfl rfl (fun r1 τ1 q1 => ?_)
  obtain ⟨rfl, W, rfl, w⟩ := q1
  rw [kup_up]
  have w0 : ∀ i, i < u → W i = cit (nI g = nI (200 + i)) 1 0 := fun i hi => by
    rw [w i hi]
    show cit _ 1 (if i < 576 then (0 : Int32) else σ 194 i) = _
    rw [if_pos (by omega)]
  have w1 : ∀ i, i < u → W i = 1 → g = 200 + i := fun i hi e => by
    rw [w0 i hi] at e
    by_cases z : nI g = nI (200 + i)
    · exact nI_inj z
    · rw [cit_F z] at e
      exact absurd e (by decide)
  iterate 4 (refine kX_one rfl ?_)
  refine kX_top ((hW W).2.2.2.2.2) ?_
  iterate 2 (refine kX_one rfl ?_)
  refine kX_top (y := pv u) (pv_sub u) ?_
  iterate 1 (refine kX_one rfl ?_)
  refine kX_lv _ rfl rfl rfl (loop (u, [], W) ⟨Nat.le_refl _, fun i hi => ?_, fun i hi e => ?_, fun i hi e => ?_, fun i h1 h2 => by simp only at h1; omega, List.Pairwise.nil, fun i => ⟨fun z => absurd z List.not_mem_nil, fun z => by have := z.1; simp only at this; omega⟩⟩)
  · show W i = 0 ∨ W i = 1
    rw [w0 i hi]
    by_cases z : nI g = nI (200 + i)
    · rw [cit_T z]
      exact Or.inr rfl
    · rw [cit_F z]
      exact Or.inl rfl
  · have eg := w1 i hi e
    rw [← eg]
    rcases po4 with z | z
    · exact absurd z (kN_hi h (by omega) (by omega))
    · exact z
  · show W i = 1
    rw [w0 i hi, cit_T (by rw [e])]
end
section
/-! alike: giveNumber -/
/-- while numbers are given: acc has got one -/
def gnQ (σ τ : kS) (n : Nat) (acc : List Jvm.Term) : Prop := cT τ (n + acc.length) ∧ cCn τ (n + acc.length) ∧ cGr σ τ n ∧ (∀ t, t < n → τ 2 t = σ 2 t ∧ τ 3 t = σ 3 t ∧ τ 4 t = σ 4 t ∧ τ 5 t = σ 5 t ∧ τ 8 t = σ 8 t ∧ τ 9 t = σ 9 t ∧ τ 10 t = σ 10 t ∧ τ 11 t = σ 11 t ∧ τ 12 t = σ 12 t) ∧ tbW (fun t => t < n + acc.length) (kAG σ n) (τ 2) (τ 3) (τ 4) (τ 5) ∧ gR τ (n + acc.length) ∧ (∀ j (h : j < acc.length), kTv τ (n + j) = acc[j]'h) ∧ ∀ t, n ≤ t → t < n + acc.length → 3 < fN (τ 2 t) ∧ kGd τ t
section GN
variable {σ τ : kS} {n u m : Nat} {l : rwT} {acc : List Jvm.Term}
theorem gn_0 (h : iE σ 186 200 n u m l) (hT : cT σ n) (hC : cCn σ n) (hG : gR σ n) : gnQ σ σ n [] := by
  have hn := h.2.1
  refine ⟨hT, hC, cGr_refl σ n, fun _ _ => ⟨rfl, rfl, rfl, rfl, rfl, rfl, rfl, rfl, rfl⟩, tbW_sub h.2.2.2.2.1.2.2.2.1 (fun t ht => Or.inl ht) (fun t x ht hx hv => ?_), hG, fun j hj => absurd hj (Nat.not_lt_zero j), fun t h1 h2 => by simp only [List.length_nil] at h2; omega⟩
  have ht : t < n := ht
  show x < n
  unfold kV at hv
  omega
theorem gn_A {α : Type} {lf lf' : Nat → α} {nd : Nat → α → Option α → α} (h : iE σ 186 200 n u m l) (hq : gnQ σ τ n acc) (hl : ∀ t, kV n 200 u t → lf' t = lf t) {g : Nat} (hg : kV n 200 u g) : tA lf' nd (τ 2) (τ 3) (τ 4) g = tA lf nd (σ 2) (σ 3) (σ 4) g :=
  tA_congr (iE_V h) (fun t ht => by
    have : τ 2 t = σ 2 t ∧ τ 3 t = σ 3 t ∧ τ 4 t = σ 4 t := by
      rcases ht with q | q
      · obtain ⟨a, b, c, -⟩ := hq.2.2.2.1 t q
        exact ⟨a, b, c⟩
      · obtain ⟨a, b, c, -⟩ := hq.2.2.1.2.2 t q.1
        exact ⟨a, b, c⟩
    exact ⟨this.1, this.2.1, this.2.2, hl t ht⟩) g hg
theorem gn_tv (h : iE σ 186 200 n u m l) (hq : gnQ σ τ n acc) {g : Nat} (hg : kV n 200 u g) : kTv τ g = kTv σ g := gn_A h hq (fun _ _ => rfl) hg
theorem gn_gd (h : iE σ 186 200 n u m l) (hq : gnQ σ τ n acc) {g : Nat} (hg : kV n 200 u g) : kGd τ g ↔ kGd σ g := by
  have : tgd (τ 2) (τ 3) (τ 4) g = tgd (σ 2) (σ 3) (σ 4) g := gn_A h hq (fun t ht => by
    rcases ht with q | q
    · rw [(hq.2.2.2.1 t q).1]
    · rw [(hq.2.2.1.2.2 t q.1).1]) hg
  unfold kGd
  rw [this]
theorem gn_inj (hq : gnQ σ τ n acc) {t g : Nat} (ht : t < n + acc.length) (hg : g < n + acc.length) (e : kTv τ t = kTv τ g) : t = g := tvl_inj hq.2.2.2.2.1.1 hq.2.2.2.2.1.2.2 t g ht hg e
/-- a tree has a number now -/
theorem gn_has (h : iE σ 186 200 n u m l) (hq : gnQ σ τ n acc) {t : Nat} (ht : t < n + acc.length) : knN σ n (kTv τ t) ∨ kTv τ t ∈ acc := by
  by_cases q : t < n
  · exact Or.inl ⟨t, q, (gn_tv h hq (Or.inl q)).symm⟩
  · obtain ⟨j, rfl⟩ : ∃ j, t = n + j := ⟨t - n, by omega⟩
    rw [hq.2.2.2.2.2.2.1 j (by omega)]
    exact Or.inr (List.getElem_mem _)
theorem gn_of (h : iE σ 186 200 n u m l) (hq : gnQ σ τ n acc) {g : Jvm.Term} (hg : knN σ n g ∨ g ∈ acc) : ∃ t, t < n + acc.length ∧ kTv τ t = g := by
  rcases hg with ⟨t, t1, t2⟩ | hg
  · exact ⟨t, by omega, (gn_tv h hq (Or.inl t1)).trans t2⟩
  · obtain ⟨j, hj, rfl⟩ := List.getElem_of_mem hg
    exact ⟨n + j, by omega, hq.2.2.2.2.2.2.1 j hj⟩
/-- a number more -/
theorem gn_new {k x y : Nat} {a c : Int32} (hq : gnQ σ τ n acc) (hN : n + acc.length < 200) (hk : 3 < k) (hw : tNw k a c x y (n + acc.length)) (hx : x < n + acc.length) (hy : k = 4 ∨ k = 5 ∨ k = 6 ∨ k = 8 → y < n + acc.length) (h6 : k = 6 ∨ k = 8 → kAG σ n y) (h7 : k = 7 → kAG σ n x) (gx : kGd τ x) (gy : k = 4 ∨ k = 5 ∨ k = 6 ∨ k = 8 → kGd τ y) (hno : ∀ t, t < n + acc.length → 3 < fN (τ 2 t) → ¬ cIs τ t (nI k) a c) : gnQ σ (cCo τ (n + acc.length) k a c) n (acc ++ [if k = 7 ∨ k = 9 then vnd k (kTv τ x) none else vnd k (kTv τ x) (some (kTv τ y))]) := by
  obtain ⟨q1, q2, q3, q4, q5, q6, q7, q8⟩ := hq
  have hk9 := tNw_9 hw
  obtain ⟨ha, -⟩ := tNw_x hw hk
  have ggx : cG τ (n + acc.length) a := fun z z1 z2 => by
    obtain rfl : x = z := nI_inj (ha.symm.trans z2)
    rw [q6 x hx, isB_T gx]
  have ggc : cG τ (n + acc.length) c ∧ cCh (n + acc.length) c := by
    rcases hw with z | z | z
    · omega
    · have hy' := hy z.1
      refine ⟨fun w w1 w2 => ?_, Or.inr ⟨y, by omega, z.2.2.1, Or.inl hy'⟩⟩
      obtain rfl : y = w := nI_inj (z.2.2.1.symm.trans w2)
      rw [q6 y hy', isB_T (gy z.1)]
    · rw [z.2.2.1]
      exact ⟨cG_m1 τ _ (by omega), Or.inl rfl⟩
  obtain ⟨g1, g2⟩ := cT_co (k := k) (x := a) (y := c) q1 hN (by omega) hk9 (Or.inr ⟨x, by omega, ha, Or.inl hx⟩) ggc.2 (fun z => absurd ⟨ggx, ggc.1⟩ z)
  have hlen : n + (acc ++ [if k = 7 ∨ k = 9 then vnd k (kTv τ x) none else vnd k (kTv τ x) (some (kTv τ y))]).length = n + acc.length + 1 := by simp; omega
  have e2 : cCo τ (n + acc.length) k a c 2 = upd (τ 2) (n + acc.length) (nI k) := rfl
  have e3 : cCo τ (n + acc.length) k a c 3 = upd (τ 3) (n + acc.length) a := rfl
  have e4 : cCo τ (n + acc.length) k a c 4 = upd (τ 4) (n + acc.length) c := rfl
  have e5 : cCo τ (n + acc.length) k a c 5 = upd (τ 5) (n + acc.length) (1 + czs τ (n + acc.length) a + czs τ (n + acc.length) c) := rfl
  have e6 : cCo τ (n + acc.length) k a c 8 = upd (τ 8) (n + acc.length) (isB (cG τ (n + acc.length) a ∧ cG τ (n + acc.length) c)) := rfl
  have hV := q5.1
  have hm : ∀ t, t < n + acc.length → t < n + acc.length := fun _ z => z
  have hn9 : tOk (fun t => t < n + acc.length) (kAG σ n) (upd (τ 2) (n + acc.length) (nI k)) (upd (τ 3) (n + acc.length) a) (upd (τ 4) (n + acc.length) c) (n + acc.length) := tOk_new hw (fun _ => hx) hy h6 h7
  have hsz : (1 + czs τ (n + acc.length) a + czs τ (n + acc.length) c : Int32) = nI (tsz (upd (τ 2) (n + acc.length) (nI k)) (upd (τ 3) (n + acc.length) a) (upd (τ 4) (n + acc.length) c) (n + acc.length)) := by
    unfold tsz
    rw [tA_new (lf := fun _ => 1) (nd := fun _ a b => 1 + a + b.getD 0) hV hm (by omega) (fun _ q => q) (fun _ _ => rfl) hw (fun _ => hx) hy h6 h7]
    have zx := q5.2.1 x hx
    unfold tNd
    rw [ha, czs_t hx (by omega), zx]
    rcases hw with z | z | z
    · omega
    · have zy := q5.2.1 y (hy z.1)
      rw [z.2.2.1, czs_t (hy z.1) (by omega), zy, if_neg (by omega), if_neg (by omega)]
      show nI 1 + nI _ + nI _ = _
      rw [nI_add, nI_add]
      rfl
    · rw [z.2.2.1, czs_m1 (by omega), if_neg (by omega), if_pos (by omega)]
      show nI 1 + nI _ + nI 0 = _
      rw [nI_add, nI_add]
      rfl
  have hW2 : tbW (fun t => t < n + acc.length + 1) (kAG σ n) (cCo τ (n + acc.length) k a c 2) (cCo τ (n + acc.length) k a c 3) (cCo τ (n + acc.length) k a c 4) (cCo τ (n + acc.length) k a c 5) := by
    rw [e2, e3, e4, e5, hsz, show (fun t => t < n + acc.length + 1) = (fun t => t < n + acc.length ∨ t = n + acc.length) from funext fun t => propext (by omega)]
    exact tb_push q5 hm (by omega) (fun _ q => q) hn9 (fun q t ht e => hno t ht (by rw [e.1]; exact q) e)
  have hold : ∀ {α : Type} {lf lf' : Nat → α} {nd : Nat → α → Option α → α}, (∀ t, t < n + acc.length → lf' t = lf t) → ∀ t, t < n + acc.length → tA lf' nd (cCo τ (n + acc.length) k a c 2) (cCo τ (n + acc.length) k a c 3) (cCo τ (n + acc.length) k a c 4) t = tA lf nd (τ 2) (τ 3) (τ 4) t := fun hl t ht => by
    rw [e2, e3, e4]
    exact tb_old hV hm hl t ht
  have htv : ∀ t, t < n + acc.length → kTv (cCo τ (n + acc.length) k a c) t = kTv τ t := fun t ht => hold (fun _ _ => rfl) t ht
  have htg : ∀ t, t < n + acc.length → (kGd (cCo τ (n + acc.length) k a c) t ↔ kGd τ t) := fun t ht => by
    have : tgd (cCo τ (n + acc.length) k a c 2) (cCo τ (n + acc.length) k a c 3) (cCo τ (n + acc.length) k a c 4) t = tgd (τ 2) (τ 3) (τ 4) t := hold (fun t ht => by rw [e2, pk_un (by omega)]) t ht
    unfold kGd
    rw [this]
  have hgn : kGd (cCo τ (n + acc.length) k a c) (n + acc.length) := by
    unfold kGd tgd
    rw [e2, e3, e4, tA_new (lf := fun t => decide (τ 2 t ≠ nI 3)) (nd := fun _ a b => a && b.getD true) hV hm (by omega) (fun _ q => q) (fun t ht => by rw [pk_un (by omega)]) hw (fun _ => hx) hy h6 h7]
    unfold tNd
    unfold kGd tgd at gx gy
    rcases hw with q | q | q
    · omega
    · have := gy q.1
      rw [if_neg (by omega), if_neg (by omega)]
      simp only [Option.getD_some, gx, this, Bool.and_true]
    · rw [if_neg (by omega), if_pos (by omega)]
      simp only [Option.getD_none, gx, Bool.and_true]
  have htn : kTv (cCo τ (n + acc.length) k a c) (n + acc.length) = if k = 7 ∨ k = 9 then vnd k (kTv τ x) none else vnd k (kTv τ x) (some (kTv τ y)) := by
    unfold kTv tvl
    rw [e2, e3, e4, tA_new (lf := fun t => Jvm.Term.arg t) (nd := vnd) hV hm (by omega) (fun _ q => q) (fun _ _ => rfl) hw (fun _ => hx) hy h6 h7]
    unfold tNd
    rw [if_neg (by omega)]
  refine ⟨by rw [hlen]; exact g1, by rw [hlen]; exact cCn_co q2 hN hk hk9, cGr_trans q3 g2 (by omega), fun t ht => ?_, by rw [hlen]; exact hW2, fun t ht => ?_, fun j hj => ?_, fun t t1 t2 => ?_⟩
  · obtain ⟨a1, a2, a3, a4, a5, a6, a7, a8, a9⟩ := q4 t ht
    refine ⟨(pk_un (by omega)).trans a1, (pk_un (by omega)).trans a2, (pk_un (by omega)).trans a3, (pk_un (by omega)).trans a4, (pk_un (by omega)).trans a5, (pk_un (by omega)).trans a6, a7, a8, a9⟩
  · rw [hlen] at ht
    rw [e6]
    by_cases e : t = n + acc.length
    · subst e
      rw [pk_us, isB_T ⟨ggx, ggc.1⟩, isB_T hgn]
    · rw [pk_un e, q6 t (by omega)]
      exact isB_iff (htg t (by omega)).symm
  · simp only [List.length_append, List.length_singleton] at hj
    by_cases e : j = acc.length
    · subst e
      rw [htn, List.getElem_append_right (Nat.le_refl _)]
      simp
    · rw [htv (n + j) (by omega), List.getElem_append_left (by omega)]
      exact q7 j (by omega)
  · rw [hlen] at t2
    by_cases e : t = n + acc.length
    · subst e
      refine ⟨?_, hgn⟩
      rw [e2, pk_us, fN_nI (by omega)]
      exact hk
    · obtain ⟨b1, b2⟩ := q8 t t1 (by omega)
      exact ⟨by rw [e2, pk_un e]; exact b1, (htg t (by omega)).mpr b2⟩
end GN
end
section
/-! alike: giveNumber -/
theorem vnd_inj2 {k k' : Nat} {a b a' b' : Jvm.Term} (hk : k = 4 ∨ k = 5 ∨ k = 6 ∨ k = 8) (hk' : k' = 4 ∨ k' = 5 ∨ k' = 6 ∨ k' = 8) (e : vnd k a (some b) = vnd k' a' (some b')) : k = k' ∧ a = a' ∧ b = b' := by
  rcases hk with rfl | rfl | rfl | rfl <;> rcases hk' with rfl | rfl | rfl | rfl <;> simp [vnd] at e ⊢ <;> exact e
theorem vnd_inj1 {k k' : Nat} {a a' : Jvm.Term} (hk : k = 7 ∨ k = 9) (hk' : k' = 7 ∨ k' = 9) (e : vnd k a none = vnd k' a' none) : k = k' ∧ a = a' := by
  rcases hk with rfl | rfl <;> rcases hk' with rfl | rfl <;> simp [vnd] at e ⊢ <;> exact e
theorem vnd_21 {k k' : Nat} {a b a' : Jvm.Term} (hk : k = 4 ∨ k = 5 ∨ k = 6 ∨ k = 8) (hk' : k' = 7 ∨ k' = 9) : vnd k a (some b) ≠ vnd k' a' none := by
  rcases hk with rfl | rfl | rfl | rfl <;> rcases hk' with rfl | rfl <;> simp [vnd]
def gnP (σ : kS) (n : Nat) (acc : List Jvm.Term) (g : Nat) (r : Option Value) (τ' : kS) : Prop := ∃ t, r = some (.int (nI t)) ∧ t < n + (poT (knN σ n) (kTv σ g) acc).length ∧ kTv τ' t = kTv σ g ∧ gnQ σ τ' n (poT (knN σ n) (kTv σ g) acc)
theorem gn_nB {σ τ : kS} {n u m : Nat} {l : rwT} {acc : List Jvm.Term} (h : iE σ 186 200 n u m l) (hq : gnQ σ τ n acc) : nB τ 186 200 (n + acc.length) u := by
  have hB := iE_nB h
  have e : τ 186 = σ 186 := hq.2.2.1.1 186 (fun q => by have := tC_lt q; omega)
  exact ⟨hB.1, hq.1.1, hB.2.2.1, hq.1.2.1, by rw [e]; exact hB.2.2.2.2.1, by rw [e]; exact hB.2.2.2.2.2⟩
/-- the number of what has one already -/
theorem gn_same {σ τ : kS} {n u m p t : Nat} {l : rwT} {acc : List Jvm.Term} (h : iE σ 186 200 n u m l) (hq : gnQ σ τ n acc) (hp : p < n) (ht : t < n + acc.length) (e : kTv τ t = kTv σ p) : t = p := gn_inj hq ht (by omega) (e.trans (gn_tv h hq (Or.inl hp)).symm)
theorem gn_grd {σ τ : kS} {n u m p t : Nat} {l : rwT} {acc : List Jvm.Term} (h : iE σ 186 200 n u m l) (hq : gnQ σ τ n acc) (hp : kV n 200 u p) (hg : kGd σ p) (ht : t < n + acc.length) (e : kTv τ t = kTv σ p) : kGd τ t := by
  by_cases q : t < n
  · have e2 := gn_tv h hq (g := t) (Or.inl q)
    obtain rfl : t = p := kTv_inj h (Or.inl q) hp (e2.symm.trans e)
    exact (gn_gd h hq (Or.inl q)).mpr hg
  · exact (hq.2.2.2.2.2.2.2 t (by omega) ht).2
set_option maxRecDepth 100000 in
set_option maxHeartbeats 4000000 in
theorem mf_giveNumber (L : Nat) (xs : Nat → Int32) (σ : kS) (n u m : Nat) (l : rwT) (h : iE σ 186 200 n u m l) : ∀ (f d dd : Nat) (τ : kS) (g : Nat) (acc : List Jvm.Term), dd + f = 49 → kDp σ g + dd ≤ 48 → gnQ σ τ n acc → cloK σ n u acc → acc.Pairwise (fun x y => x ≠ y) → kV n 200 u g → kGd σ g → n + (poT (knN σ n) (kTv σ g) acc).length ≤ 200 → kXM kT L xs (d + f + 5) 58 [.ref 186, .int (nI g), .int (nI dd)] τ (gnP σ n acc g) := by
  intro f
  induction f with
  | zero =>
    intro d dd τ g acc hdd hdp
    omega
  | succ f IH =>
    intro d dd τ g acc hdd hdp hq hc hd hg hgd hroom
    have hB := gn_nB h hq
    have hu := hB.2.2.1
    have hn := h.2.1
    have hgl := iE_lt h hg
    unfold kXM
    iterate 2 (refine kX_one rfl ?_)
    refine kX_cal (mc_unn L xs (d + f + 4) τ 186 200 (n + acc.length) u (nI g) hB) rfl (Or.inr rfl) rfl rfl rfl (fun r1 σ1 q1 => ?_)
    obtain ⟨rfl, rfl⟩ := q1
    by_cases hgn : g < n
    · repeat refine kX_one rfl ?_
      refine kX_ifT (decide_eq_true (isB_F (fun ⟨g', z1, z2, z3⟩ => by have := nI_inj z3; omega))) ?_
      have hin : knN σ n (kTv σ g) ∨ kTv σ g ∈ acc := Or.inl ⟨g, hgn, rfl⟩
      have fin : gnP σ n acc g (some (.int (nI g))) τ := by
        unfold gnP
        rw [poT_in hin]
        exact ⟨g, rfl, by omega, gn_tv h hq hg, hq⟩
      iterate 1 (refine kX_one rfl ?_)
      refine kX_ret (i := .ireturn) (len := 1) rfl (Or.inr rfl) rfl (fin)
    have hg2 : 200 ≤ g ∧ g < 200 + u := by unfold kV at hg; omega
    repeat refine kX_one rfl ?_
    refine kX_ifF (decide_eq_false (isB_ne.mpr ⟨g, hg2.1, hg2.2, rfl⟩)) ?_
    repeat refine kX_one rfl ?_
    refine kX_if (fun q2 => ?_) (fun q2 => ?_)
    rotate_left
    · have q2 := qleF q2 dd 48
      omega
    have hnN := kN_hi h hg2.1 hg2.2
    have eT : ∀ {τ : kS} {acc : List Jvm.Term}, gnQ σ τ n acc → τ 2 g = σ 2 g ∧ τ 3 g = σ 3 g ∧ τ 4 g = σ 4 g := fun hq => by
      obtain ⟨a, b, c, -⟩ := hq.2.2.1.2.2 g hg2.1
      exact ⟨a, b, c⟩
    rcases k_of h hg2.1 hg2.2 with ⟨k, p, z, h3, hk, hp', hz, h4, h5, h6, h7, e⟩ | ⟨k, p, h3, hk, hp', hz, h4, h6, e⟩
    · have hdt : kDp σ g = 1 + max (kDp σ p) (kDp σ z) := tdp_2 (iE_V h) hk hp' hz (by omega) (by omega) h4 h5 h6 h7
      have hgd2 := hgd
      unfold kGd at hgd2
      rw [tgd_2 (iE_V h) hk hp' hz (by omega) (by omega) h4 h5 h6 h7, Bool.and_eq_true] at hgd2
      obtain ⟨⟨c1, d1⟩, -, -⟩ := po_tab h p h6 acc hc hd
      obtain ⟨⟨c2, d2⟩, -, -⟩ := po_tab h z h7 _ c1 d1
      have hgz : kTv σ g ∈ poT (knN σ n) (kTv σ z) (poT (knN σ n) (kTv σ p) acc) → kTv σ g ∈ acc := fun q => by
        have sg : vsz (kTv σ g) = 1 + vsz (kTv σ p) + vsz (kTv σ z) := by rw [e, vsz_nd2]
        rcases poT_sz _ _ _ q with y | y
        · rcases poT_sz _ _ _ y with w | w
          · exact w
          · omega
        · omega
      have hP : poT (knN σ n) (kTv σ g) acc = cit (kTv σ g ∈ acc) acc (poT (knN σ n) (kTv σ z) (poT (knN σ n) (kTv σ p) acc) ++ [kTv σ g]) := by
        rw [e] at hnN ⊢
        rw [poT_2 (by omega)]
        by_cases q : vnd k (kTv σ p) (some (kTv σ z)) ∈ acc
        · rw [cit_T (Or.inr q), cit_T q]
        · rw [cit_F (not_or.mpr ⟨hnN, q⟩), cit_F q]
      have hcl2 : kTv σ g ∈ acc → poT (knN σ n) (kTv σ z) (poT (knN σ n) (kTv σ p) acc) = acc := fun q => by
        rw [poT_in (hc g hg2.1 hg2.2 q p (by have := iE_lt h h6; omega) (Or.inl hp')), poT_in (hc g hg2.1 hg2.2 q z (by have := iE_lt h h7; omega) (Or.inr hz))]
      have hroom2 : n + (poT (knN σ n) (kTv σ z) (poT (knN σ n) (kTv σ p) acc)).length ≤ 200 ∧ (kTv σ g ∉ acc → n + (poT (knN σ n) (kTv σ z) (poT (knN σ n) (kTv σ p) acc)).length < 200) := by
        by_cases q : kTv σ g ∈ acc
        · rw [hcl2 q]
          rw [hP, cit_T q] at hroom
          exact ⟨hroom, fun y => absurd q y⟩
        · rw [hP, cit_F q, List.length_append, List.length_singleton] at hroom
          exact ⟨by omega, fun _ => by omega⟩
      have hl1 := poT_len (N := knN σ n) (g := kTv σ z) (acc := poT (knN σ n) (kTv σ p) acc)
      iterate 5 (refine kX_one rfl ?_)
      refine kX_ialdV rfl rfl (by decide) (g) (by first | rfl | decide) (hgl) ((eT hq).2.1.trans hp') ?_
      iterate 3 (refine kX_one rfl ?_)
      refine kX_top (y := nI (dd + 1)) (nI_1 dd) ?_
      refine kX_cal (IH d (dd + 1) τ p acc (by omega) (by omega) hq hc hd h6 hgd2.1 (by omega)) rfl (Or.inr rfl) rfl rfl rfl (fun r1 τ1 q1 => ?_)
      obtain ⟨x', rfl, x1, x2, hq1⟩ := q1
      iterate 6 (refine kX_one rfl ?_)
      refine kX_ialdV rfl rfl (by decide) (g) (by first | rfl | decide) (hgl) ((eT hq1).2.2.trans hz) ?_
      iterate 3 (refine kX_one rfl ?_)
      refine kX_top (y := nI (dd + 1)) (nI_1 dd) ?_
      refine kX_cal (IH d (dd + 1) τ1 z _ (by omega) (by omega) hq1 c1 d1 h7 hgd2.2 hroom2.1) rfl (Or.inr rfl) rfl rfl rfl (fun r1 τ2 q1 => ?_)
      obtain ⟨y', rfl, y1, y2, hq2⟩ := q1
      have x1' : x' < n + (poT (knN σ n) (kTv σ z) (poT (knN σ n) (kTv σ p) acc)).length := by omega
      have x2' : kTv τ2 x' = kTv σ p := by
        obtain ⟨w, w1, w2⟩ := gn_of h hq2 (g := kTv σ p) (by
          have := gn_has h hq1 (t := x') x1
          rw [x2] at this
          exact this.imp id poT_mono)
        by_cases q : x' < n
        · rw [gn_tv h hq2 (Or.inl q), ← gn_tv h hq1 (Or.inl q)]
          exact x2
        · obtain ⟨j, rfl⟩ : ∃ j, x' = n + j := ⟨x' - n, by omega⟩
          have hj : j < (poT (knN σ n) (kTv σ p) acc).length := by omega
          rw [hq2.2.2.2.2.2.2.1 j (by omega)]
          rw [hq1.2.2.2.2.2.2.1 j hj] at x2
          obtain ⟨r, er⟩ := poT_pre (N := knN σ n) (kTv σ z) (poT (knN σ n) (kTv σ p) acc)
          simp only [er]
          rw [List.getElem_append_left hj]
          exact x2
      have hT2 := hq2.1
      have hVn := hq2.2.2.2.2.1.1
      generalize hA2 : poT (knN σ n) (kTv σ z) (poT (knN σ n) (kTv σ p) acc) = A2 at *
      iterate 7 (refine kX_one rfl ?_)
      refine kX_ialdV rfl rfl (by decide) (g) (by first | rfl | decide) (hgl) ((eT hq2).1.trans hk) ?_
      iterate 2 (refine kX_one rfl ?_)
      refine kX_cal (mf_find L xs (d + f + 3) τ2 (n + A2.length) (nI k) (nI x') (nI y') hT2.1 hq2.2.1) rfl (Or.inr rfl) rfl rfl rfl (fun r1 σ1 q1 => ?_)
      obtain ⟨hq3, rfl⟩ := q1
      rcases hq3 with ⟨rfl, hno⟩ | ⟨t, t1, rfl, t3⟩
      · have hng : kTv σ g ∉ A2 := fun q => by
          obtain ⟨w, w1, w2⟩ := gn_of h hq2 (Or.inr q)
          rcases (hVn w w1).2 with ⟨k', z3, zk, zf, zs⟩ | ⟨k', a', b', z3, zk, zx, zy, z4, z5, z6, z7⟩ | ⟨k', a', z3, zk, zx, zy, z4, z6⟩
          · have w3 : kTv τ2 w = .arg w := tvl_0 zk z3
            rw [w2, e] at w3
            unfold vnd at w3
            simp only at w3
            split at w3
            · exact absurd w3 (by simp)
            · split at w3
              · exact absurd w3 (by simp)
              · split at w3 <;> exact absurd w3 (by simp)
          · have w3 : kTv τ2 w = vnd k' (kTv τ2 a') (some (kTv τ2 b')) := tvl_2 hVn zk zx zy (by omega) (by omega) z4 z5 z6 z7
            rw [w2, e] at w3
            obtain ⟨v1, v2, v3⟩ := vnd_inj2 (by omega) (by omega) w3
            subst v1
            have va : a' = x' := gn_inj hq2 z6 x1' (v2.symm.trans x2'.symm)
            have vb : b' = y' := gn_inj hq2 z7 y1 (v3.symm.trans y2.symm)
            subst va vb
            exact hno w ⟨w1, by rw [zk, fN_nI (by omega)]; omega⟩ ⟨zk, zx, zy⟩
          · have w3 : kTv τ2 w = vnd k' (kTv τ2 a') none := tvl_1 hVn zk zx zy (by omega) (by omega) z4 z6
            rw [w2, e] at w3
            exact absurd w3 (vnd_21 (by omega) (by omega))
        have hnacc : kTv σ g ∉ acc := fun q => hng (by rw [hcl2 q]; exact q)
        have hlt2 := hroom2.2 hnacc
        have hnew := gn_new (k := k) (x := x') (y := y') (a := nI x') (c := nI y') hq2 hlt2 (by omega) (Or.inr (Or.inl ⟨by omega, rfl, rfl, x1', y1⟩)) x1' (fun _ => y1) (fun q => by
          have hag : kAG σ n z := by
            rcases h3 with w | w | w
            · omega
            · omega
            · exact w.2
          have : y' = z := gn_same h hq2 hag.1 y1 y2
          rw [this]
          exact hag) (fun q => by omega) (gn_grd h hq2 h6 hgd2.1 x1' x2') (fun _ => gn_grd h hq2 h7 hgd2.2 y1 y2) (fun t ht t3 => hno t ⟨ht, t3⟩)
        rw [if_neg (by omega), x2', y2, ← e] at hnew
        have fin : gnP σ n acc g (some (.int (nI (n + A2.length)))) (cCo τ2 (n + A2.length) k (nI x') (nI y')) := by
          unfold gnP
          rw [hP, cit_F hnacc]
          refine ⟨n + A2.length, rfl, by simp, ?_, hnew⟩
          have := hnew.2.2.2.2.2.2.1 A2.length (by simp)
          rw [this, List.getElem_append_right (Nat.le_refl _)]
          simp
        iterate 10 (refine kX_one rfl ?_)
        refine kX_ialdV rfl rfl (by decide) (g) (by first | rfl | decide) (hgl) ((eT hq2).1.trans hk) ?_
        iterate 2 (refine kX_one rfl ?_)
        refine kX_cal (mf_newCompound L xs (d + f + 1) τ2 (n + A2.length) k (nI x') (nI y') hT2 hlt2) rfl (Or.inr rfl) rfl rfl rfl (fun r1 ω q1 => ?_)
        obtain ⟨rfl, rfl⟩ := q1
        refine kX_ret (i := .ireturn) (len := 1) rfl (Or.inr rfl) rfl (fin)
      · have htg : kTv τ2 t = kTv σ g := by
          rcases (hVn t t1.1).2 with ⟨k', z3, zk, zf, zs⟩ | ⟨k', a', b', z3, zk, zx, zy, z4, z5, z6, z7⟩ | ⟨k', a', z3, zk, zx, zy, z4, z6⟩
          · exact absurd (zf.symm.trans t3.2.1) (fun w => nI_m1 (by omega) w.symm)
          · have w3 : kTv τ2 t = vnd k' (kTv τ2 a') (some (kTv τ2 b')) := tvl_2 hVn zk zx zy (by omega) (by omega) z4 z5 z6 z7
            obtain rfl : k' = k := nI_inj (zk.symm.trans t3.1)
            obtain rfl : a' = x' := nI_inj (zx.symm.trans t3.2.1)
            obtain rfl : b' = y' := nI_inj (zy.symm.trans t3.2.2)
            rw [w3, x2', y2, e]
          · exact absurd (zy.symm.trans t3.2.2) (fun w => nI_m1 (by omega) w.symm)
        have hin : kTv σ g ∈ acc := by
          rcases gn_has h hq2 t1.1 with w | w
          · rw [htg] at w
            exact absurd w hnN
          · rw [htg] at w
            exact hgz w
        have eA := hcl2 hin
        have fin : gnP σ n acc g (some (.int (nI t))) τ2 := by
          unfold gnP
          rw [hP, cit_T hin]
          subst eA
          exact ⟨t, rfl, t1.1, htg, hq2⟩
        iterate 3 (refine kX_one rfl ?_)
        repeat refine kX_one rfl ?_
        refine kX_ifF (decide_eq_false (nI_m1 (by have := hT2.1; have := t1.1; omega))) ?_
        repeat refine kX_one rfl ?_
        refine kX_ret (i := .ireturn) (len := 1) rfl (Or.inr rfl) rfl (fin)
    · have hdt : kDp σ g = 1 + max (kDp σ p) 0 := tdp_1 (iE_V h) hk hp' hz (by omega) (by omega) h4 h6
      have hgd2 := hgd
      unfold kGd at hgd2
      rw [tgd_1 (iE_V h) hk hp' hz (by omega) (by omega) h4 h6] at hgd2
      obtain ⟨⟨c1, d1⟩, -, -⟩ := po_tab h p h6 acc hc hd
      have hgz : kTv σ g ∈ poT (knN σ n) (kTv σ p) acc → kTv σ g ∈ acc := fun q => by
        have sg : vsz (kTv σ g) = 1 + vsz (kTv σ p) := by rw [e, vsz_nd1]
        rcases poT_sz _ _ _ q with y | y
        · exact y
        · omega
      have hP : poT (knN σ n) (kTv σ g) acc = cit (kTv σ g ∈ acc) acc (poT (knN σ n) (kTv σ p) acc ++ [kTv σ g]) := by
        rw [e] at hnN ⊢
        rw [poT_1 (by omega)]
        by_cases q : vnd k (kTv σ p) none ∈ acc
        · rw [cit_T (Or.inr q), cit_T q]
        · rw [cit_F (not_or.mpr ⟨hnN, q⟩), cit_F q]
      have hcl2 : kTv σ g ∈ acc → poT (knN σ n) (kTv σ p) acc = acc := fun q => by
        rw [poT_in (hc g hg2.1 hg2.2 q p (by have := iE_lt h h6; omega) (Or.inl hp'))]
      have hroom2 : n + (poT (knN σ n) (kTv σ p) acc).length ≤ 200 ∧ (kTv σ g ∉ acc → n + (poT (knN σ n) (kTv σ p) acc).length < 200) := by
        by_cases q : kTv σ g ∈ acc
        · rw [hcl2 q]
          rw [hP, cit_T q] at hroom
          exact ⟨hroom, fun y => absurd q y⟩
        · rw [hP, cit_F q, List.length_append, List.length_singleton] at hroom
          exact ⟨by omega, fun _ => by omega⟩
      iterate 5 (refine kX_one rfl ?_)
      refine kX_ialdV rfl rfl (by decide) (g) (by first | rfl | decide) (hgl) ((eT hq).2.1.trans hp') ?_
      iterate 3 (refine kX_one rfl ?_)
      refine kX_top (y := nI (dd + 1)) (nI_1 dd) ?_
      refine kX_cal (IH d (dd + 1) τ p acc (by omega) (by omega) hq hc hd h6 hgd2 hroom2.1) rfl (Or.inr rfl) rfl rfl rfl (fun r1 τ2 q1 => ?_)
      obtain ⟨x', rfl, x1', x2', hq2⟩ := q1
      iterate 6 (refine kX_one rfl ?_)
      refine kX_ialdV rfl rfl (by decide) (g) (by first | rfl | decide) (hgl) ((eT hq2).2.2.trans hz) ?_
      iterate 3 (refine kX_one rfl ?_)
      have hB2 := gn_nB h hq2
      have r2 : kXM kT L xs (d + f + 5) 58 [.ref 186, .int (-1), .int (nI dd + Int32.ofInt 1)] τ2 (fun r τ' => r = some (.int (-1)) ∧ τ2 = τ') := by
        unfold kXM
        iterate 2 (refine kX_one rfl ?_)
        refine kX_cal (mc_unn L xs (d + f + 3) τ2 186 200 _ u (-1) hB2) rfl (Or.inr rfl) rfl rfl rfl (fun r1 σ1 q1 => ?_)
        obtain ⟨rfl, rfl⟩ := q1
        repeat refine kX_one rfl ?_
        refine kX_ifT (decide_eq_true (isB_F (fun ⟨g', z1, z2, z3⟩ => nI_m1 (by omega) z3.symm))) ?_
        iterate 1 (refine kX_one rfl ?_)
        refine kX_ret (i := .ireturn) (len := 1) rfl (Or.inr rfl) rfl (⟨rfl, rfl⟩)
      refine kX_cal r2 rfl (Or.inr rfl) rfl rfl rfl (fun r1 τ3 q1 => ?_)
      obtain ⟨rfl, rfl⟩ := q1
      have hT2 := hq2.1
      have hVn := hq2.2.2.2.2.1.1
      generalize hA2 : poT (knN σ n) (kTv σ p) acc = A2 at *
      iterate 7 (refine kX_one rfl ?_)
      refine kX_ialdV rfl rfl (by decide) (g) (by first | rfl | decide) (hgl) ((eT hq2).1.trans hk) ?_
      iterate 2 (refine kX_one rfl ?_)
      refine kX_cal (mf_find L xs (d + f + 3) τ2 (n + A2.length) (nI k) (nI x') (-1) hT2.1 hq2.2.1) rfl (Or.inr rfl) rfl rfl rfl (fun r1 σ1 q1 => ?_)
      obtain ⟨hq3, rfl⟩ := q1
      rcases hq3 with ⟨rfl, hno⟩ | ⟨t, t1, rfl, t3⟩
      · have hng : kTv σ g ∉ A2 := fun q => by
          obtain ⟨w, w1, w2⟩ := gn_of h hq2 (Or.inr q)
          rcases (hVn w w1).2 with ⟨k', z3, zk, zf, zs⟩ | ⟨k', a', b', z3, zk, zx, zy, z4, z5, z6, z7⟩ | ⟨k', a', z3, zk, zx, zy, z4, z6⟩
          · have w3 : kTv τ2 w = .arg w := tvl_0 zk z3
            rw [w2, e] at w3
            unfold vnd at w3
            simp only at w3
            split at w3 <;> exact absurd w3 (by simp)
          · have w3 : kTv τ2 w = vnd k' (kTv τ2 a') (some (kTv τ2 b')) := tvl_2 hVn zk zx zy (by omega) (by omega) z4 z5 z6 z7
            rw [w2, e] at w3
            exact absurd w3.symm (vnd_21 (by omega) (by omega))
          · have w3 : kTv τ2 w = vnd k' (kTv τ2 a') none := tvl_1 hVn zk zx zy (by omega) (by omega) z4 z6
            rw [w2, e] at w3
            obtain ⟨v1, v2⟩ := vnd_inj1 (by omega) (by omega) w3
            subst v1
            have va : a' = x' := gn_inj hq2 z6 x1' (v2.symm.trans x2'.symm)
            subst va
            exact hno w ⟨w1, by rw [zk, fN_nI (by omega)]; omega⟩ ⟨zk, zx, zy⟩
        have hnacc : kTv σ g ∉ acc := fun q => hng (by rw [hcl2 q]; exact q)
        have hlt2 := hroom2.2 hnacc
        have hnew := gn_new (k := k) (x := x') (y := 0) (a := nI x') (c := -1) hq2 hlt2 (by omega) (Or.inr (Or.inr ⟨by omega, rfl, rfl, x1'⟩)) x1' (fun _ => by omega) (fun q => by omega) (fun q => by
          have hag : kAG σ n p := by
            rcases h3 with w | w
            · omega
            · exact w.2
          have : x' = p := gn_same h hq2 hag.1 x1' x2'
          rw [this]
          exact hag) (gn_grd h hq2 h6 hgd2 x1' x2') (fun _ => by omega) (fun t ht t3 => hno t ⟨ht, t3⟩)
        rw [if_pos (by omega), x2', ← e] at hnew
        have fin : gnP σ n acc g (some (.int (nI (n + A2.length)))) (cCo τ2 (n + A2.length) k (nI x') (-1)) := by
          unfold gnP
          rw [hP, cit_F hnacc]
          refine ⟨n + A2.length, rfl, by simp, ?_, hnew⟩
          have := hnew.2.2.2.2.2.2.1 A2.length (by simp)
          rw [this, List.getElem_append_right (Nat.le_refl _)]
          simp
        iterate 10 (refine kX_one rfl ?_)
        refine kX_ialdV rfl rfl (by decide) (g) (by first | rfl | decide) (hgl) ((eT hq2).1.trans hk) ?_
        iterate 2 (refine kX_one rfl ?_)
        refine kX_cal (mf_newCompound L xs (d + f + 1) τ2 (n + A2.length) k (nI x') (-1) hT2 hlt2) rfl (Or.inr rfl) rfl rfl rfl (fun r1 ω q1 => ?_)
        obtain ⟨rfl, rfl⟩ := q1
        refine kX_ret (i := .ireturn) (len := 1) rfl (Or.inr rfl) rfl (fin)
      · have htg : kTv τ2 t = kTv σ g := by
          rcases (hVn t t1.1).2 with ⟨k', z3, zk, zf, zs⟩ | ⟨k', a', b', z3, zk, zx, zy, z4, z5, z6, z7⟩ | ⟨k', a', z3, zk, zx, zy, z4, z6⟩
          · exact absurd (zf.symm.trans t3.2.1) (fun w => nI_m1 (by omega) w.symm)
          · exact absurd (zy.symm.trans t3.2.2) (nI_m1 (by omega))
          · have w3 : kTv τ2 t = vnd k' (kTv τ2 a') none := tvl_1 hVn zk zx zy (by omega) (by omega) z4 z6
            obtain rfl : k' = k := nI_inj (zk.symm.trans t3.1)
            obtain rfl : a' = x' := nI_inj (zx.symm.trans t3.2.1)
            rw [w3, x2', e]
        have hin : kTv σ g ∈ acc := by
          rcases gn_has h hq2 t1.1 with w | w
          · rw [htg] at w
            exact absurd w hnN
          · rw [htg] at w
            exact hgz w
        have eA := hcl2 hin
        have fin : gnP σ n acc g (some (.int (nI t))) τ2 := by
          unfold gnP
          rw [hP, cit_T hin]
          subst eA
          exact ⟨t, rfl, t1.1, htg, hq2⟩
        iterate 3 (refine kX_one rfl ?_)
        repeat refine kX_one rfl ?_
        refine kX_ifF (decide_eq_false (nI_m1 (by have := hT2.1; have := t1.1; omega))) ?_
        repeat refine kX_one rfl ?_
        refine kX_ret (i := .ireturn) (len := 1) rfl (Or.inr rfl) rfl (fin)
end
section
/-! alike: row -/
def nuOk (τ : kS) (n g : Nat) : Prop := n ≤ g ∧ vsz (kTv τ g) ≤ 24 ∧ n + (poT (knN τ n) (kTv τ g) []).length ≤ 200
def nuP (τ : kS) (n g : Nat) (r : Option Value) (τ' : kS) : Prop := (∃ z, r = some (.int z)) ∧ ∃ W, (¬ nuOk τ n g ∧ τ' = va_up τ 194 W) ∨ (nuOk τ n g ∧ gnQ (va_up τ 194 W) τ' n (poT (knN τ n) (kTv τ g) []))
set_option maxRecDepth 100000 in
set_option maxHeartbeats 4000000 in
theorem mf_giveSame (L : Nat) (xs : Nat → Int32) (d : Nat) (τ : kS) (n u g : Nat) (y : Int32) (hB : nB τ 186 200 n u) (hg : g < n) : kXM kT L xs (d + 3) 58 [.ref 186, .int (nI g), .int y] τ (fun r τ' => r = some (.int (nI g)) ∧ τ = τ') := by
  have hn := hB.2.1
  have hu := hB.2.2.1
  unfold kXM
  iterate 2 (refine kX_one rfl ?_)
  refine kX_cal (mc_unn L xs (d + 1) τ 186 200 n u (nI g) hB) rfl (Or.inr rfl) rfl rfl rfl (fun r1 σ1 q1 => ?_)
  obtain ⟨rfl, rfl⟩ := q1
  repeat refine kX_one rfl ?_
  refine kX_ifT (decide_eq_true (isB_F (fun ⟨g', z1, z2, z3⟩ => by have := nI_inj z3; omega))) ?_
  iterate 1 (refine kX_one rfl ?_)
  refine kX_ret (i := .ireturn) (len := 1) rfl (Or.inr rfl) rfl (⟨rfl, rfl⟩)
set_option maxRecDepth 100000 in
set_option maxHeartbeats 4000000 in
theorem mf_numbered (L : Nat) (xs : Nat → Int32) (d : Nat) (τ : kS) (n u m g : Nat) (l : rwT) (h : iE τ 186 200 n u m l) (hT : cT τ n) (hC : cCn τ n) (hG : gR τ n) (hg : kV n 200 u g) (hgd : kGd τ g) (hsz : vsz (kTv τ g) ≤ 576) : kXM kT L xs (d + 55) 143 [.ref 0, .ref 186, .int (nI g)] τ (nuP τ n g) := by
  have hn := h.2.1
  have hB := iE_nB h
  have hu := hB.2.2.1
  have hgl := iE_lt h hg
  have hdp : kDp τ g ≤ 47 := by
    rcases hg with q | q
    · have := h.2.2.2.2.2.2.2.2.1 g q
      omega
    · exact (h.2.2.2.2.1.2.2.2.2.1 g q.1 q.2).2.2
  have hpl : (poT (knN τ n) (kTv τ g) []).length ≤ 576 := by
    have := po_tab h g hg [] cloK_nil List.Pairwise.nil
    have := nd_sub (poT (knN τ n) (kTv τ g) []) ((List.range u).map (fun i => kTv τ (200 + i))) this.1.2 (fun t ht => by
      rcases this.2.1 t ht with q | ⟨x, x1, x2, -, rfl⟩
      · exact absurd q List.not_mem_nil
      · exact List.mem_map.mpr ⟨x - 200, List.mem_range.mpr (by omega), by rw [show 200 + (x - 200) = x by omega]⟩)
    rw [List.length_map, List.length_range] at this
    omega
  have hzg : τ 5 g = nI (vsz (kTv τ g)) := by
    have e : vsz (kTv τ g) = tsz (τ 2) (τ 3) (τ 4) g := vsz_tvl (iE_V h) g hg
    rw [e]
    exact h.2.2.2.2.1.2.2.2.1.2.1 g hg
  unfold kXM
  iterate 3 (refine kX_one rfl ?_)
  refine kX_top (hT.2.1) ?_
  iterate 2 (refine kX_one rfl ?_)
  refine kX_cal (mf_missingFor L xs (d + 51) τ n u m g l h hg) rfl (Or.inr rfl) rfl rfl rfl (fun r1 σ1 q1 => ?_)
  obtain ⟨rfl, W, rfl⟩ := q1
  iterate 1 (refine kX_one rfl ?_)
  refine kX_top (nI_add n (poT (knN τ n) (kTv τ g) []).length) ?_
  iterate 1 (refine kX_one rfl ?_)
  repeat refine kX_one rfl ?_
  refine kX_if (fun q => ?_) (fun q => ?_)
  · have q := qle q (n + (poT (knN τ n) (kTv τ g) []).length) 200
    iterate 4 (refine kX_one rfl ?_)
    refine kX_ialdV rfl rfl (by decide) (g) (by first | rfl | decide) (hgl) (hzg) ?_
    iterate 1 (refine kX_one rfl ?_)
    repeat refine kX_one rfl ?_
    refine kX_if (fun q2 => ?_) (fun q2 => ?_)
    · have q2 := qle q2 (vsz (kTv τ g)) 24
      iterate 3 (refine kX_one rfl ?_)
      by_cases hgn : g < n
      · have r2 := mf_giveSame L xs (d + 51) (va_up τ 194 W) n u g (nI 0) hB hgn
        refine kX_cal r2 rfl (Or.inr rfl) rfl rfl rfl (fun r1 σ1 q1 => ?_)
        obtain ⟨rfl, rfl⟩ := q1
        refine kX_ret (i := .ireturn) (len := 1) rfl (Or.inr rfl) rfl (⟨⟨_, rfl⟩, W, Or.inl ⟨fun z => by have := z.1; omega, rfl⟩⟩)
      · have hE : iE (va_up τ 194 W) 186 200 n u m l := h
        have hTW : cT (va_up τ 194 W) n := cT_eq (σ := τ) rfl rfl (fun _ _ => ⟨rfl, rfl, rfl, rfl, rfl, rfl⟩) hT
        refine kX_cal (mf_giveNumber L xs (va_up τ 194 W) n u m l hE 49 d 0 (va_up τ 194 W) g [] rfl (by have e : kDp (va_up τ 194 W) g = kDp τ g := rfl; omega) (gn_0 hE hTW hC hG) cloK_nil List.Pairwise.nil hg hgd q) rfl (Or.inr rfl) rfl rfl rfl (fun r1 ω q1 => ?_)
        obtain ⟨t, rfl, t1, t2, t3⟩ := q1
        refine kX_ret (i := .ireturn) (len := 1) rfl (Or.inr rfl) rfl (⟨⟨_, rfl⟩, W, Or.inr ⟨⟨by omega, q2, q⟩, t3⟩⟩)
    · have q2 := qleF q2 (vsz (kTv τ g)) 24
      repeat refine kX_one rfl ?_
      refine kX_ret (i := .ireturn) (len := 1) rfl (Or.inr rfl) rfl (⟨⟨_, rfl⟩, W, Or.inl ⟨fun z => by have := z.2.1; omega, rfl⟩⟩)
  · have q := qleF q (n + (poT (knN τ n) (kTv τ g) []).length) 200
    repeat refine kX_one rfl ?_
    refine kX_ret (i := .ireturn) (len := 1) rfl (Or.inr rfl) rfl (⟨⟨_, rfl⟩, W, Or.inl ⟨fun z => by have := z.2.2; omega, rfl⟩⟩)
/-- the same trees, the same cells -/
theorem tv_cells {τ ω : kS} {n b : Nat} {AG : Nat → Prop} (hV : ∀ t, t < n → t < 100000 ∧ tOk (fun t => t < n) AG (τ 2) (τ 3) (τ 4) t) (hM : mTb ω n b) (he : ∀ t, t < n → kTv τ t = mtv ω t) {t : Nat} (ht : t < n) (hk4 : 3 < fN (τ 2 t)) : τ 2 t = ω 233 t ∧ τ 3 t = ω 234 t ∧ τ 4 t = ω 235 t ∧ 3 < fN (ω 233 t) := by
  have hn := hM.1
  have hV2 := mTb_num hM
  have hin : ∀ a b, a < n → b < n → mtv ω a = mtv ω b → a = b := fun a b ha hb e => mtv_inj hM (Or.inl ha) (Or.inl hb) e
  have e := he t ht
  rcases (hV t ht).2 with ⟨k, h3, hk, -, -⟩ | ⟨k, p, z, h3, hk, hp, hz, h4, h5, h6, h7⟩ | ⟨k, p, h3, hk, hp, hz, h4, h6⟩
  · rw [hk, fN_nI (by omega)] at hk4
    omega
  · have e1 : kTv τ t = vnd k (kTv τ p) (some (kTv τ z)) := tvl_2 hV hk hp hz (by omega) (by omega) h4 h5 h6 h7
    rcases (hV2 t ht).2 with ⟨k', z3, zk, zf, zs⟩ | ⟨k', a', b', z3, zk, zx, zy, z4, z5, z6, z7⟩ | ⟨k', a', z3, zk, zx, zy, z4, z6⟩
    · have e2 : mtv ω t = .arg t := tvl_0 zk z3
      rw [← e, e1] at e2
      unfold vnd at e2
      simp only at e2
      split at e2
      · exact absurd e2 (by simp)
      · split at e2
        · exact absurd e2 (by simp)
        · split at e2 <;> exact absurd e2 (by simp)
    · have e2 : mtv ω t = vnd k' (mtv ω a') (some (mtv ω b')) := tvl_2 hV2 zk zx zy (by omega) (by omega) z4 z5 z6 z7
      rw [← e, e1, he p h6, he z h7] at e2
      obtain ⟨v1, v2, v3⟩ := vnd_inj2 (by omega) (by omega) e2
      subst v1
      obtain rfl := hin _ _ h6 z6 v2
      obtain rfl := hin _ _ h7 z7 v3
      exact ⟨hk.trans zk.symm, hp.trans zx.symm, hz.trans zy.symm, by rw [zk, fN_nI (by omega)]; omega⟩
    · have e2 : mtv ω t = vnd k' (mtv ω a') none := tvl_1 hV2 zk zx zy (by omega) (by omega) z4 z6
      rw [← e, e1] at e2
      exact absurd e2 (vnd_21 (by omega) (by omega))
  · have e1 : kTv τ t = vnd k (kTv τ p) none := tvl_1 hV hk hp hz (by omega) (by omega) h4 h6
    rcases (hV2 t ht).2 with ⟨k', z3, zk, zf, zs⟩ | ⟨k', a', b', z3, zk, zx, zy, z4, z5, z6, z7⟩ | ⟨k', a', z3, zk, zx, zy, z4, z6⟩
    · have e2 : mtv ω t = .arg t := tvl_0 zk z3
      rw [← e, e1] at e2
      unfold vnd at e2
      simp only at e2
      split at e2 <;> exact absurd e2 (by simp)
    · have e2 : mtv ω t = vnd k' (mtv ω a') (some (mtv ω b')) := tvl_2 hV2 zk zx zy (by omega) (by omega) z4 z5 z6 z7
      rw [← e, e1] at e2
      exact absurd e2.symm (vnd_21 (by omega) (by omega))
    · have e2 : mtv ω t = vnd k' (mtv ω a') none := tvl_1 hV2 zk zx zy (by omega) (by omega) z4 z6
      rw [← e, e1, he p h6] at e2
      obtain ⟨v1, v2⟩ := vnd_inj1 (by omega) (by omega) e2
      subst v1
      obtain rfl := hin _ _ h6 z6 v2
      exact ⟨hk.trans zk.symm, hp.trans zx.symm, hz.trans zy.symm, by rw [zk, fN_nI (by omega)]; omega⟩
/-- TERMS more on both sides: τ behind the class, ω behind the reference -/
theorem bJ_many {σ τ ω : kS} {n b R S C m : Nat} {kl : List Nat} {P : List Jvm.Term} (h : aJ σ n b R S C kl m) (hP : 0 < P.length) (hq : gnQ σ τ n P) (hI : mI ω (n + P.length) 200 R S C kl) (hG : mGr τ ω n) (ht : ∀ j (h : j < P.length), mtv ω (n + j) = P[j]'h) : bJ m ω := by
  obtain ⟨q1, q2, q3, q4, q5, q6, q7, q8⟩ := hq
  obtain ⟨h1, h2, h3, h4⟩ := h
  have hn := q1.1
  have hi := cGr_hi q3
  have hL : mLow τ ω := mLow_gr hG
  have hk : ∀ u, u < n → ω 233 u = σ 233 u ∧ ω 234 u = σ 234 u ∧ ω 235 u = σ 235 u := fun u hu => by
    have := hG.2.2 u hu
    rw [hi 233 (by decide), hi 234 (by decide), hi 235 (by decide)] at this
    exact this
  have hc : ∀ c, 232 < c → c ∉ rowC → ω c = σ c := fun c c1 c2 => (hG.1 c c2).trans (hi c (by omega))
  have hFG : fG σ ω n := by
    refine ⟨fun c c1 c2 _ _ _ _ => hc c c1 c2, fun j hj => (hG.2.1 j hj).trans (by rw [hi 232 (by decide)]), fun u hu => ⟨(hk u hu).1, (hk u hu).2.1, (hk u hu).2.2, by rw [hc 240 (by decide) (by decide)], by rw [hc 241 (by decide) (by decide)], by rw [hc 238 (by decide) (by decide)]⟩, fun c c1 c2 => (hL c c2).trans (q3.1 c (fun q => by have := tC_lt q; omega))⟩
  have hTO : ∀ t, t < n → kTv τ t = kTv σ t := fun t ht => tA_congr (fun z hz => by
    obtain ⟨a, b', c, -⟩ := h3.1 z hz
    refine ⟨(mTb_num h1.1 z hz).1, tOk_mono (AG' := kAG σ n) (fun x _ q => q) (fun x _ q => ⟨q.1, ?_⟩) a b' c (mTb_num h1.1 z hz).2⟩
    have hx := h3.1 x q.1
    rcases q.2 with e | e
    · exact Or.inl (hx.1.trans e)
    · exact Or.inr ⟨hx.1.trans e.1, (hx.2.2.2.2.2.2 e.1).2.1.trans e.2⟩) (fun z hz => by obtain ⟨a, b, c, -⟩ := q4 z hz; exact ⟨a, b, c, rfl⟩) t ht
  have hMO : ∀ t, t < n → mtv ω t = mtv σ t := fun t ht => tA_congr (mTb_num h1.1) (fun z hz => ⟨(hk z hz).1, (hk z hz).2.1, (hk z hz).2.2, rfl⟩) t ht
  have he : ∀ t, t < n + P.length → kTv τ t = mtv ω t := fun t htn => by
    by_cases q : t < n
    · rw [hTO t q, hMO t q]
      exact aT_tv h1.1 h3.1 q
    · obtain ⟨j, rfl⟩ : ∃ j, t = n + j := ⟨t - n, by omega⟩
      rw [q7 j (by omega), ht j (by omega)]
  have hcell : ∀ t, t < n + P.length → τ 2 t = ω 233 t ∧ τ 3 t = ω 234 t ∧ τ 4 t = ω 235 t := fun t htn => by
    by_cases q : t < n
    · obtain ⟨a, b', c, -⟩ := h3.1 t q
      obtain ⟨a2, b2, c2, -⟩ := q4 t q
      rw [a2, b2, c2, (hk t q).1, (hk t q).2.1, (hk t q).2.2]
      exact ⟨a, b', c⟩
    · obtain ⟨a, b', c, -⟩ := tv_cells q5.1 hI.1 he htn (q8 t (by omega) htn).1
      exact ⟨a, b', c⟩
  refine ⟨n + P.length, 200, R, S, C, kl, hI, cJ_low hL (cJ_gr h2 q3 (by omega) q1), ⟨fun t htn => ?_, ?_⟩, aB_gr h1 h2 hFG (by omega) hn h4⟩
  · by_cases q : t < n
    · obtain ⟨g1, g2, g3, g4, g5, g6, g7, g8, g9⟩ := q4 t q
      have hsg := mTb_sg h1.1 hI.1 (by omega) hk q
      have := h3.1 t q
      unfold aT1 at this ⊢
      rw [hL 2 (by decide), hL 3 (by decide), hL 4 (by decide), hL 5 (by decide), hL 8 (by decide), hL 9 (by decide), hL 10 (by decide), hL 11 (by decide), hL 12 (by decide), g1, g2, g3, g4, g5, g6, g7, g8, g9, (hk t q).1, (hk t q).2.1, (hk t q).2.2, hsg.1, hsg.2, hc 240 (by decide) (by decide), hc 241 (by decide) (by decide), hc 238 (by decide) (by decide), hc 239 (by decide) (by decide)]
      exact this
    · obtain ⟨a, b', c, k4⟩ := tv_cells q5.1 hI.1 he htn (q8 t (by omega) htn).1
      have hsz : tsz (τ 2) (τ 3) (τ 4) t = tsz (ω 233) (ω 234) (ω 235) t := by
        unfold tsz
        exact tA_congr (mTb_num hI.1) (fun z hz => ⟨(hcell z hz).1, (hcell z hz).2.1, (hcell z hz).2.2, rfl⟩) t htn
      have hgd : tgd (τ 2) (τ 3) (τ 4) t = tgd (ω 233) (ω 234) (ω 235) t := tA_congr (mTb_num hI.1) (fun z hz => ⟨(hcell z hz).1, (hcell z hz).2.1, (hcell z hz).2.2, by rw [(hcell z hz).1]⟩) t htn
      have hg1 := (q8 t (by omega) htn).2
      unfold kGd at hg1
      rw [hgd] at hg1
      have hk3 : ∀ k, k ≤ 3 → ω 233 t ≠ nI k := fun k hk e => by
        rw [e, fN_nI (by omega)] at k4
        omega
      unfold aT1
      rw [hL 2 (by decide), hL 3 (by decide), hL 4 (by decide), hL 5 (by decide), hL 8 (by decide)]
      refine ⟨a, b', c, ?_, ?_, fun e => absurd e (hk3 0 (by decide)), fun e => absurd e (hk3 3 (by decide))⟩
      · rw [q5.2.1 t htn, hsz]
        exact (hI.1.2.2.2.2.2.1.2.1 t (Or.inl htn)).symm
      · rw [q6 t htn, isB_T (q8 t (by omega) htn).2, hI.1.2.2.2.2.2.2.1 t (Or.inl htn), hg1]
        rfl
  · unfold cCn cpt at q2 ⊢
    rw [hL 2 (by decide), hL 3 (by decide), hL 4 (by decide), hL 7 (by decide), hL 6 (by decide)]
    exact q2
end
section
/-! alike: row -/
theorem numN_hi2 {σ τ : kS} {n : Nat} (e : ∀ c, 232 ≤ c → τ c = σ c) : numN τ n = numN σ n := by
  unfold numN mtv
  rw [e 233 (by decide), e 234 (by decide), e 235 (by decide)]
set_option maxRecDepth 100000 in
set_option maxHeartbeats 4000000 in
theorem bo_row (L : Nat) (xs : Nat → Int32) (d d' m : Nat) (σ : kS) (x y : Int32) (hm : m < 2147483646) (h : bJ m σ) : kXM kT L xs (d + 56) 127 [.ref 0, .int x, .int y] σ (fun r τ => (∃ z, r = some (.int z)) ∧ kXM kT L xs (d' + 8) 204 [.ref 232, .int x, .int y] τ (fun r' ω => (∃ z, r' = some (.int z)) ∧ bJ (m + 1) ω)) := by
  have hb := bJ_up (Nat.le_succ m) h
  obtain ⟨n, b, R, S, C, kl, h⟩ := h
  have hT := h.1.1
  have hn := hT.1
  have hU := h.2.2.2.2.2.2.2.1
  have hno0 : ¬ (isN y 5 ∧ σ 232 52 = 1) → kXM kT L xs (d' + 8) 204 [.ref 232, .int x, .int y] σ (fun r' ω => (∃ z, r' = some (.int z)) ∧ bJ (m + 1) ω) := fun hz =>
    mg_row L xs d' σ n b R S C kl x y _ h.1 (fun _ z => ⟨⟨z, rfl⟩, hb⟩) (fun _ _ _ _ z1 z2 _ _ _ _ => absurd ⟨z1, z2⟩ hz) (fun _ _ _ _ _ z1 z2 _ _ _ _ _ _ => absurd ⟨⟨4, by decide, z1⟩, z2⟩ hz)
  unfold kXM
  repeat refine kX_one rfl ?_
  refine kX_if (fun q => ?_) (fun q => ?_)
  · have q : y < 0 := of_decide_eq_true q
    repeat refine kX_one rfl ?_
    refine kX_ret (i := .ireturn) (len := 1) rfl (Or.inr rfl) rfl (⟨⟨_, rfl⟩, hno0 (fun ⟨⟨j, j1, j2⟩, _⟩ => by rw [j2] at q; exact nI_pos (by omega) q)⟩)
  · have q : ¬ y < 0 := of_decide_eq_false q
    obtain ⟨j, hj, rfl⟩ := nI_of q
    repeat refine kX_one rfl ?_
    refine kX_if (fun q2 => ?_) (fun q2 => ?_)
    · have q2 := qle q2 j 4
      repeat refine kX_one rfl ?_
      refine kX_if (fun q3 => ?_) (fun q3 => ?_)
      · have hon : σ 181 8 ≠ 0 := qne q3
        have hr0 : σ 232 52 ≠ 0 := hU.1.mp hon
        obtain ⟨hr1, ds, hD, -⟩ := mI_ds h.1 hr0
        iterate 2 (refine kX_one rfl ?_)
        refine kX_cal (mf_intruder L xs d σ σ n b R S C m kl ds (vw_refl σ) h hm hr0 hD) rfl (Or.inr rfl) rfl rfl rfl (fun r1 τ q1 => ?_)
        obtain ⟨rfl, u, m', l, hm', hQ⟩ := q1
        have hE := hQ.2.2.2.1
        have hJ2 := inQ_J h hr0 hD hQ hm'
        have e0 : ∀ c, 232 ≤ c → τ c = σ c := fun c hc => inQ_cell hQ (by omega) (by omega) (by omega) (by omega)
        have hln := (iE_len hE).2
        have hlr : (trRun σ kl ds).length = l.length := by rw [← hQ.2.2.2.2.2.2.2, kTr_len]
        have refN : ∀ π, aJ π n b R S C kl (m + 1) → (∀ c, 232 ≤ c → π c = σ c) → ¬ (nI j = nI 4 ∧ ∃ i q, x = nI i ∧ rowOk σ n (trRun σ kl ds) i q) → kXM kT L xs (d' + 8) 204 [.ref 232, .int x, .int (nI j)] π (fun r' ω => (∃ z, r' = some (.int z)) ∧ bJ (m + 1) ω) := fun π hJ e hz => by
          refine mg_row L xs d' π n b R S C kl x (nI j) _ hJ.1 (fun _ z => ⟨⟨z, rfl⟩, n, b, R, S, C, kl, hJ⟩) (fun ds' b' σ' z _ _ _ _ hF hI => ⟨⟨z, rfl⟩, bJ_fr hJ (mLow_fr hF) hF hI⟩) (fun ds' i q σ' z z1 _ hD' z2 hok _ _ _ => ?_)
          obtain rfl : ds = ds' := mRn_u hJ.1.2.1 hJ.1.2.2.1.1 (mRn_hi e hD) hD'
          unfold rowOk at hok
          rw [numN_hi2 e, trRun_hi e] at hok
          exact absurd ⟨z1, i, q, z2, hok⟩ hz
        have hA : ¬ (nI j = nI 4 ∧ ∃ i q, x = nI i ∧ rowOk σ n (trRun σ kl ds) i q) → kXM kT L xs (d' + 8) 204 [.ref 232, .int x, .int (nI j)] τ (fun r' ω => (∃ z, r' = some (.int z)) ∧ bJ (m + 1) ω) := refN τ hJ2 e0
        iterate 1 (refine kX_one rfl ?_)
        repeat refine kX_one rfl ?_
        refine kX_if (fun q4 => ?_) (fun q4 => ?_)
        · have q4 : x < 0 := of_decide_eq_true q4
          have hz := hA (fun ⟨_, i, q, z1, z2, _⟩ => by
            have := (List.getElem?_eq_some_iff.mp z2).1
            rw [z1] at q4
            exact nI_pos (by omega) q4)
          repeat refine kX_one rfl ?_
          refine kX_ret (i := .ireturn) (len := 1) rfl (Or.inr rfl) rfl (⟨⟨_, rfl⟩, hz⟩)
        · have q4 : ¬ x < 0 := of_decide_eq_false q4
          obtain ⟨i, hi, rfl⟩ := nI_of q4
          iterate 3 (refine kX_one rfl ?_)
          refine kX_top (hE.2.2.2.2.2.2.2.1.1) ?_
          repeat refine kX_one rfl ?_
          refine kX_if (fun q5 => ?_) (fun q5 => ?_)
          · have q5 := qlt q5 i l.length
            have hrow := hE.2.2.2.2.2.2.2.1.2.1 i q5
            have hlg := iE_l hE ⟨l[i]'q5, List.getElem_mem q5, rfl⟩
            have htr : (trRun σ kl ds)[i]? = some (kTv τ (l[i]'q5).1, (l[i]'q5).2.1, nnI (l[i]'q5).2.2) := by
              rw [← hQ.2.2.2.2.2.2.2]
              unfold kTr
              rw [List.getElem?_map, List.getElem?_eq_getElem q5]
              rfl
            have hvs : vsz (kTv τ (l[i]'q5).1) ≤ 576 := trB_run hT h.1.2.1 h.1.2.2.2.1 hD _ (List.mem_of_getElem? htr)
            generalize (l[i]'q5).1 = g at hrow hlg htr hvs
            have hgl := iE_lt hE hlg.1
            iterate 3 (refine kX_one rfl ?_)
            refine kX_ialdV rfl rfl (by decide) (i) (by first | rfl | decide) (by omega) (hrow.1) ?_
            have : j = 0 ∨ j = 1 ∨ j = 2 ∨ j = 3 ∨ j = 4 := by omega
            rcases this with rfl | rfl | rfl | rfl | rfl
            · iterate 7 (refine kX_one rfl ?_)
              refine kX_ialdN rfl rfl (by decide) (g) (by first | rfl | decide) (hgl) ?_
              refine kX_ret (i := .ireturn) (len := 1) rfl (Or.inr rfl) rfl (⟨⟨_, rfl⟩, hA (fun z => absurd (nI_inj z.1) (by decide))⟩)
            · iterate 7 (refine kX_one rfl ?_)
              refine kX_ialdN rfl rfl (by decide) (g) (by first | rfl | decide) (hgl) ?_
              refine kX_ret (i := .ireturn) (len := 1) rfl (Or.inr rfl) rfl (⟨⟨_, rfl⟩, hA (fun z => absurd (nI_inj z.1) (by decide))⟩)
            · iterate 6 (refine kX_one rfl ?_)
              refine kX_ialdN rfl rfl (by decide) (i) (by first | rfl | decide) (by omega) ?_
              refine kX_ret (i := .ireturn) (len := 1) rfl (Or.inr rfl) rfl (⟨⟨_, rfl⟩, hA (fun z => absurd (nI_inj z.1) (by decide))⟩)
            · iterate 6 (refine kX_one rfl ?_)
              refine kX_ialdN rfl rfl (by decide) (i) (by first | rfl | decide) (by omega) ?_
              refine kX_cal (mc_orNone L xs (d + 54) τ _) rfl (Or.inr rfl) rfl rfl rfl (fun r1 σ1 q1 => ?_)
              obtain ⟨rfl, rfl⟩ := q1
              refine kX_ret (i := .ireturn) (len := 1) rfl (Or.inr rfl) rfl (⟨⟨_, rfl⟩, hA (fun z => absurd (nI_inj z.1) (by decide))⟩)
            · have hknN : knN τ n = numN σ n := by
                funext t
                unfold knN numN
                refine propext (exists_congr (fun z => and_congr_right (fun hz => ?_)))
                rw [aT_tv hJ2.1.1 hJ2.2.2.1.1 hz, e0 233 (by decide), e0 234 (by decide), e0 235 (by decide)]
              have hnu : nuOk τ n g ↔ rowOk σ n (trRun σ kl ds) i (kTv τ g, (l[i]'q5).2.1, nnI (l[i]'q5).2.2) := by
                unfold nuOk rowOk
                rw [hknN]
                refine ⟨fun z => ⟨htr, ?_, z.2.1, z.2.2⟩, fun z => ⟨?_, z.2.2.1, z.2.2.2⟩⟩
                · rw [← hknN]
                  have := z.1
                  have hv := hlg.1
                  unfold kV at hv
                  exact kN_hi hE (by omega) (by omega)
                · refine Nat.not_lt.mp (fun hh => z.2.1 ?_)
                  rw [← hknN]
                  exact ⟨g, hh, rfl⟩
              iterate 6 (refine kX_one rfl ?_)
              refine kX_cal (mf_numbered L xs d τ n u m' g l hE hJ2.2.1.1 hQ.2.2.2.2.1 hQ.2.2.2.2.2.1 hlg.1 hlg.2 hvs) rfl (Or.inr rfl) rfl rfl rfl (fun r1 ω q1 => ?_)
              obtain ⟨⟨z, rfl⟩, W, hw⟩ := q1
              have hQW : inQ σ (va_up τ 194 W) n u m' l (trRun σ kl ds) := by
                obtain ⟨h1, h2, h3, h4, h5, h6, h7, h8⟩ := hQ
                refine ⟨⟨⟨fun c a1 a2 a3 a4 a5 a6 => ?_, h1.1.2⟩, h1.2⟩, h2, h3, h4, h5, h6, h7, h8⟩
                rw [up_ne (by omega)]
                exact h1.1.1 c a1 a2 a3 a4 a5 a6
              have hJW := inQ_J h hr0 hD hQW hm'
              have eW : ∀ c, 232 ≤ c → va_up τ 194 W c = σ c := fun c hc => (up_ne (by omega)).trans (e0 c hc)
              rcases hw with ⟨hz, rfl⟩ | ⟨hz, hq⟩
              · have hz2 := refN _ hJW eW (fun ⟨_, i', q', z1, hok⟩ => by
                  have := (List.getElem?_eq_some_iff.mp hok.1).1
                  obtain rfl : i = i' := nI_inj z1
                  have e1 := Option.some.inj (hok.1.symm.trans htr)
                  rw [e1] at hok
                  exact hz (hnu.mpr hok))
                refine kX_ret (i := .ireturn) (len := 1) rfl (Or.inr rfl) rfl (⟨⟨_, rfl⟩, hz2⟩)
              · have eω : ∀ c, 232 ≤ c → ω c = σ c := fun c hc => (cGr_hi hq.2.2.1 c hc).trans (eW c hc)
                have hok := hnu.mp hz
                have hpos : 0 < (poT (knN τ n) (kTv τ g) []).length := by
                  have hv := hlg.1
                  have := hz.1
                  unfold kV at hv
                  rcases (po_tab hE g hlg.1 [] cloK_nil List.Pairwise.nil).2.2 with w | w
                  · exact absurd w (kN_hi hE (by omega) (by omega))
                  · exact List.length_pos_of_mem w
                have hIω := mI_hi eω h.1
                refine kX_ret (i := .ireturn) (len := 1) rfl (Or.inr rfl) rfl (⟨⟨_, rfl⟩, ?_⟩)
                refine mg_row L xs d' ω n b R S C kl (nI i) (nI 4) _ hIω (fun z' => absurd ⟨⟨4, by decide, rfl⟩, by rw [eω 232 (by decide)]; exact hr1⟩ z') (fun ds' b' σ' z' _ _ hD' hno _ _ => ?_) (fun ds' i' q' σ' z' _ _ hD' z2 hok' hG hI ht => ?_)
                · obtain rfl : ds = ds' := mRn_u hIω.2.1 hIω.2.2.1.1 (mRn_hi eω hD) hD'
                  refine absurd ⟨rfl, i, (kTv τ g, (l[i]'q5).2.1, nnI (l[i]'q5).2.2), rfl, ?_⟩ hno
                  unfold rowOk
                  rw [numN_hi2 eω, trRun_hi eω]
                  exact hok
                · obtain rfl : ds = ds' := mRn_u hIω.2.1 hIω.2.2.1.1 (mRn_hi eω hD) hD'
                  unfold rowOk at hok'
                  rw [numN_hi2 eω, trRun_hi eω] at hok'
                  have := (List.getElem?_eq_some_iff.mp hok'.1).1
                  obtain rfl : i = i' := nI_inj z2
                  have eq' : q' = _ := Option.some.inj (hok'.1.symm.trans htr)
                  subst eq'
                  rw [numN_hi2 eω, ← hknN] at hI
                  simp only [numN_hi2 eω, ← hknN] at ht
                  exact ⟨⟨z', rfl⟩, bJ_many hJW hpos hq hI hG ht⟩
          · have q5 := qltF q5 i l.length
            have hz := hA (fun ⟨_, i', q', z1, z2, _⟩ => by
              have := (List.getElem?_eq_some_iff.mp z2).1
              have := nI_inj z1
              omega)
            repeat refine kX_one rfl ?_
            refine kX_ret (i := .ireturn) (len := 1) rfl (Or.inr rfl) rfl (⟨⟨_, rfl⟩, hz⟩)
      · have q3 : σ 181 8 = 0 := qneF q3
        have hr0 : σ 232 52 = 0 := Classical.byContradiction fun z => hU.1.mpr z q3
        repeat refine kX_one rfl ?_
        refine kX_ret (i := .ireturn) (len := 1) rfl (Or.inr rfl) rfl (⟨⟨_, rfl⟩, hno0 (fun z => absurd (z.2.symm.trans hr0) (by decide))⟩)
    · have q2 := qleF q2 j 4
      repeat refine kX_one rfl ?_
      refine kX_ret (i := .ireturn) (len := 1) rfl (Or.inr rfl) rfl (⟨⟨_, rfl⟩, hno0 (fun ⟨⟨j', j1, j2⟩, _⟩ => by have := nI_inj j2; omega)⟩)
end
section
/-! alike: fillKnowledge -/
/-- an intruder at work, seen from σ -/
def gK (σ τ : kS) (K st n u m : Nat) (l : rwT) : Prop := nF2 σ τ K st ∧ iE τ K st n u m l ∧ cCn τ n ∧ gR τ n
theorem gK_cell {σ τ : kS} {K st n u m : Nat} {l : rwT} (h : gK σ τ K st n u m l) {c : Nat} (c1 : c = 1 ∨ 7 ≤ c) (c3 : c < K ∨ K + 9 ≤ c) : τ c = σ c := h.1.1.1 c c3 (by omega) (by omega) (by omega) (by omega) (by omega)
theorem gK_num {σ τ : kS} {K st n u m : Nat} {l : rwT} (h : gK σ τ K st n u m l) {t : Nat} (ht : t < n) : τ 2 t = σ 2 t ∧ τ 3 t = σ 3 t ∧ τ 4 t = σ 4 t := by
  have hn := h.2.1.2.1
  have := isK_b h.2.1.1
  have := h.1.1.2 t (by omega)
  exact ⟨this.1, this.2.1, this.2.2.1⟩
/-- filled -/
def fiP (σ σ' : kS) (K st n m : Nat) (tr : trT) : Prop := ∃ u l, gK σ σ' K st n u m l ∧ σ' K 13 = 1 ∧ kTr σ' l = tr
set_option maxRecDepth 100000 in
set_option maxHeartbeats 4000000 in
theorem mf_fill (L : Nat) (xs : Nat → Int32) (d : Nat) (σ υ : kS) (K st n b R S A M base m : Nat) (kl : List Nat) (g0 : Nat → Int32) (hK : isK K st) (hv : vw σ υ) (hTv : mTb υ n b) (hRo : mRo υ n R) (hKn : mKn υ n kl) (hSv : mSv υ n R S) (hAT : aT υ n) (aR' : aR υ R) (aS' : aS υ S) (hak : aK υ kl) (hst : staV υ A base S) (hcT : cT σ n) (hcRo : cRo σ n R) (hS4 : S ≤ 4) (hSc : σ 13 6 = nI S) (hKw : cKw σ K st) (hms : kMs σ K m) (hm : m < 2147483646) (hA : kT[A]? = some (.inl (0, M, .inl g0))) (hM : M ≤ 100000) (hA2 : (A < K ∨ K + 9 ≤ A) ∧ 13 ≤ A ∧ A < 232) (hbm : base + 28 ≤ M) : kXM kT L xs (d + 54) 22 [.ref 13, .ref K, .ref A, .int (nI base)] σ (fun r σ' => r = none ∧ fiP σ σ' K st n (m + 1) (trSt υ kl S)) := by
  have hb := isK_b hK
  have hR4 := hRo.1
  have hn := hTv.1
  have hlo : ∀ c, c < 232 → υ c = σ c := fun c hc => vw_low hv hc
  have hT := vw_Tb hv hTv
  have hAs : aT σ n := aT_c (fun c c1 c2 => (hlo c (by omega)).symm) (vw_c hv _ (by decide)) hAT
  obtain ⟨u0, hB0, hR0, he0⟩ := cKw_n hK hcT hKw
  unfold kXM
  iterate 2 (refine kX_one rfl ?_)
  refine kX_cal (mf_beginKn L xs (d + 50) σ K st n b u0 m kl hB0 he0 hT hAs hms hm (aK_eq (by rw [hlo 13 (by decide)]) (hlo _ (by decide)).symm hak) (vw_Kn hv hKn)) rfl (Or.inr rfl) rfl rfl rfl (fun r1 ρ q1 => ?_)
  obtain ⟨rfl, hF0, l0, hE0, hC0, hG0, hTr0, hw0⟩ := q1
  have k124 : ∀ τ u l, gK σ τ K st n u (m + 1) l → τ K 13 = 0 → kTr τ l = trSs υ (trKn υ kl) S → ∀ lv, nk lv = true → ([(1, .ref K)] : jL).map (fun q => jl lv q.1) = ([(1, Value.ref K)] : jL).map (fun q => some q.2) → kX kT L xs (d + 54) 22 124 lv [] τ (fun r σ' => r = none ∧ fiP σ σ' K st n (m + 1) (trSt υ kl S)) := by
    intro τ u l hG hw htr lv hk hlv
    refine kX_lv _ hk rfl hlv ?_
    iterate 1 (refine kX_one rfl ?_)
    refine kX_cal (mf_takeApart L xs d τ K st n u (m + 1) l hG.2.1 hw) rfl (Or.inr rfl) rfl (jcall_v rfl rfl rfl (kT_kn hK) rfl rfl) rfl (fun r1 σ1 q1 => ?_)
    obtain ⟨rfl, l', t1, t2, t3, t4⟩ := q1
    have hf : kTr σ1 l' = trSt υ kl S := by
      rw [t4, htr]
      have e1 : τ 238 = υ 238 := (gK_cell hG (by decide) (by omega)).trans (hv.1 _ (by decide) (by decide) (by decide) (by decide) (by decide)).symm
      have e2 : mA τ = mA υ := by
        funext t
        unfold mA
        rw [gK_cell hG (c := 233) (by decide) (by omega), hv.1 233 (by decide) (by decide) (by decide) (by decide) (by decide)]
      rw [e1, e2]
      rfl
    refine kX_ret (i := .return_) (len := 1) rfl (Or.inr rfl) rfl (⟨rfl, u, l', ⟨nF2_trans hG.1 (nF2_P hK t3), t1, cCn_P hK t3 hG.2.2.1, gR_P hK t3 hG.2.2.2⟩, t2, hf⟩)
  have inner : ∀ s r e dn : Nat, s < S → r < R → e ≤ 6 → dn ≤ e → υ 255 s = nI r → υ 247 r = nI e → υ 264 s = nI dn → (∀ τ u l, gK σ τ K st n u (m + 1) l → u ≤ 24 * (6 * (s + 1)) → τ K 13 = 0 → kTr τ l = trSs υ (trKn υ kl) (s + 1) → kX kT L xs (d + 54) 22 118 [(4, .int (nI s)), (0, .ref 13), (1, .ref K), (2, .ref A), (3, .int (nI base))] [] τ (fun r σ' => r = none ∧ fiP σ σ' K st n (m + 1) (trSt υ kl S))) →
      ∀ q : Nat × kS × Nat × rwT, (q.1 ≤ dn ∧ gK σ q.2.1 K st n q.2.2.1 (m + 1) q.2.2.2 ∧ q.2.2.1 ≤ 24 * (6 * s + q.1) ∧ q.2.1 K 13 = 0 ∧ kTr q.2.1 q.2.2.2 = trSe υ s (trSs υ (trKn υ kl) s) q.1) → kX kT L xs (d + 54) 22 44 [(7, .int (nI q.1)), (6, .int (nI dn)), (5, .ref (23 + 35 * r)), (4, .int (nI s)), (0, .ref 13), (1, .ref K), (2, .ref A), (3, .int (nI base))] [] q.2.1 (fun r σ' => r = none ∧ fiP σ σ' K st n (m + 1) (trSt υ kl S)) := by
    intro s r e dn hs hr he6 hdn hrs hev hdo hgo
    have hr4 : r < 4 := by omega
    have hfe : fN (υ 247 r) = e := by rw [hev]; exact fN_nI (by omega)
    have hfr : fN (υ 255 s) = r := by rw [hrs]; exact fN_nI (by omega)
    have hfd : fN (υ 264 s) = dn := by rw [hdo]; exact fN_nI (by omega)
    have hR1 := aR' r hr
    obtain ⟨r', w1, w2, w3, w4, -, w6, -⟩ := hSv.2 s hs
    obtain rfl : r = r' := nI_inj (hrs.symm.trans w2)
    rw [hfd] at w6
    refine kX_while (fun q : Nat × kS × Nat × rwT => [(7, .int (nI q.1)), (6, .int (nI dn)), (5, .ref (23 + 35 * r)), (4, .int (nI s)), (0, .ref 13), (1, .ref K), (2, .ref A), (3, .int (nI base))]) (fun q => q.2.1) _ (fun q => dn - q.1) ?_
    rintro ⟨k, τ, u, l⟩ ⟨i1, i2, i3, i4, i5⟩ ih
    dsimp only at i1 i2 i3 i4 i5 ih ⊢
    iterate 2 (refine kX_one rfl ?_)
    repeat refine kX_one rfl ?_
    refine kX_if (fun q => ?_) (fun q => ?_)
    · have q := qge q k dn
      obtain rfl : k = dn := by omega
      have : trSs υ (trKn υ kl) (s + 1) = trSe υ s (trSs υ (trKn υ kl) s) k := by
        show trSe υ s (trSs υ (trKn υ kl) s) (fN (υ 264 s)) = _
        rw [hfd]
      exact kX_lv _ rfl rfl rfl (hgo τ u l i2 (by omega) i4 (by rw [this]; exact i5))
    · have q := qgeF q k dn
      iterate 2 (refine kX_one rfl ?_)
      refine kX_getN rfl rfl (kT_ro hr4) rfl ?_
      refine kX_top (y := nI e) (by rw [gK_cell i2 (by omega) (by omega), ← hlo (23 + 35 * r) (by omega)]; exact hR1.2.1.trans hev) ?_
      repeat refine kX_one rfl ?_
      refine kX_if (fun q2 => ?_) (fun q2 => ?_)
      · have q2 := qge q2 k e
        omega
      · have hk6 : k < 6 := by omega
        have hEv := hR1.2.2.2.2 k (by rw [hfe]; omega)
        obtain ⟨t, t1, t2, -⟩ := hRo.2.2.2.2.2 r k hr (by rw [hfe]; omega)
        have hft : fN (υ 248 (6 * r + k)) = t := by rw [t2]; exact fN_nI (by omega)
        have htr : trSe υ s (trSs υ (trKn υ kl) s) (k + 1) = cit (υ 249 (6 * r + k) ≠ 0) (trA (trSe υ s (trSs υ (trKn υ kl) s) k) (tin υ s t) (nI 1) (-6)) (trSe υ s (trSs υ (trKn υ kl) s) k) := by
          rw [trSe]
          unfold mEv
          rw [hfr, hft]
        have k112 : ∀ τ' u' l', gK σ τ' K st n u' (m + 1) l' → u' ≤ 24 * (6 * s + (k + 1)) → τ' K 13 = 0 → kTr τ' l' = trSe υ s (trSs υ (trKn υ kl) s) (k + 1) → kX kT L xs (d + 54) 22 112 [(7, .int (nI k)), (6, .int (nI dn)), (5, .ref (23 + 35 * r)), (4, .int (nI s)), (0, .ref 13), (1, .ref K), (2, .ref A), (3, .int (nI base))] [] τ' (fun r σ' => r = none ∧ fiP σ σ' K st n (m + 1) (trSt υ kl S)) := by
          intro τ' u' l' x1 x2 x3 x4
          iterate 2 (refine kX_one rfl ?_)
          have := ih (k + 1, τ', u', l') ⟨q, x1, x2, x3, x4⟩ (by simp only; omega)
          dsimp only at this
          rw [← nI_1] at this
          exact kX_lv _ rfl rfl rfl this
        have hgc : ∀ j, τ (28 + 35 * r + 5 * k) j = υ (28 + 35 * r + 5 * k) j := fun j => by rw [gK_cell i2 (by omega) (by omega), hlo (28 + 35 * r + 5 * k) (by omega)]
        iterate 1 (refine kX_one rfl ?_)
        refine kX_getN rfl rfl (kT_ro hr4) rfl ?_
        iterate 1 (refine kX_one rfl ?_)
        refine kX_aaldN rfl (kT_re hr4) (by decide) (by decide) (by decide) (k) (by first | rfl | decide) (hk6) (ev_at hk6) ?_
        refine kX_getN rfl rfl (kT_ev hr4 hk6) rfl ?_
        repeat refine kX_one rfl ?_
        refine kX_if (fun q3 => ?_) (fun q3 => ?_)
        · have q3 : υ (28 + 35 * r + 5 * k) 0 = 0 := (hgc _).symm.trans (qeq q3)
          have hz : ¬ υ 249 (6 * r + k) ≠ 0 := fun z => hEv.2.1.mpr z q3
          exact k112 τ u l i2 (by omega) i4 (by rw [htr, cit_F hz]; exact i5)
        · have q3 : υ (28 + 35 * r + 5 * k) 0 ≠ 0 := fun z => qeqF q3 ((hgc _).trans z)
          have hz : υ 249 (6 * r + k) ≠ 0 := hEv.2.1.mp q3
          have hst' := w6 k q
          rw [hft] at hst'
          obtain ⟨hks, hkw⟩ := kSt_run (σ := υ) (τ := τ) (A := A) (base := base + 7 * s + 1) hTv hAT.1 t1 hst' (fun p hp => by
            rw [gK_cell i2 (by omega) (by omega), ← hlo A (by omega)]
            exact (hst s hs).2 p hp) ((gK_cell i2 (by decide) (by omega)).trans (hlo _ (by decide)).symm) ((gK_cell i2 (by decide) (by omega)).trans (hlo _ (by decide)).symm) (fun z hz => by rw [hlo 2 (by decide), hlo 3 (by decide), hlo 4 (by decide)]; exact gK_num i2 hz)
          have hdz : kDp τ t ≤ 23 ∧ kSz τ t ≤ 24 := by
            have h1 := i2.2.1.2.2.2.2.2.2.2.2.1 t t1
            have e1 : kSz τ t = tsz (υ 233) (υ 234) (υ 235) t := by
              unfold kSz tsz
              exact tA_congr (mTb_num hTv) (fun z hz => by
                obtain ⟨a, b, c⟩ := gK_num i2 hz
                obtain ⟨a2, b2, c2, -⟩ := hAT.1 z hz
                rw [hlo 2 (by decide)] at a2
                rw [hlo 3 (by decide)] at b2
                rw [hlo 4 (by decide)] at c2
                exact ⟨a.trans a2, b.trans b2, c.trans c2, rfl⟩) t t1
            rw [e1]
            exact ⟨h1, hTv.2.2.2.2.2.2.2.2.2 t t1⟩
          iterate 2 (refine kX_one rfl ?_)
          refine kX_getN rfl rfl (kT_ro hr4) rfl ?_
          iterate 1 (refine kX_one rfl ?_)
          refine kX_aaldN rfl (kT_re hr4) (by decide) (by decide) (by decide) (k) (by first | rfl | decide) (hk6) (ev_at hk6) ?_
          refine kX_getN rfl rfl (kT_ev hr4 hk6) rfl ?_
          refine kX_top (y := nI t) ((hgc _).trans (hEv.1.trans t2)) ?_
          iterate 8 (refine kX_one rfl ?_)
          refine kX_top (y := nI (base + 7 * s + 1)) (ix7w base s) ?_
          iterate 1 (refine kX_one rfl ?_)
          refine kX_cal (mf_groundOf L xs K st n A M (base + 7 * s + 1) (m + 1) l _ g0 hA hM ⟨hA2.1, hA2.2.1⟩ (by omega) 49 d 0 u τ t rfl (by omega) i2.2.1 i2.2.2.1 i2.2.2.2 t1 hks (by omega)) rfl (Or.inr rfl) rfl (jcall_v rfl rfl rfl (kT_kn hK) rfl rfl) rfl (fun r1 σ1 q1 => ?_)
          obtain ⟨u1, g1, rfl, a2, a3, a4, a5, a6, a7, a8, a9, a10⟩ := q1
          iterate 5 (refine kX_one rfl ?_)
          refine kX_cal (mf_add L xs (d + 51) σ1 K st n u1 (m + 1) g1 l (Int32.ofInt 1) (Int32.ofInt (-1)) a7 a2 a3 (a9.2.2.2.trans i4)) rfl (Or.inr rfl) rfl (jcall_v rfl rfl rfl (kT_kn hK) rfl rfl) rfl (fun r1 σ2 q1 => ?_)
          obtain ⟨rfl, b2, b3, b4⟩ := q1
          have hG4 : gK σ σ2 K st n u1 (m + 1) (rwA l g1 (Int32.ofInt 1) (Int32.ofInt (-1))) := ⟨nF2_trans i2.1 (nF2_trans a9.2.1 (nF2_P hK b4)), b2, cCn_P hK b4 a8, gR_P hK b4 (iX_gR i2.2.1 a9 i2.2.2.2)⟩
          have htr2 : kTr σ2 (rwA l g1 (Int32.ofInt 1) (Int32.ofInt (-1))) = trSe υ s (trSs υ (trKn υ kl) s) (k + 1) := by
            rw [htr, cit_T hz, kTr_c (nP_c hK b4), kTr_add a7 a2, a4, hkw, iX_kTr i2.2.1 a9, i5]
            rfl
          iterate 1 (refine kX_one rfl ?_)
          exact kX_lv _ rfl rfl rfl (k112 σ2 u1 _ hG4 (by omega) b3 htr2)
  have outer : ∀ q : Nat × kS × Nat × rwT, (q.1 ≤ S ∧ gK σ q.2.1 K st n q.2.2.1 (m + 1) q.2.2.2 ∧ q.2.2.1 ≤ 24 * (6 * q.1) ∧ q.2.1 K 13 = 0 ∧ kTr q.2.1 q.2.2.2 = trSs υ (trKn υ kl) q.1) → kX kT L xs (d + 54) 22 8 [(4, .int (nI q.1)), (0, .ref 13), (1, .ref K), (2, .ref A), (3, .int (nI base))] [] q.2.1 (fun r σ' => r = none ∧ fiP σ σ' K st n (m + 1) (trSt υ kl S)) := by
    refine kX_while (fun q : Nat × kS × Nat × rwT => [(4, .int (nI q.1)), (0, .ref 13), (1, .ref K), (2, .ref A), (3, .int (nI base))]) (fun q => q.2.1) _ (fun q => S - q.1) ?_
    rintro ⟨s, τ, u, l⟩ ⟨i1, i2, i3, i4, i5⟩ ih
    dsimp only at i1 i2 i3 i4 i5 ih ⊢
    iterate 3 (refine kX_one rfl ?_)
    refine kX_top (y := nI S) (by rw [gK_cell i2 (by omega) (by omega)]; exact hSc) ?_
    repeat refine kX_one rfl ?_
    refine kX_if (fun q => ?_) (fun q => ?_)
    · have q := qge q s S
      obtain rfl : s = S := by omega
      exact k124 τ u l i2 i4 i5 _ rfl rfl
    · have q := qgeF q s S
      obtain ⟨r, hr, hr2, hr3, hr5, -⟩ := hSv.2 s q
      obtain ⟨-, e, e1, e2⟩ := hRo.2.2.1 r hr
      rw [e2, fN_nI (by omega)] at hr5
      have hr4 : r < 4 := by omega
      have hrole : τ 15 s = nI r := by
        rw [gK_cell i2 (c := 15) (by decide) (by omega), ← hlo 15 (by decide)]
        exact (aS' s q).1.trans hr2
      iterate 5 (refine kX_one rfl ?_)
      refine kX_ialdV rfl rfl (by decide) (s) (by first | rfl | decide) (by omega) (hrole) ?_
      refine kX_aaldN rfl (rfl) (by decide) (by decide) (by decide) (r) (by first | rfl | decide) (hr4) (ro_at hr4) ?_
      iterate 5 (refine kX_one rfl ?_)
      refine kX_cal (mc_doneBy L xs (d + 52) τ A M base s g0 hA hM (by omega)) rfl (Or.inr rfl) rfl rfl rfl (fun r1 σ1 q1 => ?_)
      obtain ⟨rfl, rfl⟩ := q1
      refine kX_top (y := nI (fN (υ 264 s))) (by rw [gK_cell i2 (by omega) (by omega), ← hlo A (by omega), (hst s q).1]; exact hr3) ?_
      iterate 3 (refine kX_one rfl ?_)
      refine kX_lv _ rfl rfl rfl (inner s r e (fN (υ 264 s)) q hr e1 hr5 hr2 e2 hr3 (fun τ' u' l' x1 x2 x3 x4 => ?_) (0, τ, u, l) ⟨Nat.zero_le _, i2, by simp only; omega, i4, i5⟩)
      iterate 2 (refine kX_one rfl ?_)
      have := ih (s + 1, τ', u', l') ⟨q, x1, x2, x3, x4⟩ (by simp only; omega)
      dsimp only at this
      rw [← nI_1] at this
      exact kX_lv _ rfl rfl rfl this
  iterate 2 (refine kX_one rfl ?_)
  exact kX_lv _ rfl rfl rfl (outer (0, ρ, 0, l0) ⟨Nat.zero_le _, ⟨hF0, hE0, hC0, hG0⟩, Nat.zero_le _, hw0, (show kTr ρ l0 = trKn υ kl from hTr0.trans (vw_trKn hv))⟩)
end
