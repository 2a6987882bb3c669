/-! alike: receives, the reference's parts -/
theorem mY_sf {σ τ ω : kS} {n b R S C : Nat} {kl : List Nat} {x : sX} (hT : mTb σ n b) (hB : mBs σ n R S C kl) (hY : mY σ τ n R S x) (hF : mSf τ ω n) (hTo : ∃ b, mTb ω n b) (e1 : ω 284 = τ 284) (e2 : ω 285 = τ 285) (e3 : ω 286 = τ 286) (e4 : ω 287 = τ 287) (e5 : ω 232 69 = τ 232 69 ∧ ω 232 70 = τ 232 70 ∧ ω 232 71 = τ 232 71) : mY σ ω n R S x := by
  obtain ⟨h1, ⟨b1, h2⟩, h3, h4, ⟨w1, w2, w3⟩, h5⟩ := hY
  refine ⟨mSf_trans h1 hF, hTo, mSs_sf h2 (mSf_Ro hT h1 hB.1) hF e1 e2 e3 e4 e5.1 h3, fun i hi => ?_, ⟨e5.2.1.trans w1, w2, e5.2.2.trans w3⟩, h5⟩
  have := h4 i hi
  unfold stD stV at this ⊢
  rw [e1, e2, e3, e4]
  exact this
theorem mY_fr {σ τ ω : kS} {n b R S C : Nat} {kl : List Nat} {x : sX} (hT : mTb σ n b) (hB : mBs σ n R S C kl) (hY : mY σ τ n R S x) (hF : mFr τ ω n) (hTo : ∃ b, mTb ω n b) : mY σ ω n R S x := mY_sf hT hB hY (mSf_fr hF) hTo (hF.1 _ (by decide)) (hF.1 _ (by decide)) (hF.1 _ (by decide)) (hF.1 _ (by decide)) ⟨hF.2.1 _ (by decide), hF.2.1 _ (by decide), hF.2.1 _ (by decide)⟩
theorem mY_up {σ τ : kS} {n b R S C c : Nat} {kl : List Nat} {x : sX} {f : Nat → Int32} (hT : mTb σ n b) (hB : mBs σ n R S C kl) (hY : mY σ τ n R S x) (hc : c = 264 ∨ c = 265 ∨ c = 292 ∨ c = 293) : mY σ (va_up τ c f) n R S x := by
  obtain ⟨b1, h2⟩ := hY.2.1
  rcases hc with rfl | rfl | rfl | rfl
  · exact mY_sf hT hB hY (mSf_up (by decide)) ⟨b1, h2⟩ rfl rfl rfl rfl ⟨rfl, rfl, rfl⟩
  · exact mY_sf hT hB hY (mSf_up (by decide)) ⟨b1, h2⟩ rfl rfl rfl rfl ⟨rfl, rfl, rfl⟩
  · exact mY_sf hT hB hY (mSf_up (by decide)) ⟨b1, h2⟩ rfl rfl rfl rfl ⟨rfl, rfl, rfl⟩
  · exact mY_sf hT hB hY (mSf_up (by decide)) ⟨b1, h2⟩ rfl rfl rfl rfl ⟨rfl, rfl, rfl⟩
set_option maxRecDepth 100000 in
set_option maxHeartbeats 4000000 in
theorem mf_rc_try (L : Nat) (xs : Nat → Int32) (d : Nat) (σ : kS) (n b s t : Nat) (l : rwT) (h : mTb σ n b) (hb : b ≤ 776) (hq : mRq σ (mvG σ n b) l) (hj : mJd σ n b l) (hs : s < 4) (ht : t < n) (hst : mSt σ n s t) (x m g : Int32) (my : Int64) (Q : Option Value → kS → Prop)
    (he : ∀ ρ, mFr σ ρ n → mTb ρ n b → mRq ρ (mvG ρ n b) l → mJd ρ n b l → rwM ρ l = rwM σ l → kX kT L xs (d + 6) 217 266 [(9, .int (isB (trM σ (rwM σ l) (tin σ s t)))), (0, .ref 232), (1, .int x), (2, .int (nI s)), (3, .int (nI t)), (4, .int m), (5, .long my), (7, .int g)] [] ρ Q) :
    kX kT L xs (d + 6) 217 242 [(0, .ref 232), (1, .int x), (2, .int (nI s)), (3, .int (nI t)), (4, .int m), (5, .long my), (7, .int g)] [] σ Q := by
  have hb2 := h.2.1
  iterate 2 (refine kX_one rfl ?_)
  refine kX_top (h.2.2.2.2.1) ?_
  iterate 5 (refine kX_one rfl ?_)
  refine kX_cal (mr_standsFor L xs d σ n b s t h (by omega) hs ht hst) rfl (Or.inr rfl) rfl rfl rfl (fun r1 ρ q1 => ?_)
  obtain ⟨u, b', rfl, hE, hb', hu, hu2, hu3⟩ := q1
  obtain ⟨hq2, hrw⟩ := mRq_ex h hE hq
  have hj2 := mJd_ex h hE (fun t ht => hq.2.2.1 t ht) hj
  have hbb := hE.2.1
  have hmk : mMk ρ l u ↔ trM σ (rwM σ l) (tin σ s t) := by
    have hF := mFr_ex hE h.2.1
    unfold mMk trM
    rw [hu2, ← rwM_I, hrw, mFr_A hF, hF.1 238 (by decide)]
    exact ⟨fun z => z.2, fun z => ⟨hu3, z⟩⟩
  refine kX_cal (mr_canMake L xs (d + 1) ρ n b' l u hE.1 hq2 hj2 hu) rfl (Or.inr rfl) rfl rfl rfl (fun r1 ρ2 q1 => ?_)
  obtain ⟨rfl, M, rfl, hj3⟩ := q1
  rw [isB_iff hmk]
  have hF := rwF_cmS (σ := ρ) (M := M) (x := nI b') (y := nI l.length)
  have hT3 := rwF_Tb hF hE.1
  have hq3 : mRq (cmS ρ M (upd (upd (ρ 232) 49 (nI b')) 50 (nI l.length))) (mvG (cmS ρ M (upd (upd (ρ 232) 49 (nI b')) 50 (nI l.length))) n b') l := hq2
  have hFr : mFr σ (cmS ρ M (upd (upd (ρ 232) 49 (nI b')) 50 (nI l.length))) n := mFr_trans (mFr_ex hE h.2.1) (mFr_rwF hF)
  have hrw3 : rwM (cmS ρ M (upd (upd (ρ 232) 49 (nI b')) 50 (nI l.length))) l = rwM σ l := hrw
  generalize cmS ρ M (upd (upd (ρ 232) 49 (nI b')) 50 (nI l.length)) = ρ3 at *
  iterate 3 (refine kX_one rfl ?_)
  refine kX_cal (mr_release L xs (d + 4) ρ3 n b' b hT3 hb2 hbb) rfl (Or.inr rfl) rfl rfl rfl (fun r1 ρ4 q1 => ?_)
  obtain ⟨rfl, hd, rfl, hT4⟩ := q1
  obtain ⟨hq4, hj4⟩ := rel_row (hd := hd) hq3 hj3 hb2 hbb (by omega) (fun t ht => (hq.2.2.1 t ht).1)
  exact kX_lv _ rfl rfl rfl (he _ (mFr_trans hFr (mFr_rel ρ3 n b hd)) hT4 hq4 hj4 hrw3)
/-- what may stand, one after another -/
theorem opL_pw (σ : kS) (so : Nat) : ∀ n, (opL σ so n).Pairwise (fun x y => x < y)
  | 0 => List.Pairwise.nil
  | n + 1 => by
    rw [opL_1]
    by_cases h : gS σ so n
    · rw [cit_T h, List.pairwise_append]
      refine ⟨opL_pw σ so n, List.pairwise_singleton _ _, fun a ha c hc => ?_⟩
      rw [List.mem_singleton] at hc
      rw [hc]
      exact ((opL_mem σ so n a).mp ha).1
    · rw [cit_F h]
      exact opL_pw σ so n
theorem nx_at {σ τ : kS} {n v so j t : Nat} {r : Option Value} (ho : ∀ z, z < n → (ofs τ v z ↔ gS σ so z)) (ht : (j = 0 ∧ t = 0) ∨ ∃ j0, ∃ (h0 : j0 < (opL σ so n).length), j = j0 + 1 ∧ t = (opL σ so n)[j0]'h0 + 1) (hn : nxo τ n v t r) : (∀ h : j < (opL σ so n).length, r = some (.int (nI ((opL σ so n)[j]'h)))) ∧ ((opL σ so n).length ≤ j → r = some (.int (-1))) := by
  have hp := List.pairwise_iff_getElem.mp (opL_pw σ so n)
  have hm := opL_mem σ so n
  have key : ∀ i (h : i < (opL σ so n).length), t ≤ (opL σ so n)[i]'h ↔ j ≤ i := fun i h => by
    rcases ht with ⟨q1, q2⟩ | ⟨j0, h0, q1, q2⟩
    · omega
    · rcases Nat.lt_trichotomy i j0 with z | z | z
      · have := hp i j0 h h0 z
        omega
      · subst z
        omega
      · have := hp j0 i h0 h z
        omega
  have hin : ∀ i (h : i < (opL σ so n).length), (opL σ so n)[i]'h < n ∧ ofs τ v ((opL σ so n)[i]'h) := fun i h => by
    obtain ⟨a1, a2⟩ := (hm _).mp (List.getElem_mem h)
    exact ⟨a1, (ho _ a1).mpr a2⟩
  rcases hn with ⟨rfl, hno⟩ | ⟨z, z1, z2, z3, z4, rfl⟩
  · refine ⟨fun h => absurd (hin j h).2 (hno _ ((key j h).mpr (Nat.le_refl _)) (hin j h).1), fun _ => rfl⟩
  · obtain ⟨i, hi, e⟩ := List.getElem_of_mem ((hm z).mpr ⟨z2, (ho z z2).mp z3⟩)
    have hji : j ≤ i := (key i hi).mp (by rw [e]; exact z1)
    refine ⟨fun h => ?_, fun h => absurd hji (by omega)⟩
    have : i = j := Classical.byContradiction (fun ne => by
      have hlt := hp j i h hi (by omega)
      rw [e] at hlt
      exact z4 _ ((key j h).mpr (Nat.le_refl _)) hlt (hin j h).2)
    subst this
    rw [e]
theorem cnt_opL {σ : kS} {so : Nat} {f : Nat → Prop} : ∀ n, (∀ z, z < n → (f z ↔ gS σ so z)) → cnt f n = (opL σ so n).length
  | 0, _ => rfl
  | n + 1, h => by
    rw [cnt, opL_1, cnt_opL n (fun z hz => h z (by omega))]
    by_cases q : gS σ so n
    · rw [cit_T q, if_pos ((h n (by omega)).mpr q), List.length_append]
      rfl
    · rw [cit_F q, if_neg (fun z => q ((h n (by omega)).mp z))]
      rfl
theorem ofs_gS {σ τ : kS} {n b u so : Nat} (h : mTb σ n b) (hF : mSf σ τ n) (hso : σ 240 u = nI so) (hs3 : so ≤ 3) : ∀ z, z < n → (ofs τ u z ↔ gS σ so z) := fun z hz => by
  rw [ofs_sf h hF hz]
  unfold ofs gS
  rw [hso]
  refine and_congr_right (fun _ => or_congr ⟨fun q => nI_inj q, fun q => by rw [q]⟩ Iff.rfl)
