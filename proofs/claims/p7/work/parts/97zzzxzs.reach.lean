/-! alike: reach -/
/-- the first that breaks: 1 + c, or 0 -/
noncomputable def fsB (P : Nat → Prop) : Nat → Nat → Int32
  | 0, _ => 0
  | m + 1, c => cit (P c) (nI (1 + c)) (fsB P m (c + 1))
theorem fsB_no {P : Nat → Prop} : ∀ m i, (∀ c, i ≤ c → c < i + m → ¬ P c) → fsB P m i = 0
  | 0, _, _ => rfl
  | m + 1, i, h => by
    have e : fsB P (m + 1) i = cit (P i) (nI (1 + i)) (fsB P m (i + 1)) := rfl
    rw [e, cit_F (h i (Nat.le_refl _) (by omega)), fsB_no m (i + 1) (fun c c1 c2 => h c (by omega) (by omega))]
theorem fsB_at {P : Nat → Prop} {j : Nat} (hj : P j) : ∀ m i, i ≤ j → j < i + m → (∀ c, i ≤ c → c < j → ¬ P c) → fsB P m i = nI (1 + j)
  | 0, i, h1, h2, _ => by omega
  | m + 1, i, h1, h2, h => by
    have e : fsB P (m + 1) i = cit (P i) (nI (1 + i)) (fsB P m (i + 1)) := rfl
    by_cases q : i = j
    · subst q
      rw [e, cit_T hj]
    · rw [e, cit_F (h i (Nat.le_refl _) (by omega)), fsB_at hj m (i + 1) (by omega) (by omega) (fun c c1 c2 => h c (by omega) c2)]
theorem fsB_congr {P Q : Nat → Prop} : ∀ m i, (∀ c, i ≤ c → c < i + m → (P c ↔ Q c)) → fsB P m i = fsB Q m i
  | 0, _, _ => rfl
  | m + 1, i, h => by
    unfold fsB
    rw [cit_iff (h i (Nat.le_refl _) (by omega)), fsB_congr m (i + 1) (fun c c1 c2 => h c (by omega) (by omega))]
/-- what reach leaves alone -/
def reF (τ ω : kS) (K : Nat) : Prop := ∀ c, c < 195 ∨ c = 202 ∨ 204 ≤ c → c ≠ K + 6 → ω c = τ c
theorem cBk_c {τ ω : kS} {n R S C K st c : Nat} {l : rwT} (hB : cB τ n R S C) (hK : isK K st) (h : reF τ ω K) (hc : c < C) : cBk ω 202 0 c n S l ↔ cBk τ 202 0 c n S l := by
  have hb := isK_b hK
  have hC6 := hB.2.2.1
  have hR4 := hB.1.1
  have e : ∀ c, c < 181 → ω c = τ c := fun c hc => h c (by omega) (by omega)
  have e2 : ω 202 = τ 202 := h 202 (by omega) (by rcases hK with z | z | z <;> omega)
  have e3 : ∀ c, 232 ≤ c → ω c = τ c := fun c hc => h c (by omega) (by omega)
  unfold cBk
  rw [e (163 + 3 * c) (by omega)]
  refine or_congr (and_congr_right (fun _ => exists_congr (fun s => and_congr_right (fun hs => ?_)))) (and_congr_right (fun _ => not_congr (cPn_congr (fun s hs => ?_) (fun s p hs hp _ => ?_))))
  · unfold cLs kMk kIn kTv mA
    rw [e (163 + 3 * c) (by omega), e 15 (by decide), e 16 (by decide), e2, e 2 (by decide), e 3 (by decide), e 4 (by decide), e3 233 (by decide), e3 238 (by decide)]
  · obtain ⟨r, r1, r2⟩ := hB.2.1.2.2 s hs
    unfold cWn cHd
    rw [e (163 + 3 * c) (by omega), e 15 (by decide), e 16 (by decide), e2, r2, fN_nI (by omega), e (23 + 35 * r) (by omega)]
  · unfold cFt
    rw [e (163 + 3 * c) (by omega), e (164 + 3 * c) (by omega), e (165 + 3 * c) (by omega), e 15 (by decide), e2]
theorem iE_far {σ τ : kS} {K st n u m : Nat} {l : rwT} (hK : 204 ≤ K) (hl : ∀ c, c < 195 ∨ 204 ≤ c → τ c = σ c) (h0 : iE σ K st n u m l) : iE τ K st n u m l := by
  unfold iE aT1 kTb kAG cpt kMs kRw kMk kIn kTv mA kDp kQf at h0 ⊢
  simp only [hl 1 (by omega), hl 2 (by decide), hl 3 (by decide), hl 4 (by decide), hl 5 (by decide), hl 8 (by decide), hl 9 (by decide), hl 10 (by decide), hl 11 (by decide), hl 12 (by decide), hl 6 (by decide), hl 233 (by decide), hl 234 (by decide), hl 235 (by decide), hl 236 (by decide), hl 237 (by decide), hl 238 (by decide), hl 239 (by decide), hl 240 (by decide), hl 241 (by decide), hl K (by omega), hl (K + 1) (by omega), hl (K + 2) (by omega), hl (K + 3) (by omega), hl (K + 4) (by omega), hl (K + 5) (by omega), hl (K + 6) (by omega), hl (K + 7) (by omega)]
  exact h0
/-- the draft is added -/
def reA (τ ω : kS) (wd N : Nat) (f s : Int32) : Prop := ω 197 = va_cpy (τ 202) (τ 197) 0 (28 * N) 28 ∧ ω 198 = upd (τ 198) N f ∧ ω 199 = upd (τ 199) N s ∧ sWi ω wd (N + 1)
set_option maxRecDepth 100000 in
set_option maxHeartbeats 4000000 in
theorem mf_reach (L : Nat) (xs : Nat → Int32) (d : Nat) (τ : kS) (n R S C N K st u m D fin : Nat) (l : rwT) (f s : Int32) (hB : cB τ n R S C) (hK : (K = 204 ∧ st = 776) ∨ (K = 213 ∧ st = 1352)) (hE : iE τ K st n u m l) (hwd : τ 195 6 = nI (7 * S)) (hW : sWi τ (7 * S) N) (han : τ 195 12 = 0) (hfi : τ 195 11 = nI fin) (hV : ∀ s k, s < S → k < 6 → τ 202 (0 + 7 * s + 1 + k) = -1 ∨ ∃ z, z < n ∧ τ 202 (0 + 7 * s + 1 + k) = nI z ∧ kGd τ z)
    (hp : ∀ i, 0 < i → i < N + 1 → ∃ j, j < i ∧ upd (τ 198) N f i = nI j) (hD : D ≤ 24) (hD1 : ∀ j, j < D → 0 < tpI (upd (τ 198) N f) N j) (hD2 : tpI (upd (τ 198) N f) N D = 0) : kXM kT L xs (d + 55) 84 [.ref 195, .int f, .int s, .ref K] τ (fun r ω => r = none ∧ ((N = 600 ∧ ω = va_up τ 195 (upd (τ 195) 12 (-7))) ∨ (N < 600 ∧ reF τ ω K ∧ iE ω K st n u m l ∧ reA τ ω (7 * S) N f s ∧ (∀ j, j ≠ 12 → j ≠ 11 → j ≠ 9 → ω 195 j = τ 195 j) ∧ ω 195 11 = nI (fin + cit (∀ s, s < S → cHd τ 202 0 s) 1 0) ∧ ω 195 12 = fsB (fun c => cBk τ 202 0 c n S l) C 0 ∧ (ω 195 12 = 0 → ω 195 9 = τ 195 9) ∧ (ω 195 12 ≠ 0 → ω 195 9 = nI D ∧ ∀ k, k < D → ω 203 k = upd (τ 199) N s (tpI (upd (τ 198) N f) N (D - 1 - k)))))) := by
  have hK' : isK K st := Or.inr hK
  have hKb := isK_b hK'
  have hK6 : K + 6 = 210 ∨ K + 6 = 219 := by rcases hK with z | z <;> omega
  have hC6 := hB.2.2.1
  have hS4 := hB.2.1.1
  have hN6 := hW.1
  unfold kXM
  iterate 3 (refine kX_one rfl ?_)
  refine kX_top (hW.2.1) ?_
  repeat refine kX_one rfl ?_
  refine kX_if (fun q => ?_) (fun q => ?_)
  · have q := qlt q N 600
    iterate 6 (refine kX_one rfl ?_)
    refine kX_top (hwd) ?_
    iterate 2 (refine kX_one rfl ?_)
    refine kX_cal (mf_stAdd L xs (d + 52) τ f s (7 * S) N (by omega) q hW) rfl (Or.inr rfl) rfl rfl rfl (fun r1 τ1 q1 => ?_)
    obtain ⟨rfl, hA, hW1⟩ := q1
    have e1 : ∀ c, c < 196 ∨ 202 ≤ c → τ1 c = τ c := hA.1
    have hB1 : cB τ1 n R S C := cB_eq (fun c c1 c2 => e1 c (by omega)) hB
    have hcd : ∀ s, s < S → (cHd τ1 202 0 s ↔ cHd τ 202 0 s) := fun s hs => by
      obtain ⟨r, r1, r2⟩ := hB.2.1.2.2 s hs
      have := hB.1.1
      unfold cHd
      rw [e1 15 (by decide), e1 202 (by decide), r2, fN_nI (by omega), e1 (23 + 35 * r) (by omega)]
    have hall : (∀ s, s < S → cHd τ1 202 0 s) ↔ (∀ s, s < S → cHd τ 202 0 s) := ⟨fun z s hs => (hcd s hs).mp (z s hs), fun z s hs => (hcd s hs).mpr (z s hs)⟩
    have go : ∀ π0 : kS, (∀ c, c ≠ 195 → π0 c = τ1 c) → (∀ j, j ≠ 11 → π0 195 j = τ 195 j) → π0 195 11 = nI (fin + cit (∀ s, s < S → cHd τ 202 0 s) 1 0) → ∀ lv, nk lv = true → ([(0, .ref 195), (3, .ref K)] : jL).map (fun q => jl lv q.1) = ([(0, Value.ref 195), (3, .ref K)] : jL).map (fun q => some q.2) → kX kT L xs (d + 55) 84 62 lv [] π0 (fun r ω => r = none ∧ ((N = 600 ∧ ω = va_up τ 195 (upd (τ 195) 12 (-7))) ∨ (N < 600 ∧ reF τ ω K ∧ iE ω K st n u m l ∧ reA τ ω (7 * S) N f s ∧ (∀ j, j ≠ 12 → j ≠ 11 → j ≠ 9 → ω 195 j = τ 195 j) ∧ ω 195 11 = nI (fin + cit (∀ s, s < S → cHd τ 202 0 s) 1 0) ∧ ω 195 12 = fsB (fun c => cBk τ 202 0 c n S l) C 0 ∧ (ω 195 12 = 0 → ω 195 9 = τ 195 9) ∧ (ω 195 12 ≠ 0 → ω 195 9 = nI D ∧ ∀ k, k < D → ω 203 k = upd (τ 199) N s (tpI (upd (τ 198) N f) N (D - 1 - k)))))) := by
      intro π0 g1 g2 g3 lv hk hlv
      refine kX_lv _ hk rfl hlv ?_
      have eπ : ∀ c, c < 195 ∨ 202 ≤ c → π0 c = τ c := fun c hc => (g1 c (by omega)).trans (e1 c (by omega))
      have hE0 : iE π0 K st n u m l := iE_far (by omega) (fun c hc => eπ c (by omega)) hE
      have hWc : ∀ c, 196 ≤ c → c < 202 → π0 c = τ1 c := fun c c1 c2 => g1 c (by omega)
      have hre : ∀ ω : kS, (∀ c, c ≠ 195 → c ≠ 203 → c ≠ K + 6 → ω c = π0 c) → reF τ ω K ∧ reA τ ω (7 * S) N f s := fun ω ho => by
        refine ⟨fun c c1 c2 => (ho c (by omega) (by omega) c2).trans (eπ c (by omega)), ?_, ?_, ?_, ?_⟩
        · rw [ho _ (by decide) (by decide) (by omega), hWc _ (by decide) (by decide)]
          exact hA.2.1
        · rw [ho _ (by decide) (by decide) (by omega), hWc _ (by decide) (by decide)]
          exact hA.2.2.1
        · rw [ho _ (by decide) (by decide) (by omega), hWc _ (by decide) (by decide)]
          exact hA.2.2.2.1
        · unfold sWi at hW1 ⊢
          rw [ho 196 (by decide) (by decide) (by omega), ho 197 (by decide) (by decide) (by omega), ho 201 (by decide) (by decide) (by omega), ho 200 (by decide) (by decide) (by omega), hWc 196 (by decide) (by decide), hWc 197 (by decide) (by decide), hWc 201 (by decide) (by decide), hWc 200 (by decide) (by decide)]
          exact hW1
      have loop : ∀ q : Nat × (Nat → Int32), (q.1 ≤ C ∧ iE (va_up π0 (K + 6) q.2) K st n u m l ∧ ∀ c, c < q.1 → ¬ cBk τ 202 0 c n S l) → kX kT L xs (d + 55) 84 65 [(4, .int (nI q.1)), (0, .ref 195), (3, .ref K)] [] (va_up π0 (K + 6) q.2) (fun r ω => r = none ∧ ((N = 600 ∧ ω = va_up τ 195 (upd (τ 195) 12 (-7))) ∨ (N < 600 ∧ reF τ ω K ∧ iE ω K st n u m l ∧ reA τ ω (7 * S) N f s ∧ (∀ j, j ≠ 12 → j ≠ 11 → j ≠ 9 → ω 195 j = τ 195 j) ∧ ω 195 11 = nI (fin + cit (∀ s, s < S → cHd τ 202 0 s) 1 0) ∧ ω 195 12 = fsB (fun c => cBk τ 202 0 c n S l) C 0 ∧ (ω 195 12 = 0 → ω 195 9 = τ 195 9) ∧ (ω 195 12 ≠ 0 → ω 195 9 = nI D ∧ ∀ k, k < D → ω 203 k = upd (τ 199) N s (tpI (upd (τ 198) N f) N (D - 1 - k)))))) := by
        refine kX_while (fun q : Nat × (Nat → Int32) => [(4, .int (nI q.1)), (0, .ref 195), (3, .ref K)]) (fun q => va_up π0 (K + 6) q.2) _ (fun q => C - q.1) ?_
        rintro ⟨i, M⟩ ⟨i1, i2, i3⟩ ih
        dsimp only at i1 i2 i3 ih ⊢
        have hM195 : va_up π0 (K + 6) M 195 = π0 195 := up_ne (by omega)
        obtain ⟨hreF, hreA⟩ := hre (va_up π0 (K + 6) M) (fun c _ _ c3 => up_ne c3)
        have hBω : cB (va_up π0 (K + 6) M) n R S C := cB_eq (fun c c1 c2 => hreF c (by omega) (by omega)) hB
        have han0 : va_up π0 (K + 6) M 195 12 = 0 := by rw [hM195, g2 _ (by decide)]; exact han
        iterate 4 (refine kX_one rfl ?_)
        refine kX_top (y := nI C) hBω.2.2.2.1 ?_
        repeat refine kX_one rfl ?_
        refine kX_if (fun q => ?_) (fun q => ?_)
        · have q := qge q i C
          have hfs : fsB (fun c => cBk τ 202 0 c n S l) C 0 = 0 := fsB_no C 0 (fun c _ c2 => i3 c (by omega))
          refine kX_ret (i := .return_) (len := 1) rfl (Or.inr rfl) rfl ⟨rfl, Or.inr ⟨by assumption, hreF, i2, hreA, fun j j1 j2 _ => by rw [hM195]; exact g2 j j2, by rw [hM195]; exact g3, by rw [han0, hfs], fun _ => by rw [hM195]; exact g2 _ (by decide), fun z => absurd han0 z⟩⟩
        · have q := qgeF q i C
          iterate 2 (refine kX_one rfl ?_)
          refine kX_top (y := 0) han0 ?_
          iterate 1 (refine kX_one rfl ?_)
          have hV1 : ∀ s k, s < S → k < 6 → va_up π0 (K + 6) M 202 (0 + 7 * s + 1 + k) = -1 ∨ ∃ z, z < n ∧ va_up π0 (K + 6) M 202 (0 + 7 * s + 1 + k) = nI z ∧ kGd (va_up π0 (K + 6) M) z := by
            unfold kGd
            rw [hreF 202 (by omega) (by omega), hreF 2 (by decide) (by omega), hreF 3 (by decide) (by omega), hreF 4 (by decide) (by omega)]
            exact hV
          iterate 7 (refine kX_one rfl ?_)
          refine kX_cal (mf_breaks L xs d (va_up π0 (K + 6) M) n R S C 202 28 0 i K st u m l (fun _ => 0) hBω q rfl (by decide) (by decide) (by omega) i2 hV1) rfl (Or.inr rfl) rfl rfl rfl (fun r1 ρ q1 => ?_)
          obtain ⟨rfl, M', rfl, hE3⟩ := q1
          rw [kup_up] at hE3 ⊢
          rw [isB_iff (cBk_c hB hK' hreF q)]
          by_cases hbk : cBk τ 202 0 i n S l
          · rw [isB_T hbk]
            have hfs : fsB (fun c => cBk τ 202 0 c n S l) C 0 = nI (1 + i) := fsB_at hbk C 0 (Nat.zero_le _) (by omega) (fun c _ c2 => i3 c c2)
            have hρ195 : va_up π0 (K + 6) M' 195 = π0 195 := up_ne (by omega)
            have hρo : ∀ c, c ≠ K + 6 → va_up π0 (K + 6) M' c = π0 c := fun c hc => up_ne hc
            generalize va_up π0 (K + 6) M' = ρ at hE3 hρ195 hρo ⊢
            iterate 6 (refine kX_one rfl ?_)
            refine kX_st (va_up ρ 195 (upd (ρ 195) 12 (nI (1 + i)))) (by rw [← nI_add]; rfl) ?_
            have x195 : va_up ρ 195 (upd (ρ 195) 12 (nI (1 + i))) 195 = upd (π0 195) 12 (nI (1 + i)) := by rw [up_eq, hρ195]
            have xo : ∀ c, c ≠ 195 → c ≠ K + 6 → va_up ρ 195 (upd (ρ 195) 12 (nI (1 + i))) c = π0 c := fun c c1 c2 => (up_ne c1).trans (hρo c c2)
            have xE : iE (va_up ρ 195 (upd (ρ 195) 12 (nI (1 + i)))) K st n u m l := iE_far (by omega) (fun c hc => up_ne (by omega)) hE3
            generalize va_up ρ 195 (upd (ρ 195) 12 (nI (1 + i))) = κ at x195 xo xE ⊢
            have ePar : κ 198 = upd (τ 198) N f := by
              rw [xo _ (by decide) (by omega), hWc _ (by decide) (by decide)]
              exact hA.2.2.1
            have eMov : κ 199 = upd (τ 199) N s := by
              rw [xo _ (by decide) (by omega), hWc _ (by decide) (by decide)]
              exact hA.2.2.2.1
            have eCnt : κ 196 5 = nI (N + 1) := by
              rw [xo 196 (by decide) (by omega), hWc 196 (by decide) (by decide)]
              exact hW1.2.1
            iterate 4 (refine kX_one rfl ?_)
            refine kX_top (eCnt) ?_
            iterate 2 (refine kX_one rfl ?_)
            refine kX_top (y := nI N) (nI_pred N) ?_
            refine kX_cal (mf_tracePath L xs (d + 53) κ (N + 1) N D (by omega) (by omega) (by rw [ePar]; exact hp) hD (by rw [ePar]; exact hD1) (by rw [ePar]; exact hD2)) rfl (Or.inr rfl) rfl rfl rfl (fun r1 ω q1 => ?_)
            obtain ⟨rfl, t1, t2, t3, t4⟩ := q1
            rw [ePar, eMov] at t4
            obtain ⟨yF, yA⟩ := hre ω (fun c c1 c2 c3 => (t1 c c1 c2).trans (xo c c1 c3))
            have yE : iE ω K st n u m l := iE_far (by omega) (fun c hc => t1 c (by omega) (by omega)) xE
            have yan : ω 195 12 = nI (1 + i) := by rw [t2 _ (by decide), x195, pk_us]
            have yne : ω 195 12 ≠ 0 := by
              rw [yan]
              exact nI_ne0 (by omega) (by omega)
            have yfi : ω 195 11 = nI (fin + cit (∀ s, s < S → cHd τ 202 0 s) 1 0) := by
              rw [t2 _ (by decide), x195, pk_un (by decide)]
              exact g3
            have yo : ∀ j, j ≠ 12 → j ≠ 11 → j ≠ 9 → ω 195 j = τ 195 j := fun j j1 j2 j3 => by
              rw [t2 j j3, x195, pk_un j1]
              exact g2 j j2
            have yC : ω 13 8 = nI C := by
              rw [yF 13 (by decide) (by omega)]
              exact hB.2.2.2.1
            iterate 6 (refine kX_one rfl ?_)
            refine kX_top (y := nI C) yC ?_
            repeat refine kX_one rfl ?_
            refine kX_if (fun q6 => ?_) (fun q6 => ?_)
            · refine kX_ret (i := .return_) (len := 1) rfl (Or.inr rfl) rfl ⟨rfl, Or.inr ⟨by assumption, yF, yE, yA, yo, yfi, by rw [yan, hfs], fun z => absurd z yne, fun _ => ⟨t3, t4⟩⟩⟩
            · repeat refine kX_one rfl ?_
              refine kX_ifT (decide_eq_true yne) ?_
              refine kX_ret (i := .return_) (len := 1) rfl (Or.inr rfl) rfl ⟨rfl, Or.inr ⟨by assumption, yF, yE, yA, yo, yfi, by rw [yan, hfs], fun z => absurd z yne, fun _ => ⟨t3, t4⟩⟩⟩
          · rw [isB_F hbk]
            iterate 3 (refine kX_one rfl ?_)
            have := ih (i + 1, M') ⟨q, hE3, fun c hc => by
              by_cases e : c = i
              · subst e
                exact hbk
              · exact i3 c (by simp only at hc; omega)⟩ (by simp only; omega)
            dsimp only at this
            rw [← nI_1] at this
            exact kX_lv _ rfl rfl rfl this
      iterate 2 (refine kX_one rfl ?_)
      have := loop (0, π0 (K + 6)) ⟨Nat.zero_le _, by simp only; rw [kup_self]; exact hE0, fun c hc => absurd hc (Nat.not_lt_zero c)⟩
      dsimp only at this
      rw [kup_self] at this
      exact kX_lv _ rfl rfl rfl this
    iterate 5 (refine kX_one rfl ?_)
    refine kX_cal (mf_allDone L xs (d + 51) τ1 n R S C 202 28 0 (fun _ => 0) hB1 rfl (by decide) (by decide)) rfl (Or.inr rfl) rfl rfl rfl (fun r1 σ1 q1 => ?_)
    obtain ⟨rfl, rfl⟩ := q1
    rw [isB_iff hall]
    by_cases hd : ∀ s, s < S → cHd τ 202 0 s
    · rw [isB_T hd]
      iterate 7 (refine kX_one rfl ?_)
      refine go _ (fun c hc => up_ne hc) (fun j hj => ?_) ?_ _ rfl rfl
      · rw [up_eq, pk_un hj, e1 195 (by decide)]
      · rw [up_eq, pk_us, e1 195 (by decide), hfi, cit_T hd]
        exact nI_1 fin
    · rw [isB_F hd]
      iterate 1 (refine kX_one rfl ?_)
      refine go _ (fun c _ => rfl) (fun j _ => by rw [e1 195 (by decide)]) ?_ _ rfl rfl
      rw [e1 195 (by decide), hfi, cit_F hd, Nat.add_zero]
  · have q := qltF q N 600
    have hN : N = 600 := by omega
    iterate 3 (refine kX_one rfl ?_)
    refine kX_ret (i := .return_) (len := 1) rfl (Or.inr rfl) rfl ⟨rfl, Or.inl ⟨hN, rfl⟩⟩
