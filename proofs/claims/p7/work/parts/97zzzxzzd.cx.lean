/-! alike: the class in THE SEARCH -/
/-- the way to the attack, as the class has it -/
def cAy (τ : kS) (x : sX) : Prop := (x.2.2.2 = 0 ∨ x.2.2.2 = -7 → τ 195 9 = -1) ∧ (x.2.2.2 ≠ 0 → x.2.2.2 ≠ -7 → 0 < x.1.length ∧ ∃ D, D ≤ 24 ∧ (∀ j, j < D → 0 < tpI (τ 198) (x.1.length - 1) j) ∧ tpI (τ 198) (x.1.length - 1) D = 0 ∧ τ 195 9 = nI D ∧ ∀ k, k < D → τ 203 k = τ 199 (tpI (τ 198) (x.1.length - 1) (D - 1 - k)))
/-- the STATES, as the class has them -/
def cSx (τ : kS) (S : Nat) (l : xT) : Prop := ∀ i, i < l.length → stF τ 197 (28 * i) S = (xq l i).1 ∧ τ 198 i = (xq l i).2.1 ∧ τ 199 i = (xq l i).2.2
def cFx (σ τ : kS) (S C : Nat) (x : sX) : Prop := τ 195 6 = nI (7 * S) ∧ τ 195 7 = isB (∃ c, c < C ∧ σ (163 + 3 * c) 0 ≠ 0) ∧ τ 195 10 = nI x.2.1 ∧ x.2.1 ≤ 20001 ∧ τ 195 11 = nI x.2.2.1 ∧ τ 195 12 = x.2.2.2
/-- what the search leaves of the class's other cells -/
def cGx (σ τ : kS) : Prop := sF σ τ ∧ (∀ j, j < 776 → τ 5 j = σ 5 j) ∧ cKw τ 204 776 ∧ cKw τ 213 1352 ∧ cQ τ
def cX (σ τ : kS) (n R S C : Nat) (x : sX) (mm : Nat) : Prop := cGx σ τ ∧ sWi τ (7 * S) x.1.length ∧ cSx τ S x.1 ∧ cFx σ τ S C x ∧ cOL τ (fun so => opL σ so n) ∧ (∃ m2, m2 ≤ mm ∧ kMs τ 204 m2) ∧ (∃ u m3 l, m3 ≤ mm ∧ iE τ 213 1352 n u m3 l) ∧ xOk σ n R S x.1 ∧ cAy τ x
theorem sF_hi {σ τ : kS} (h : sF σ τ) : ∀ c, 232 ≤ c → τ c = σ c := fun c hc => h.1 c (Or.inr hc) (by omega) (by omega) (by omega) (by omega) (by omega)
theorem sF_lo {σ τ : kS} (h : sF σ τ) : ∀ c, 7 ≤ c → c < 195 → τ c = σ c := fun c c1 c2 => h.1 c (Or.inl c2) (by omega) (by omega) (by omega) (by omega) (by omega)
theorem sF_1 {σ τ : kS} (h : sF σ τ) : τ 1 = σ 1 := h.1 1 (by decide) (by decide) (by decide) (by decide) (by decide) (by decide)
theorem hiS_of {σ τ : kS} (e : ∀ c, 232 ≤ c → τ c = σ c) : τ = hiS σ τ := funext fun c => by
  unfold hiS
  by_cases hc : 232 ≤ c
  · rw [if_pos hc]
    exact e c hc
  · rw [if_neg hc]
theorem aOk_hi {σ τ : kS} {n R S : Nat} {a : Nat → Int32} (e : ∀ c, 232 ≤ c → τ c = σ c) (h : aOk σ n R S a) : aOk τ n R S a := by
  rw [hiS_of e]
  exact h
theorem stI_hi {σ τ : kS} (e : ∀ c, 232 ≤ c → τ c = σ c) (a : Nat → Int32) : ∀ c, 232 ≤ c → stI τ a c = stI σ a c := fun c hc => by
  by_cases e1 : c = 265
  · subst e1
    rfl
  · by_cases e2 : c = 264
    · subst e2
      rfl
    · unfold stI
      rw [up_ne e1, up_ne e2, up_ne e1, up_ne e2]
      exact e c hc
theorem stI_lo (σ : kS) (a : Nat → Int32) {c : Nat} (h1 : c ≠ 264) (h2 : c ≠ 265) : stI σ a c = σ c := by
  unfold stI
  rw [up_ne h2, up_ne h1]
theorem trSt_hi {σ τ : kS} (e : ∀ c, 232 ≤ c → τ c = σ c) (kl : List Nat) (S : Nat) : trSt τ kl S = trSt σ kl S := trSt_eq (e _ (by decide)) (e _ (by decide)) (e _ (by decide)) (e _ (by decide)) (e _ (by decide)) (e _ (by decide)) (e _ (by decide)) (e _ (by decide)) (e _ (by decide)) (e _ (by decide))
theorem cCn_sF {σ τ : kS} {n : Nat} (hn : n ≤ 200) (h : sF σ τ) (hC : cCn σ n) : cCn τ n := by
  have ek : ∀ t, t < n → τ 2 t = σ 2 t ∧ τ 3 t = σ 3 t ∧ τ 4 t = σ 4 t ∧ τ 6 t = σ 6 t := fun t ht => h.2 t (by omega)
  unfold cCn at hC ⊢
  have g := hcP_congr (V' := fun t => t < n ∧ 3 < fN (τ 2 t)) (pl' := cpt τ) (fun t => and_congr_right (fun ht => by rw [(ek t ht).1])) (fun t ht => by
    unfold cpt
    rw [(ek t ht.1).1, (ek t ht.1).2.1, (ek t ht.1).2.2.1]) hC
  refine ⟨fun s hs => ?_, fun t ht => ?_⟩
  · rw [sF_lo h 7 (by decide) (by decide)]
    exact g.1 s hs
  · rw [(ek t ht.1).2.2.2]
    exact g.2 t ht
theorem aT1_sF {σ τ : kS} {n : Nat} (hn : n ≤ 200) (h : sF σ τ) (hz : ∀ j, j < 776 → τ 5 j = σ 5 j) (hA : ∀ t, t < n → aT1 σ t) : ∀ t, t < n → aT1 τ t := fun t ht => by
  obtain ⟨a1, a2, a3, -⟩ := h.2 t (by omega)
  have := hA t ht
  have hi := sF_hi h
  have lo := sF_lo h
  unfold aT1 at this ⊢
  rw [a1, a2, a3, hz t (by omega), lo 8 (by decide) (by decide), lo 9 (by decide) (by decide), lo 10 (by decide) (by decide), lo 11 (by decide) (by decide), lo 12 (by decide) (by decide), hi 233 (by decide), hi 234 (by decide), hi 235 (by decide), hi 236 (by decide), hi 237 (by decide), hi 238 (by decide), hi 239 (by decide), hi 240 (by decide), hi 241 (by decide)]
  exact this
/-- all that a STATE of the search needs to be looked at -/
def vB (υ : kS) (n b R S C : Nat) (kl : List Nat) : Prop := (mTb υ n b ∧ mRo υ n R ∧ mSe υ n R S ∧ mKn υ n kl ∧ mCl υ R C ∧ mSv υ n R S) ∧ (aT υ n ∧ aR υ R ∧ aS υ S ∧ aC υ C ∧ aK υ kl) ∧ ∀ s, s < S → (mHo υ s ↔ hoF υ s)
theorem vB_of {σ τ : kS} {n b R S C m : Nat} {kl : List Nat} {a : Nat → Int32} (h : aJ σ n b R S C kl m) (hG : cGx σ τ) (ha : aOk σ n R S a) : vB (stI τ a) n b R S C kl := by
  obtain ⟨hF, hz, -⟩ := hG
  have hi := sF_hi hF
  have lo := sF_lo hF
  obtain ⟨t1, t2, t3, t4, t5, -⟩ := mI_hi hi h.1
  obtain ⟨i1, i2, i3, -, i5, -⟩ := h.1
  obtain ⟨-, -, aT', aR', aS', aC', aK', -⟩ := h
  have ha2 := aOk_hi hi ha
  have hn := t1.1
  have hh : ∀ l : List Nat, l.all (fun c => decide (232 < c ∧ c ≠ 264 ∧ c ≠ 265)) = true → eqC σ (stI τ a) l := eqC_of (fun c q => (stI_lo τ a q.2.1 q.2.2).trans (hi c (by omega)))
  have hl : ∀ c, 7 ≤ c → c < 195 → stI τ a c = σ c := fun c c1 c2 => (stI_lo τ a (by omega) (by omega)).trans (lo c c1 c2)
  refine ⟨⟨t1, t2, t3, t4, t5, aOk_Sv t1 t2 t3 ha2⟩, ⟨⟨?_, ?_⟩, ?_, ?_, ?_, ?_⟩, aOk_ho t1 t2 ha2⟩
  · intro t ht
    have := aT1_sF hn hF hz aT'.1 t ht
    exact this
  · have := cCn_sF hn hF aT'.2
    exact this
  · exact aR_c i1 i2 (fun c c1 c2 => hl c (by omega) (by omega)) (hh _ (by decide)) aR'
  · exact aS_c i1.1 i2 i3 (hl _ (by decide) (by decide)) (hl _ (by decide) (by decide)) (hl _ (by decide) (by decide)) (hh _ (by decide)) aS'
  · exact aC_c i5 (fun c c1 c2 => hl c (by omega) (by omega)) (hh _ (by decide)) aC'
  · exact aK_eq (by rw [hl 13 (by decide) (by decide)]) (hl _ (by decide) (by decide)) aK'
theorem gR_sF {σ τ : kS} {n b : Nat} (hM : mTb σ n b) (hA : ∀ t, t < n → aT1 σ t) (h : sF σ τ) (hz : ∀ j, j < 776 → τ 5 j = σ 5 j) : gR τ n := aT_gR (b := b) (σ := τ) (by
  rw [hiS_of (sF_hi h)]
  exact hM) (aT1_sF hM.1 h hz hA)
/-- only the draft and the ways have changed -/
theorem cX_q {σ τ ω : kS} {n R S C mm : Nat} {x : sX} (h : cX σ τ n R S C x mm) (e : ∀ c, c ≠ 202 → c ≠ 222 → c ≠ 229 → c ≠ 230 → c ≠ 231 → ω c = τ c) (hq : cQ ω) : cX σ ω n R S C x mm := by
  obtain ⟨⟨h1, h2, h3, h4, h5⟩, g2, g3, g4, g5, ⟨m2, g6, g6'⟩, ⟨u, m3, l, g7, g8⟩, g9, g10⟩ := h
  have e' : ∀ c, c < 202 ∨ (202 < c ∧ c < 222) ∨ (222 < c ∧ c < 229) ∨ 231 < c → ω c = τ c := fun c hc => e c (by omega) (by omega) (by omega) (by omega) (by omega)
  have hgt : ∀ g, 200 ≤ g → ω 2 g = τ 2 g ∧ ω 3 g = τ 3 g ∧ ω 4 g = τ 4 g ∧ ω 6 g = τ 6 g := fun g _ => by
    rw [e' 2 (by decide), e' 3 (by decide), e' 4 (by decide), e' 6 (by decide)]
    exact ⟨rfl, rfl, rfl, rfl⟩
  refine ⟨⟨sF_trans h1 (sF_of (fun c hc => e' c (by omega))), fun j hj => by rw [e' 5 (by decide)]; exact h2 j hj, cKw_eq (by decide) (e' _ (by decide)) (e' _ (by decide)) (e' _ (by decide)) hgt h3, cKw_eq (by decide) (e' _ (by decide)) (e' _ (by decide)) (e' _ (by decide)) hgt h4, hq⟩, ?_, ?_, ?_, fun so hso => ?_, ⟨m2, g6, kMs_eq (fun c c1 c2 => e' c (by omega)) g6'⟩, ⟨u, m3, l, g7, ?_⟩, g9, ?_⟩
  · unfold sWi at g2 ⊢
    rw [e' 196 (by decide), e' 197 (by decide), e' 201 (by decide), e' 200 (by decide)]
    exact g2
  · unfold cSx stF at g3 ⊢
    rw [e' 197 (by decide), e' 198 (by decide), e' 199 (by decide)]
    exact g3
  · unfold cFx at g4 ⊢
    rw [e' 195 (by decide)]
    exact g4
  · rw [e' 228 (by decide), e' (224 + so) (by omega)]
    exact g5 so hso
  · refine (iE_ot g8 ⟨fun z _ => ?_, e' _ (by decide), fun c c1 c2 => e' c (by omega), ?_, e' _ (by decide)⟩ (e' _ (by decide)) (fun t ht => ?_)).1
    · rw [e' 2 (by decide), e' 3 (by decide), e' 4 (by decide), e' 5 (by decide), e' 6 (by decide)]
      exact ⟨rfl, rfl, rfl, rfl, rfl⟩
    · unfold mA
      rw [e' 233 (by decide)]
    · have := g8.2.2.2.1 t ht
      unfold aT1 at this ⊢
      rw [e' 2 (by decide), e' 3 (by decide), e' 4 (by decide), e' 5 (by decide), e' 8 (by decide), e' 9 (by decide), e' 10 (by decide), e' 11 (by decide), e' 12 (by decide), e' 233 (by decide), e' 234 (by decide), e' 235 (by decide), e' 236 (by decide), e' 237 (by decide), e' 238 (by decide), e' 239 (by decide), e' 240 (by decide), e' 241 (by decide)]
      exact this
  · unfold cAy at g10 ⊢
    rw [e' 195 (by decide), e' 198 (by decide), e' 199 (by decide), e' 203 (by decide)]
    exact g10
theorem cX_up {σ τ : kS} {n R S C mm mm' : Nat} {x : sX} (h : cX σ τ n R S C x mm) (hm : mm ≤ mm') : cX σ τ n R S C x mm' := by
  obtain ⟨g1, g2, g3, g4, g5, ⟨m2, g6, g6'⟩, ⟨u, m3, l, g7, g8⟩, g9, g10⟩ := h
  exact ⟨g1, g2, g3, g4, g5, ⟨m2, by omega, g6'⟩, ⟨u, m3, l, by omega, g8⟩, g9, g10⟩
/-- an intruder was filled -/
theorem cX_K {σ τ ω : kS} {n R S C mm K st u m : Nat} {x : sX} {l : rwT} (h : cX σ τ n R S C x mm) (hT : cT σ n) (hK : (K = 204 ∧ st = 776) ∨ (K = 213 ∧ st = 1352)) (hm : m ≤ mm + 1) (hg : gK τ ω K st n u m l) : cX σ ω n R S C x (mm + 1) := by
  have hK' : isK K st := Or.inr hK
  obtain ⟨⟨h1, h2, h3, h4, h5⟩, g2, g3, g4, g5, ⟨m2, g6, g6'⟩, ⟨u3, m3, l3, g7, g8⟩, g9, g10⟩ := h
  obtain ⟨hF, hE, hC, hG⟩ := hg
  have hn := hE.2.1
  have hTo : cT ω n := cT_nF hK' hF.1 (cT_sF h1 hT)
  have hw := nW_w (iE_nW hE hTo hG)
  have hc : ∀ c, 7 ≤ c → c < 204 ∨ 222 ≤ c → ω c = τ c := fun c a b => hF.1.1 c (by omega) (by omega) (by omega) (by omega) (by omega) (by omega)
  have hs : sF τ ω := ⟨fun c a1 a2 a3 a4 a5 a6 => hF.1.1 c (by omega) a2 a3 a4 a5 a6, fun j hj => hF.1.2 j (by omega)⟩
  refine ⟨⟨sF_trans h1 hs, fun j hj => (hF.2 j (by omega)).trans (h2 j hj), ?_, ?_, cQ_eq (hc _ (by decide) (by decide)) (hc _ (by decide) (by decide)) h5⟩, ?_, ?_, ?_, fun so hso => ?_, ?_, ?_, g9, ?_⟩
  · rcases hK with ⟨rfl, rfl⟩ | ⟨rfl, rfl⟩
    · exact hw
    · exact cKw_eq2 (hF.1.1 _ (by decide) (by decide) (by decide) (by decide) (by decide) (by decide)) (hF.1.1 _ (by decide) (by decide) (by decide) (by decide) (by decide) (by decide)) (hF.1.1 _ (by decide) (by decide) (by decide) (by decide) (by decide) (by decide)) (fun g g1 g2 => hF.1.2 g (by omega)) h3
  · rcases hK with ⟨rfl, rfl⟩ | ⟨rfl, rfl⟩
    · exact cKw_eq2 (hF.1.1 _ (by decide) (by decide) (by decide) (by decide) (by decide) (by decide)) (hF.1.1 _ (by decide) (by decide) (by decide) (by decide) (by decide) (by decide)) (hF.1.1 _ (by decide) (by decide) (by decide) (by decide) (by decide) (by decide)) (fun g g1 g2 => hF.1.2 g (by omega)) h4
    · exact hw
  · unfold sWi at g2 ⊢
    rw [hc 196 (by decide) (by decide), hc 197 (by decide) (by decide), hc 201 (by decide) (by decide), hc 200 (by decide) (by decide)]
    exact g2
  · unfold cSx stF at g3 ⊢
    rw [hc 197 (by decide) (by decide), hc 198 (by decide) (by decide), hc 199 (by decide) (by decide)]
    exact g3
  · unfold cFx at g4 ⊢
    rw [hc 195 (by decide) (by decide)]
    exact g4
  · rw [hc 228 (by decide) (by decide), hc (224 + so) (by omega) (by omega)]
    exact g5 so hso
  · rcases hK with ⟨rfl, rfl⟩ | ⟨rfl, rfl⟩
    · exact ⟨m, hm, hE.2.2.2.2.2.1⟩
    · exact ⟨m2, by omega, kMs_eq (fun c c1 c2 => hF.1.1 c (by omega) (by omega) (by omega) (by omega) (by omega) (by omega)) g6'⟩
  · rcases hK with ⟨rfl, rfl⟩ | ⟨rfl, rfl⟩
    · exact ⟨u3, m3, l3, by omega, (iE_ot g8 (nF2_ot (Or.inr (Or.inr ⟨rfl, rfl⟩)) hK' (by decide) hF hn g8.2.2.2.2.1.1) (hF.1.1 1 (by decide) (by decide) (by decide) (by decide) (by decide) (by decide)) hE.2.2.2.1).1⟩
    · exact ⟨u, m, l, hm, hE⟩
  · unfold cAy at g10 ⊢
    rw [hc 195 (by decide) (by decide), hc 198 (by decide) (by decide), hc 199 (by decide) (by decide), hc 203 (by decide) (by decide)]
    exact g10
