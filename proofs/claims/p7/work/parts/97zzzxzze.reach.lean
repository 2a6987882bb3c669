/-! alike: reach, as the search's function -/
theorem cBk_st {τ : kS} {n R S C c : Nat} {a : Nat → Int32} {l : rwT} (hB : cB τ n R S C) (hc : c < C) : cBk (stI τ a) 202 0 c n S l ↔ cBk τ 202 0 c n S l := by
  have hC6 := hB.2.2.1
  have hR4 := hB.1.1
  have e : ∀ c, c < 232 → stI τ a c = τ c := fun c hc => stI_lo τ a (by omega) (by omega)
  have e1 := stI_lo τ a (c := 233) (by decide) (by decide)
  have e2 := stI_lo τ a (c := 238) (by decide) (by decide)
  unfold cBk
  rw [e (163 + 3 * c) (by omega)]
  refine or_congr (and_congr_right (fun _ => exists_congr (fun s => and_congr_right (fun hs => ?_)))) (and_congr_right (fun _ => not_congr (cPn_congr (fun s hs => ?_) (fun s p hs hp _ => ?_))))
  · unfold cLs kMk kIn kTv mA
    rw [e (163 + 3 * c) (by omega), e 15 (by decide), e 16 (by decide), e 202 (by decide), e 2 (by decide), e 3 (by decide), e 4 (by decide), e1, e2]
  · obtain ⟨r, r1, r2⟩ := hB.2.1.2.2 s hs
    unfold cWn cHd
    rw [e (163 + 3 * c) (by omega), e 15 (by decide), e 16 (by decide), e 202 (by decide), r2, fN_nI (by omega), e (23 + 35 * r) (by omega)]
  · unfold cFt
    rw [e (163 + 3 * c) (by omega), e (164 + 3 * c) (by omega), e (165 + 3 * c) (by omega), e 15 (by decide), e 202 (by decide)]
theorem fsB_n7 {P : Nat → Prop} : ∀ m i, i + m ≤ 1000 → fsB P m i ≠ -7
  | 0, _, _ => by
    show (0 : Int32) ≠ -7
    decide
  | m + 1, i, h => by
    have e : fsB P (m + 1) i = cit (P i) (nI (1 + i)) (fsB P m (i + 1)) := rfl
    rw [e]
    by_cases q : P i
    · rw [cit_T q]
      exact fun z => absurd (show nI (1 + i) < 0 by rw [z]; decide) (nI_pos (by omega))
    · rw [cit_F q]
      exact fsB_n7 m (i + 1) (by omega)
theorem iE_st {τ : kS} {K st n u m : Nat} {l : rwT} {a : Nat → Int32} (hK : (K = 204 ∧ st = 776) ∨ (K = 213 ∧ st = 1352)) (h : iE τ K st n u m l) : iE (stI τ a) K st n u m l := by
  rcases hK with ⟨rfl, rfl⟩ | ⟨rfl, rfl⟩
  · exact h
  · exact h
theorem iE_195 {τ ω : kS} {K st n u m : Nat} {l : rwT} (e : ∀ c, c ≠ 195 → ω c = τ c) (h : iE τ K st n u m l) : iE ω K st n u m l := by
  have b := isK_b h.1
  have hK : K < 195 ∨ 195 < K := by
    rcases h.1 with ⟨k1, -⟩ | ⟨k1, -⟩ | ⟨k1, -⟩ <;> omega
  refine (iE_ot h ⟨fun z _ => ?_, e _ (by decide), fun c c1 c2 => e c ?_, ?_, e _ (by decide)⟩ (e _ (by decide)) (fun t ht => ?_)).1
  · rw [e 2 (by decide), e 3 (by decide), e 4 (by decide), e 5 (by decide), e 6 (by decide)]
    exact ⟨rfl, rfl, rfl, rfl, rfl⟩
  · rcases h.1 with ⟨k1, -⟩ | ⟨k1, -⟩ | ⟨k1, -⟩ <;> omega
  · unfold mA
    rw [e 233 (by decide)]
  · have := h.2.2.2.1 t ht
    unfold aT1 at this ⊢
    rw [e 2 (by decide), e 3 (by decide), e 4 (by decide), e 5 (by decide), e 8 (by decide), e 9 (by decide), e 10 (by decide), e 11 (by decide), e 12 (by decide), e 233 (by decide), e 234 (by decide), e 235 (by decide), e 236 (by decide), e 237 (by decide), e 238 (by decide), e 239 (by decide), e 240 (by decide), e 241 (by decide)]
    exact this
/-- the draft's values -/
theorem cX_V {σ τ : kS} {n b R S C m : Nat} {kl : List Nat} {a : Nat → Int32} (h : aJ σ n b R S C kl m) (hG : cGx σ τ) (hok : aOk σ n R S a) (ha : stF τ 202 0 S = a) : ∀ s k, s < S → k < 6 → τ 202 (0 + 7 * s + 1 + k) = -1 ∨ ∃ z, z < n ∧ τ 202 (0 + 7 * s + 1 + k) = nI z ∧ kGd τ z := fun s k hs hk => by
  have hn := h.1.1.1
  have e : τ 202 (0 + 7 * s + 1 + k) = a (7 * s + 1 + k) := by
    rw [← ha]
    unfold stF
    rw [if_pos (by omega), show 0 + (7 * s + 1 + k) = 0 + 7 * s + 1 + k by omega]
  rw [e]
  rcases hok.2.2 s k hs hk with q | ⟨z, z1, z2⟩
  · exact Or.inl q
  · refine Or.inr ⟨z, z1, z2, ?_⟩
    have hg := aOk_gd h.1.1 hok hs hk z1 z2
    rw [← aT_gd h.1.1 h.2.2.1.1 z1] at hg
    have e2 : tgd (τ 2) (τ 3) (τ 4) z = tgd (σ 2) (σ 3) (σ 4) z := by
      unfold tgd
      refine tA_congr (V := fun t => t < n) (AG := mAG σ n) (fun t ht => ?_) (fun t ht => ?_) z z1
      · obtain ⟨a1, a2, a3, -⟩ := h.2.2.1.1 t ht
        exact ⟨by omega, tOk_mono (fun _ _ q => q) (fun _ _ q => q) a1 a2 a3 (mTb_num h.1.1 t ht).2⟩
      · obtain ⟨a1, a2, a3, -⟩ := hG.1.2 t (by omega)
        exact ⟨a1, a2, a3, by rw [a1]⟩
    unfold kGd
    rw [e2]
    exact hg
set_option maxRecDepth 100000 in
set_option maxHeartbeats 4000000 in
theorem mX_reach (L : Nat) (xs : Nat → Int32) (d : Nat) (σ τ : kS) (n b R S C m0 mm K st u m : Nat) (kl : List Nat) (x : sX) (a : Nat → Int32) (l : rwT) (f y : Int32) (h : aJ σ n b R S C kl m0) (hX : cX σ τ n R S C x mm) (hK : (K = 204 ∧ st = 776) ∨ (K = 213 ∧ st = 1352)) (hE : iE τ K st n u m l) (hm : m ≤ mm) (ha : stF τ 202 0 S = a) (hok : aOk σ n R S a) (hno : ¬ ∃ q ∈ x.1, q.1 = a) (han : x.2.2.2 = 0) (hp : (x.1.length = 0 ∧ ∀ s, s < S → a (7 * s) = 0) ∨ ∃ j mv, j < x.1.length ∧ f = nI j ∧ y = nI mv ∧ stp S (aD (xq x.1 j).1) (aV (xq x.1 j).1) (aD a) (aV a) mv) (hrow : (∃ c, c < C ∧ σ (163 + 3 * c) 0 ≠ 0) → kTr τ l = trSt (stI σ a) kl S) :
    kXM kT L xs (d + 55) 84 [.ref 195, .int f, .int y, .ref K] τ (fun r ω => r = none ∧ cX σ ω n R S C (sRe σ kl S C x a f y) mm ∧ iE ω K st n u m l ∧ reF τ ω K) := by
  have hX0 := hX
  obtain ⟨hG, g2, g3, g4, g5, ⟨m2, g6, g6'⟩, ⟨u3, m3, l3, g7, g8⟩, g9, g10⟩ := hX
  obtain ⟨w1, w2, w3, w4, w5, w6⟩ := g4
  have hn := h.1.1.1
  have hS4 := h.1.2.2.1.1
  have hR4 := h.1.2.1.1
  have hJ := h.2.1
  have hB : cB τ n R S C := cB_eq (fun c c1 c2 => sF_13 hG.1 c c1 (by omega)) (cB_of hJ)
  have hC6 := hB.2.2.1
  have hN6 := g2.1
  have hV := cX_V h hG hok ha
  have hkv := vB_of h hG hok
  obtain ⟨⟨v1, v2, v3, v4, v5, v6⟩, ⟨y1, y2, y3, y4, y5⟩, vh⟩ := hkv
  have hsv : staV (stI τ a) 202 0 S := by
    have := stF_staV τ 202 0 S (by decide)
    rw [ha] at this
    exact this
  have hi := sF_hi hG.1
  have hsh := stI_hi hi a
  have hE2 := iE_st (a := a) hK hE
  have hbk : ∀ c, c < C → (cBk τ 202 0 c n S l ↔ mBt (stI σ a) (trSt (stI σ a) kl S) c S) := fun c hc => by
    have e1 := cBk_tr (c := c) (A := 202) (base := 0) v1 v2 v3 v5 hc v6 y2 y3 y4 y1.1 hsv (fun s k hs hk => hV s k hs hk) vh hE2
    have e2 : kTr (stI τ a) l = kTr τ l := rfl
    rw [← cBk_st (a := a) hB hc, e1, e2, mBt_hi hsh]
    by_cases hs : σ 257 c = 0
    · unfold mBt
      refine or_congr ⟨fun z => absurd hs z.1, fun z => absurd hs z.1⟩ Iff.rfl
    · rw [hrow ⟨c, hc, (h.2.2.2.2.2.1 c hc).1.mpr hs⟩]
  have hall : (∀ s, s < S → cHd τ 202 0 s) ↔ (∀ s, s < S → adN (stI σ a) s) := by
    refine forall_congr' (fun s => forall_congr' (fun hs => ?_))
    obtain ⟨r, r1, r2, r3, r4, -⟩ := v6.2 s hs
    obtain ⟨-, ev, ev6, ev2⟩ := v2.2.2.1 r r1
    have k1 : τ 15 s = nI r := (y3 s hs).1.trans r2
    have k2 : τ (23 + 35 * r) 5 = nI ev := by
      have := (y2 r r1).2.1
      rw [stI_lo τ a (by omega) (by omega)] at this
      exact this.trans ev2
    have k3 : τ 202 (0 + 7 * s) = stI τ a 264 s := by
      have := (hsv s hs).1
      exact this
    rw [ev2, fN_nI (by omega)] at r4
    have k4 : adN (stI σ a) s ↔ stI τ a 264 s = nI ev := by
      unfold adN
      rw [← hsh 255 (by decide), ← hsh 247 (by decide), ← hsh 264 (by decide), r2, fN_nI (by omega), ev2]
    rw [k4]
    unfold cHd
    rw [k1, fN_nI (by omega), k2, k3, r3]
    generalize fN (stI τ a 264 s) = dn at *
    rw [Int32.lt_iff_toInt_lt, nI_toInt (by omega), nI_toInt (by omega)]
    refine ⟨fun z => by congr 1; omega, fun z => ?_⟩
    have := nI_inj z
    omega
  have hx0 : ∀ q : Prop, sRe σ kl S C x a f y = cit (600 ≤ x.1.length) (x.1, x.2.1, x.2.2.1, -7) (x.1 ++ [(a, f, y)], x.2.1, x.2.2.1 + cit (∀ s, s < S → adN (stI σ a) s) 1 0, fsB (fun c => mBt (stI σ a) (trSt (stI σ a) kl S) c S) C 0) := fun _ => by
    unfold sRe
    rw [cit_F hno]
  have hx0 := hx0 True
  by_cases hN : x.1.length = 600
  · rw [cit_T (by omega)] at hx0
    unfold kXM
    iterate 3 (refine kX_one rfl ?_)
    refine kX_top (g2.2.1) ?_
    repeat refine kX_one rfl ?_
    refine kX_if (fun q => ?_) (fun q => ?_)
    · have q := qlt q x.1.length 600
      omega
    · iterate 3 (refine kX_one rfl ?_)
      refine kX_ret (i := .return_) (len := 1) rfl (Or.inr rfl) rfl ⟨rfl, ?_, ?_, fun c hc _ => up_ne (by omega)⟩
      · rw [hx0]
        have e' : ∀ c, c ≠ 195 → va_up τ 195 (upd (τ 195) 12 (-7)) c = τ c := fun c hc => up_ne hc
        have e5 : ∀ j, j ≠ 12 → va_up τ 195 (upd (τ 195) 12 (-7)) 195 j = τ 195 j := fun j hj => by rw [up_eq, pk_un hj]
        have e6 : va_up τ 195 (upd (τ 195) 12 (-7)) 195 12 = -7 := by rw [up_eq, pk_us]
        show cX σ (va_up τ 195 (upd (τ 195) 12 (-7))) n R S C (x.1, x.2.1, x.2.2.1, -7) mm
        generalize va_up τ 195 (upd (τ 195) 12 (-7)) = ω at e' e5 e6
        have hgt : ∀ g, 200 ≤ g → ω 2 g = τ 2 g ∧ ω 3 g = τ 3 g ∧ ω 4 g = τ 4 g ∧ ω 6 g = τ 6 g := fun g _ => by
          rw [e' 2 (by decide), e' 3 (by decide), e' 4 (by decide), e' 6 (by decide)]
          exact ⟨rfl, rfl, rfl, rfl⟩
        obtain ⟨a1, a2, a3, a4, a5⟩ := hG
        refine ⟨⟨sF_trans a1 (sF_of (fun c hc => e' c (by omega))), fun j hj => by rw [e' 5 (by decide)]; exact a2 j hj, cKw_eq (by decide) (e' _ (by decide)) (e' _ (by decide)) (e' _ (by decide)) hgt a3, cKw_eq (by decide) (e' _ (by decide)) (e' _ (by decide)) (e' _ (by decide)) hgt a4, cQ_eq (e' _ (by decide)) (e' _ (by decide)) a5⟩, ?_, ?_, ⟨(e5 _ (by decide)).trans w1, (e5 _ (by decide)).trans w2, (e5 _ (by decide)).trans w3, w4, (e5 _ (by decide)).trans w5, e6⟩, fun so hso => ?_, ⟨m2, g6, kMs_eq (fun c c1 c2 => e' c (by omega)) g6'⟩, ⟨u3, m3, l3, g7, iE_195 (fun c hc => e' c hc) g8⟩, g9, ?_⟩
        · unfold sWi at g2 ⊢
          rw [e' 196 (by decide), e' 197 (by decide), e' 201 (by decide), e' 200 (by decide)]
          exact g2
        · unfold cSx stF at g3 ⊢
          rw [e' 197 (by decide), e' 198 (by decide), e' 199 (by decide)]
          exact g3
        · rw [e' 228 (by decide), e' (224 + so) (by omega)]
          exact g5 so hso
        · refine ⟨fun _ => (e5 _ (by decide)).trans (g10.1 (Or.inl han)), fun _ z => absurd rfl z⟩
      · rcases hK with ⟨rfl, rfl⟩ | ⟨rfl, rfl⟩
        · exact hE
        · exact hE
  · have hlt : x.1.length < 600 := by omega
    rw [cit_F (by omega)] at hx0
    have hxn := xOk_push g9 hlt hok hp
    have hlen : (x.1 ++ [(a, f, y)]).length = x.1.length + 1 := by rw [List.length_append]; rfl
    have hP : ∀ i, i < x.1.length + 1 → upd (τ 198) x.1.length f i = (xq (x.1 ++ [(a, f, y)]) i).2.1 := fun i hi => by
      by_cases e : i = x.1.length
      · subst e
        rw [pk_us, xq_eq]
      · rw [pk_un e, xq_lt (by omega)]
        exact (g3 i (by omega)).2.1
    have hM : ∀ i, i < x.1.length + 1 → upd (τ 199) x.1.length y i = (xq (x.1 ++ [(a, f, y)]) i).2.2 := fun i hi => by
      by_cases e : i = x.1.length
      · subst e
        rw [pk_us, xq_eq]
      · rw [pk_un e, xq_lt (by omega)]
        exact (g3 i (by omega)).2.2
    obtain ⟨D, hD, hDP⟩ := x_path h.1.1 h.1.2.1 hS4 hxn (by omega)
    obtain ⟨hD1, hD2⟩ := hDP (upd (τ 198) x.1.length f) (fun i _ hi => hP i (by omega))
    rw [hlen, Nat.add_sub_cancel] at hD1 hD2
    refine kXM_mono (mf_reach L xs d τ n R S C x.1.length K st u m D x.2.2.1 l f y hB hK hE w1 g2 (w6.trans han) w5 hV (fun i i1 i2 => ?_) hD hD1 hD2) ?_
    · obtain ⟨j, mv, j1, j2, -⟩ := (hxn.2 i (by omega)).2.2 i1
      exact ⟨j, j1, (hP i i2).trans j2⟩
    · rintro r ω ⟨rfl, ⟨q, -⟩ | ⟨-, q2, q3, q4, q5, q6, q7, q8, q9⟩⟩
      · exact absurd q hN
      · refine ⟨rfl, ?_, q3, q2⟩
        rw [fsB_congr C 0 (fun c _ hc => hbk c (by omega))] at q7
        rw [cit_iff hall] at q6
        rw [hx0]
        obtain ⟨p1, p2, p3, p4⟩ := q4
        have hKb : K + 6 = 210 ∨ K + 6 = 219 := by rcases hK with z | z <;> omega
        have e' : ∀ c, c < 195 ∨ 222 ≤ c → ω c = τ c := fun c hc => q2 c (by omega) (by omega)
        have eK : ∀ c, 204 ≤ c → c ≠ K + 6 → ω c = τ c := fun c c1 c2 => q2 c (by omega) c2
        have hgt : ∀ g, 200 ≤ g → ω 2 g = τ 2 g ∧ ω 3 g = τ 3 g ∧ ω 4 g = τ 4 g ∧ ω 6 g = τ 6 g := fun g _ => by
          rw [e' 2 (by decide), e' 3 (by decide), e' 4 (by decide), e' 6 (by decide)]
          exact ⟨rfl, rfl, rfl, rfl⟩
        obtain ⟨a1, a2, a3, a4, a5⟩ := hG
        refine ⟨⟨sF_trans a1 (sF_of (fun c hc => e' c (by omega))), fun j hj => by rw [e' 5 (by decide)]; exact a2 j hj, cKw_eq (by decide) (eK _ (by decide) (by omega)) (eK _ (by decide) (by omega)) (eK _ (by decide) (by omega)) hgt a3, cKw_eq (by decide) (eK _ (by decide) (by omega)) (eK _ (by decide) (by omega)) (eK _ (by decide) (by omega)) hgt a4, cQ_eq (e' _ (by decide)) (e' _ (by decide)) a5⟩, ?_, ?_, ⟨(q5 _ (by decide) (by decide) (by decide)).trans w1, (q5 _ (by decide) (by decide) (by decide)).trans w2, (q5 _ (by decide) (by decide) (by decide)).trans w3, w4, q6, q7⟩, fun so hso => ?_, ?_, ?_, hxn, ?_⟩
        · show sWi ω (7 * S) (x.1 ++ [(a, f, y)]).length
          rw [hlen]
          exact p4
        · intro i hi
          have hi : i < x.1.length + 1 := by rw [← hlen]; exact hi
          refine ⟨?_, ?_, ?_⟩
          · by_cases e : i = x.1.length
            · subst e
              show stF ω 197 (28 * x.1.length) S = (xq (x.1 ++ [(a, f, y)]) x.1.length).1
              rw [xq_eq]
              show stF ω 197 (28 * x.1.length) S = a
              rw [← ha]
              funext j
              unfold stF
              by_cases hj : j < 7 * S
              · rw [if_pos hj, if_pos hj, p1, va_cpy, if_pos ⟨by omega, by omega⟩]
                congr 1
                omega
              · rw [if_neg hj, if_neg hj]
            · show stF ω 197 (28 * i) S = (xq (x.1 ++ [(a, f, y)]) i).1
              rw [xq_lt (by omega), ← (g3 i (by omega)).1]
              funext j
              unfold stF
              by_cases hj : j < 7 * S
              · rw [if_pos hj, if_pos hj, p1, va_cpy, if_neg (by omega)]
              · rw [if_neg hj, if_neg hj]
          · rw [p2]
            exact hP i hi
          · rw [p3]
            exact hM i hi
        · rw [e' 228 (by decide), e' (224 + so) (by omega)]
          exact g5 so hso
        · rcases hK with ⟨rfl, rfl⟩ | ⟨rfl, rfl⟩
          · exact ⟨m, hm, q3.2.2.2.2.2.1⟩
          · exact ⟨m2, g6, kMs_eq (fun c c1 c2 => eK c (by omega) (by omega)) g6'⟩
        · rcases hK with ⟨rfl, rfl⟩ | ⟨rfl, rfl⟩
          · refine ⟨u3, m3, l3, g7, (iE_ot g8 ⟨fun z _ => ?_, e' _ (by decide), fun c c1 c2 => eK c (by omega) (by omega), ?_, e' _ (by decide)⟩ (e' _ (by decide)) q3.2.2.2.1).1⟩
            · rw [e' 2 (by decide), e' 3 (by decide), e' 4 (by decide), e' 5 (by decide), e' 6 (by decide)]
              exact ⟨rfl, rfl, rfl, rfl, rfl⟩
            · unfold mA
              rw [e' 233 (by decide)]
          · exact ⟨u, m, l, hm, q3⟩
        · have hfn := fsB_n7 (P := fun c => mBt (stI σ a) (trSt (stI σ a) kl S) c S) C 0 (by omega)
          refine ⟨fun z => ?_, fun z _ => ?_⟩
          · rcases z with z | z
            · rw [q8 (q7.trans z)]
              exact g10.1 (Or.inl han)
            · exact absurd z hfn
          · show 0 < (x.1 ++ [(a, f, y)]).length ∧ _
            obtain ⟨q91, q92⟩ := q9 (fun e => z (q7.symm.trans e))
            show 0 < (x.1 ++ [(a, f, y)]).length ∧ ∃ D, D ≤ 24 ∧ (∀ j, j < D → 0 < tpI (ω 198) ((x.1 ++ [(a, f, y)]).length - 1) j) ∧ tpI (ω 198) ((x.1 ++ [(a, f, y)]).length - 1) D = 0 ∧ ω 195 9 = nI D ∧ ∀ k, k < D → ω 203 k = ω 199 (tpI (ω 198) ((x.1 ++ [(a, f, y)]).length - 1) (D - 1 - k))
            rw [hlen, Nat.add_sub_cancel, p2, p3]
            exact ⟨by omega, D, hD, hD1, hD2, q91, q92⟩
