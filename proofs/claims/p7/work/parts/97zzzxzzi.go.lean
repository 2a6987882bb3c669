/-! alike: goThrough -/
theorem sSe_none {σ : kS} {kl : List Nat} {n S C i s r : Nat} {a : Nat → Int32} {x : sX} (hr : fN (σ 255 s) = r) (h : ¬ fN (a (7 * s)) < fN (σ 247 r)) : sSe σ kl n S C i s a x = x := by
  unfold sSe
  simp only
  rw [hr, cit_F h]
theorem sSe_send {σ : kS} {kl : List Nat} {n S C i s r dn : Nat} {a : Nat → Int32} {x : sX} (hr : fN (σ 255 s) = r) (hd : fN (a (7 * s)) = dn) (h : dn < fN (σ 247 r)) (hse : σ 249 (6 * r + dn) ≠ 0) : sSe σ kl n S C i s a x = sRe σ kl S C x (aUp a s) (nI i) (nI s) := by
  unfold sSe
  simp only
  rw [hr, hd, cit_T h, cit_T hse]
theorem sSe_recv {σ : kS} {kl : List Nat} {n S C i s r dn t : Nat} {a : Nat → Int32} {x : sX} (hr : fN (σ 255 s) = r) (hd : fN (a (7 * s)) = dn) (h : dn < fN (σ 247 r)) (hse : σ 249 (6 * r + dn) = 0) (ht : fN (σ 248 (6 * r + dn)) = t) : sSe σ kl n S C i s a x = cit (20000 < x.2.1 + wyN ((owO σ n r dn).map List.length)) (x.1, 20001, x.2.2.1, -7) (sWy σ kl S C i s a t (owP σ r dn) (owO σ n r dn) (wyN ((owO σ n r dn).map List.length)) 0 (x.1, x.2.1 + wyN ((owO σ n r dn).map List.length), x.2.2.1, x.2.2.2)) := by
  unfold sSe
  simp only
  rw [hr, hd, cit_T h, cit_F (fun z => z hse), ht]
  rfl
theorem sGo_n {σ : kS} {kl : List Nat} {n S C i : Nat} {a : Nat → Int32} {x : sX} (h : x.2.2.2 ≠ 0) : ∀ m s, sGo σ kl n S C i a m s x = x
  | 0, _ => rfl
  | m + 1, w => by
    rw [sGo, cit_F h]
theorem sWy_pre {σ : kS} {kl : List Nat} {n S C i j s r dn t : Nat} {a : Nat → Int32} : ∀ (m w : Nat) (x : sX), j < x.1.length → j < (sWy σ kl S C i s a t (owP σ r dn) (owO σ n r dn) m w x).1.length ∧ xq (sWy σ kl S C i s a t (owP σ r dn) (owO σ n r dn) m w x).1 j = xq x.1 j
  | 0, _, _, h => ⟨h, rfl⟩
  | m + 1, w, x, h => by
    by_cases q : x.2.2.2 = 0
    · rw [sWy_s q]
      have h1 := sW1_pre (σ := σ) (kl := kl) (n := n) (S := S) (C := C) (i := i) (s := s) (r := r) (dn := dn) (t := t) (w := w) (a := a) h
      have h2 := sWy_pre (σ := σ) (kl := kl) (n := n) (S := S) (C := C) (i := i) (s := s) (r := r) (dn := dn) (t := t) (a := a) m (w + 1) _ h1.1
      exact ⟨h2.1, h2.2.trans h1.2⟩
    · rw [sWy_n q]
      exact ⟨h, rfl⟩
theorem sSe_pre {σ : kS} {kl : List Nat} {n S C i j s : Nat} {a : Nat → Int32} {x : sX} (h : j < x.1.length) : j < (sSe σ kl n S C i s a x).1.length ∧ xq (sSe σ kl n S C i s a x).1 j = xq x.1 j := by
  by_cases q : fN (a (7 * s)) < fN (σ 247 (fN (σ 255 s)))
  · by_cases q2 : σ 249 (6 * fN (σ 255 s) + fN (a (7 * s))) = 0
    · rw [sSe_recv rfl rfl q q2 rfl]
      by_cases q3 : 20000 < x.2.1 + wyN ((owO σ n (fN (σ 255 s)) (fN (a (7 * s)))).map List.length)
      · rw [cit_T q3]
        exact ⟨h, rfl⟩
      · rw [cit_F q3]
        exact sWy_pre _ _ _ h
    · rw [sSe_send rfl rfl q q2]
      exact sRe_pre h
  · rw [sSe_none rfl q]
    exact ⟨h, rfl⟩
theorem iE_re {τ ω : kS} {K K' st n u m : Nat} {l : rwT} (hK : (K = 204 ∧ st = 776) ∨ (K = 213 ∧ st = 1352)) (hK' : K' = 204 ∨ K' = 213) (hne : K ≠ K') (e : reF τ ω K') (h : iE τ K st n u m l) : iE ω K st n u m l ∧ kTr ω l = kTr τ l := by
  have e' : ∀ c, c < 195 ∨ 222 ≤ c → ω c = τ c := fun c hc => e c (by omega) (by omega)
  refine iE_ot h ⟨fun z _ => ?_, e' _ (by decide), fun c c1 c2 => e c ?_ ?_, ?_, e' _ (by decide)⟩ (e' _ (by decide)) (fun t ht => ?_)
  · rw [e' 2 (by decide), e' 3 (by decide), e' 4 (by decide), e' 5 (by decide), e' 6 (by decide)]
    exact ⟨rfl, rfl, rfl, rfl, rfl⟩
  · rcases hK with z | z <;> omega
  · rcases hK with z | z <;> rcases hK' with z' | z' <;> omega
  · unfold mA
    rw [e' 233 (by decide)]
  · have := h.2.2.2.1 t ht
    unfold aT1 at this ⊢
    rw [e' 2 (by decide), e' 3 (by decide), e' 4 (by decide), e' 5 (by decide), e' 8 (by decide), e' 9 (by decide), e' 10 (by decide), e' 11 (by decide), e' 12 (by decide), e' 233 (by decide), e' 234 (by decide), e' 235 (by decide), e' 236 (by decide), e' 237 (by decide), e' 238 (by decide), e' 239 (by decide), e' 240 (by decide), e' 241 (by decide)]
    exact this
/-- here is filled for the STATE a -/
def heP (σ τ : kS) (n S : Nat) (kl : List Nat) (a : Nat → Int32) (mm : Nat) : Prop := ∃ u m2 l, m2 ≤ mm ∧ iE τ 204 776 n u m2 l ∧ kTr τ l = trSt (stI σ a) kl S
set_option maxRecDepth 100000 in
set_option maxHeartbeats 4000000 in
theorem mX_fill (L : Nat) (xs : Nat → Int32) (d : Nat) (σ τ : kS) (n b R S C m0 mm K st A M base : Nat) (kl : List Nat) (x : sX) (a g0 : Nat → Int32) (h : aJ σ n b R S C kl m0) (hX : cX σ τ n R S C x mm) (hmm : mm < 2147483646) (hK : (K = 204 ∧ st = 776) ∨ (K = 213 ∧ st = 1352)) (ha : stF τ A base S = a) (hok : aOk σ n R S a) (hA : kT[A]? = some (.inl (0, M, .inl g0))) (hM : M ≤ 100000) (hA2 : A = 202 ∨ A = 197) (hbm : base + 28 ≤ M) :
    kXM kT L xs (d + 54) 22 [.ref 13, .ref K, .ref A, .int (nI base)] τ (fun r ω => r = none ∧ cX σ ω n R S C x (mm + 1) ∧ nF2 τ ω K st ∧ ∃ u m l, m ≤ mm + 1 ∧ iE ω K st n u m l ∧ kTr ω l = trSt (stI σ a) kl S) := by
  have hK' : isK K st := Or.inr hK
  have hG := hX.1
  have hJ := h.2.1
  have hB : cB τ n R S C := cB_eq (fun c c1 c2 => sF_13 hG.1 c c1 (by omega)) (cB_of hJ)
  obtain ⟨⟨v1, v2, v3, v4, v5, v6⟩, ⟨y1, y2, y3, y4, y5⟩, vh⟩ := vB_of h hG hok
  have hA3 : (A < K ∨ K + 9 ≤ A) ∧ 13 ≤ A ∧ A < 232 := by
    rcases hK with ⟨k1, -⟩ | ⟨k1, -⟩ <;> rcases hA2 with z | z <;> subst k1 z <;> decide
  have hsv : staV (stI τ a) A base S := by
    have := stF_staV τ A base S hA3.2.2
    rw [ha] at this
    exact this
  obtain ⟨m1, q1, q2⟩ : ∃ m1, m1 ≤ mm ∧ kMs τ K m1 := by
    rcases hK with ⟨rfl, rfl⟩ | ⟨rfl, rfl⟩
    · exact hX.2.2.2.2.2.1
    · obtain ⟨u, m3, l, z1, z2⟩ := hX.2.2.2.2.2.2.1
      exact ⟨m3, z1, z2.2.2.2.2.2.1⟩
  have hkw : cKw τ K st := by
    rcases hK with ⟨rfl, rfl⟩ | ⟨rfl, rfl⟩
    · exact hG.2.2.1
    · exact hG.2.2.2.1
  refine kXM_mono (mf_fill L xs d τ (stI τ a) K st n b R S A M base m1 kl g0 hK' (stI_vw τ a) v1 v2 v4 v6 y1 y2 y3 y5 hsv (cT_sF hG.1 hJ.1) hB.1 v3.1 hB.2.1.2.1 hkw q2 (by omega) hA hM hA3 hbm) ?_
  rintro r ω ⟨rfl, u, l, hg, hw, htr⟩
  refine ⟨rfl, cX_K hX hJ.1 hK (by omega) hg, hg.1, u, m1 + 1, l, by omega, hg.2.1, ?_⟩
  rw [htr, trSt_hi (stI_hi (sF_hi hG.1) a)]
set_option maxRecDepth 100000 in
set_option maxHeartbeats 4000000 in
theorem mX_goThrough (L : Nat) (xs : Nat → Int32) (d : Nat) (σ τ : kS) (n b R S C m0 mm i : Nat) (kl : List Nat) (x : sX) (a : Nat → Int32) (h : aJ σ n b R S C kl m0) (hX : cX σ τ n R S C x mm) (hmm : mm < 2147480000) (hi : i < x.1.length) (hai : (xq x.1 i).1 = a) (X : sX) (hXe : X = sGo σ kl n S C i a S 0 x) :
    kXM kT L xs (d + 57) 82 [.ref 195, .int (nI i)] τ (fun q ω => q = none ∧ cX σ ω n R S C X (mm + 4)) := by
  have hT := h.1.1
  have hR := h.1.2.1
  have hJ := h.2.1
  have hn := hT.1
  have hS4 := h.1.2.2.1.1
  have hR4 := hR.1
  have hN6 := hX.2.1.1
  have loop : ∀ q : Nat × Int32 × kS × sX × Nat, (q.1 ≤ S ∧ q.2.2.2.2 ≤ mm + q.1 ∧ cX σ q.2.2.1 n R S C q.2.2.2.1 q.2.2.2.2 ∧ sGo σ kl n S C i a (S - q.1) q.1 q.2.2.2.1 = X ∧ (i < q.2.2.2.1.1.length ∧ (xq q.2.2.2.1.1 i).1 = a) ∧ (q.2.1 = 0 ∨ (q.2.1 = 1 ∧ heP σ q.2.2.1 n S kl a q.2.2.2.2))) → kX kT L xs (d + 57) 82 10 [(4, .int (nI q.1)), (3, .int q.2.1), (2, .int (nI (28 * i))), (0, .ref 195), (1, .int (nI i))] [] q.2.2.1 (fun q ω => q = none ∧ cX σ ω n R S C X (mm + 4)) := by
    refine kX_while (fun q : Nat × Int32 × kS × sX × Nat => [(4, .int (nI q.1)), (3, .int q.2.1), (2, .int (nI (28 * i))), (0, .ref 195), (1, .int (nI i))]) (fun q => q.2.2.1) _ (fun q => S - q.1) ?_
    rintro ⟨s, fl, ω, x1, m1⟩ ⟨j1, jm, j2, j3, ⟨j4, j4'⟩, j5⟩ ih
    dsimp only at j1 jm j2 j3 j4 j4' j5 ih ⊢
    have hG := j2.1
    have hB : cB ω n R S C := cB_eq (fun c c1 c2 => sF_13 hG.1 c c1 (by omega)) (cB_of hJ)
    have hN1 := j2.2.1.1
    have hok : aOk σ n R S a := by
      rw [← j4']
      exact (j2.2.2.2.2.2.2.2.1.2 i j4).1
    have hat : stF ω 197 (28 * i) S = a := by
      rw [← j4']
      exact (j2.2.2.1 i j4).1
    have hatj : ∀ j, j < 7 * S → ω 197 (28 * i + j) = a j := fun j hj => by
      rw [← hat]
      unfold stF
      rw [if_pos hj]
    iterate 4 (refine kX_one rfl ?_)
    refine kX_top (hB.2.1.2.1) ?_
    repeat refine kX_one rfl ?_
    refine kX_if (fun q => ?_) (fun q => ?_)
    · have q := qge q s S
      rw [show S - s = 0 by omega] at j3
      have j3 : x1 = X := j3
      subst j3
      refine kX_ret (i := .return_) (len := 1) rfl (Or.inr rfl) rfl (⟨rfl, cX_up j2 (by omega)⟩)
    · have q := qgeF q s S
      have hs4 : s < 4 := by omega
      have hans := j2.2.2.2.1.2.2.2.2.2
      repeat refine kX_one rfl ?_
      refine kX_if (fun q2 => ?_) (fun q2 => ?_)
      · have q2 : x1.2.2.2 ≠ 0 := fun e => qne q2 (hans.trans e)
        rw [sGo_n q2] at j3
        subst j3
        refine kX_ret (i := .return_) (len := 1) rfl (Or.inr rfl) rfl (⟨rfl, cX_up j2 (by omega)⟩)
      · have q2 : x1.2.2.2 = 0 := hans.symm.trans (qneF q2)
        obtain ⟨m', hm'⟩ : ∃ m', S - s = m' + 1 := ⟨S - s - 1, by omega⟩
        rw [hm', sGo, cit_T q2] at j3
        obtain ⟨r, dn, r1, r2, r3, r4, -⟩ := hok.2.1 s q
        have r3 : a (7 * s) = nI dn := r3
        obtain ⟨-, ev, ev6, ev2⟩ := hR.2.2.1 r r1
        have hfe : fN (σ 247 r) = ev := by rw [ev2]; exact fN_nI (by omega)
        have hfr : fN (σ 255 s) = r := by rw [r2]; exact fN_nI (by omega)
        rw [hfe] at r4
        have hfd : fN (a (7 * s)) = dn := by rw [r3]; exact fN_nI (by omega)
        have hr4 : r < 4 := by omega
        have hlo := sF_lo hG.1
        have hrole : ω 15 s = nI r := by
          rw [hlo 15 (by decide) (by decide)]
          exact (h.2.2.2.2.1 s q).1.trans r2
        have hevc : ω (23 + 35 * r) 5 = nI ev := by
          rw [hlo (23 + 35 * r) (by omega) (by omega)]
          exact (h.2.2.2.1 r r1).2.1.trans ev2
        have k185 : ∀ fl' ρ x2 m3, cX σ ρ n R S C x2 m3 → m3 ≤ mm + (s + 1) → x2 = sSe σ kl n S C i s a x1 → (fl' = 0 ∨ (fl' = 1 ∧ heP σ ρ n S kl a m3)) → ∀ lv, nk lv = true → ([(4, .int (nI s)), (3, .int fl'), (2, .int (nI (28 * i))), (0, .ref 195), (1, .int (nI i))] : jL).map (fun q => jl lv q.1) = ([(4, .int (nI s)), (3, .int fl'), (2, .int (nI (28 * i))), (0, .ref 195), (1, Value.int (nI i))] : jL).map (fun q => some q.2) → kX kT L xs (d + 57) 82 185 lv [] ρ (fun q ω => q = none ∧ cX σ ω n R S C X (mm + 4)) := by
          intro fl' ρ x2 m3 y1 y2 y3 y4 lv hk hlv
          refine kX_lv _ hk rfl hlv ?_
          have hpre := sSe_pre (σ := σ) (kl := kl) (n := n) (S := S) (C := C) (i := i) (s := s) (a := a) j4
          rw [← y3] at hpre
          iterate 2 (refine kX_one rfl ?_)
          have := ih (s + 1, fl', ρ, x2, m3) ⟨q, y2, y1, by simp only; rw [show S - (s + 1) = m' by omega, y3]; exact j3, ⟨hpre.1, by simp only; rw [hpre.2]; exact j4'⟩, y4⟩ (by simp only; omega)
          dsimp only at this
          rw [← nI_1] at this
          exact kX_lv _ rfl rfl rfl this
        iterate 7 (refine kX_one rfl ?_)
        refine kX_cal (mf_due L xs (d + 54) ω n R S 197 16800 (28 * i) s r ev (fun _ => 0) hB.1 hS4 r1 hrole hevc q ev6 rfl (by decide) (by omega)) rfl (Or.inr rfl) rfl rfl rfl (fun r1 σ1 q1 => ?_)
        obtain ⟨hq, rfl⟩ := q1
        rw [hatj (7 * s) (by omega), r3] at hq
        rcases hq with ⟨rfl, hno⟩ | ⟨k, hk, hk2, rfl, -⟩
        · have hnd : ¬ dn < ev := fun z => hno dn z rfl
          iterate 4 (refine kX_one rfl ?_)
          exact k185 fl ω x1 m1 j2 (by omega) (sSe_none hfr (by rw [hfd, hfe]; exact hnd)).symm j5 _ rfl rfl
        · obtain rfl : dn = k := nI_inj hk2
          have hk6 : dn < 6 := by omega
          have b4 := ev_b r dn 4 hr4 hk6 (by decide)
          have hdn : dn < fN (σ 247 r) := by rw [hfe]; exact hk
          obtain ⟨t, t1, t2, -⟩ := hR.2.2.2.2.2 r dn r1 hdn
          have hft : fN (σ 248 (6 * r + dn)) = t := by rw [t2]; exact fN_nI (by omega)
          have hEv := (h.2.2.2.1 r r1).2.2.2.2 dn hdn
          iterate 11 (refine kX_one rfl ?_)
          refine kX_acpyN (n0 := 16800) (n1 := 28) (f0 := fun _ => 0) (g0 := fun _ => 0) rfl rfl rfl rfl rfl rfl (28 * i) 0 28 rfl rfl rfl (by omega) (by decide) (by decide) (by decide) (Nat.zero_le 8) ?_
          iterate 5 (refine kX_one rfl ?_)
          refine kX_top (y := nI (7 * s)) (ix7s s) ?_
          iterate 1 (refine kX_one rfl ?_)
          refine kX_ialdN rfl rfl (by decide) (7 * s) (by first | rfl | decide) (by omega) ?_
          iterate 2 (refine kX_one rfl ?_)
          refine kX_iastN rfl rfl (by decide) (7 * s) (by first | rfl | decide) (by omega) ?_
          have hDj : ∀ j, j < 7 * S → upd (va_cpy (ω 197) (ω 202) (28 * i) 0 28) (7 * s) ((va_cpy (ω 197) (ω 202) (28 * i) 0 28) (7 * s) + Int32.ofInt 1) j = aUp a s j := fun j hj => by
            have hc : ∀ j, j < 7 * S → va_cpy (ω 197) (ω 202) (28 * i) 0 28 j = a j := fun j hj => by
              rw [va_cpy, if_pos (by omega), Nat.sub_zero]
              exact hatj j hj
            unfold aUp
            by_cases e : j = 7 * s
            · subst e
              rw [pk_us, pk_us, hc _ (by omega)]
              rfl
            · rw [pk_un e, pk_un e]
              exact hc j hj
          refine kX_st (va_up ω 202 (upd (va_cpy (ω 197) (ω 202) (28 * i) 0 28) (7 * s) ((va_cpy (ω 197) (ω 202) (28 * i) 0 28) (7 * s) + Int32.ofInt 1))) ?_ ?_
          · funext c; unfold  va_up; repeat' split
            all_goals first | rfl | omega | (subst_vars; rfl) | (funext j; unfold upd; repeat' split; all_goals first | rfl | omega | (subst_vars; rfl))
          generalize upd (va_cpy (ω 197) (ω 202) (28 * i) 0 28) (7 * s) ((va_cpy (ω 197) (ω 202) (28 * i) 0 28) (7 * s) + Int32.ofInt 1) = D at *
          have eq1 : ∀ c, c ≠ 202 → c ≠ 222 → c ≠ 229 → c ≠ 230 → c ≠ 231 → va_up ω 202 D c = ω c := fun c c1 _ _ _ _ => up_ne c1
          have hXr : cX σ (va_up ω 202 D) n R S C x1 m1 := cX_q j2 eq1 j2.1.2.2.2.2
          have hDr : ∀ j, j < 7 * S → va_up ω 202 D 202 j = aUp a s j := hDj
          have hher : fl = 0 ∨ (fl = 1 ∧ heP σ (va_up ω 202 D) n S kl a m1) := by
            rcases j5 with z | ⟨z, u, m2, l, z1, z2, z3⟩
            · exact Or.inl z
            · obtain ⟨w1, w2⟩ := iE_q eq1 z2
              exact Or.inr ⟨z, u, m2, l, z1, w1, w2.trans z3⟩
          have hatr : stF (va_up ω 202 D) 197 (28 * i) S = a := hat
          generalize va_up ω 202 D = ρ at *
          have hevr : ρ (28 + 35 * r + 5 * dn) = σ (28 + 35 * r + 5 * dn) := sF_13 hXr.1.1 _ (by omega) (by omega)
          have hstr : stF ρ 202 0 S = aUp a s := by
            funext j
            unfold stF
            by_cases e : j < 7 * S
            · rw [if_pos e, Nat.zero_add]
              exact hDr j e
            · rw [if_neg e]
              unfold aUp
              rw [pk_un (by omega)]
              exact (hok.1 j (by omega)).symm
          iterate 1 (refine kX_one rfl ?_)
          refine kX_getN rfl rfl (kT_ev hr4 hk6) rfl ?_
          repeat refine kX_one rfl ?_
          refine kX_if (fun q3 => ?_) (fun q3 => ?_)
          · have q3 : ρ (28 + 35 * r + 5 * dn) 0 ≠ 0 := qne q3
            rw [hevr] at q3
            have hse : σ 249 (6 * r + dn) ≠ 0 := hEv.2.1.mp q3
            have hSe := sSe_send (σ := σ) (kl := kl) (n := n) (S := S) (C := C) (i := i) (x := x1) hfr hfd hdn hse
            obtain ⟨ok1, ok2⟩ := aOk_up hT hR hok q r1 r2 r3 hdn hse
            iterate 6 (refine kX_one rfl ?_)
            refine kX_top (y := nI (7 * S)) hXr.2.2.2.1.1 ?_
            refine kX_cal (mf_stHas L xs (d + 54) ρ (7 * S) x1.1.length (by omega) hXr.2.1) rfl (Or.inr rfl) rfl rfl rfl (fun r1 σ1 q1 => ?_)
            obtain ⟨rfl, rfl⟩ := q1
            rw [isB_iff (cX_in hXr hstr)]
            by_cases hin2 : ∃ q ∈ x1.1, q.1 = aUp a s
            · rw [isB_T hin2]
              iterate 1 (refine kX_one rfl ?_)
              refine k185 fl ρ x1 m1 hXr (by omega) ?_ hher _ rfl rfl
              rw [hSe]
              unfold sRe
              rw [cit_T hin2]
            · rw [isB_F hin2]
              have k174 : ∀ π m3, cX σ π n R S C x1 m3 → m3 ≤ mm + (s + 1) → (∃ u m4 l, m4 ≤ m3 ∧ iE π 213 1352 n u m4 l ∧ ((∃ c, c < C ∧ σ (163 + 3 * c) 0 ≠ 0) → kTr π l = trSt (stI σ (aUp a s)) kl S)) → stF π 202 0 S = aUp a s → (fl = 0 ∨ (fl = 1 ∧ heP σ π n S kl a m3)) → kX kT L xs (d + 57) 82 174 [(4, .int (nI s)), (3, .int fl), (2, .int (nI (28 * i))), (0, .ref 195), (1, .int (nI i))] [] π (fun q ω => q = none ∧ cX σ ω n R S C X (mm + 4)) := by
                rintro π m3 p1 p2 ⟨u, m4, l, l1, l2, l3⟩ p3 p4
                iterate 5 (refine kX_one rfl ?_)
                refine kX_cal (mX_reach L xs (d + 1) σ π n b R S C m0 m3 213 1352 u m4 kl x1 (aUp a s) l (nI i) (nI s) h p1 (Or.inr ⟨rfl, rfl⟩) l2 l1 p3 ok1 hin2 q2 (Or.inr ⟨i, s, j4, rfl, rfl, by rw [j4']; exact ok2⟩) l3) rfl (Or.inr rfl) rfl rfl rfl (fun r1 κ q1 => ?_)
                obtain ⟨rfl, hXk, -, hre⟩ := q1
                refine k185 fl κ _ m3 hXk p2 hSe.symm ?_ _ rfl rfl
                rcases p4 with z | ⟨z, u2, m2, l2, z1, z2, z3⟩
                · exact Or.inl z
                · obtain ⟨w1, w2⟩ := iE_re (Or.inl ⟨rfl, rfl⟩) (Or.inr rfl) (by decide) hre z2
                  exact Or.inr ⟨z, u2, m2, l2, z1, w1, w2.trans z3⟩
              have hsec := hXr.2.2.2.1.2.1
              iterate 3 (refine kX_one rfl ?_)
              repeat refine kX_one rfl ?_
              refine kX_if (fun q4 => ?_) (fun q4 => ?_)
              · have q4 : ¬ ∃ c, c < C ∧ σ (163 + 3 * c) 0 ≠ 0 := fun z => isB_ne.mpr z (hsec.symm.trans (qeq q4))
                obtain ⟨u, m4, l, l1, l2⟩ := hXr.2.2.2.2.2.2.1
                exact kX_lv _ rfl rfl rfl (k174 ρ m1 hXr (by omega) ⟨u, m4, l, l1, l2, fun z => absurd z q4⟩ hstr hher)
              · iterate 7 (refine kX_one rfl ?_)
                refine kX_cal (mX_fill L xs (d + 2) σ ρ n b R S C m0 m1 213 1352 202 28 0 kl x1 (aUp a s) (fun _ => 0) h hXr (by omega) (Or.inr ⟨rfl, rfl⟩) hstr ok1 rfl (by decide) (Or.inl rfl) (by decide)) rfl (Or.inr rfl) rfl rfl rfl (fun r1 π q1 => ?_)
                obtain ⟨rfl, hXp, hF, u, m4, l, l1, l2, l3⟩ := q1
                refine kX_lv _ rfl rfl rfl (k174 π (m1 + 1) hXp (by omega) ⟨u, m4, l, l1, l2, fun _ => l3⟩ ?_ ?_)
                · rw [← hstr]
                  unfold stF
                  rw [hF.1.1 202 (by decide) (by decide) (by decide) (by decide) (by decide) (by decide)]
                · rcases hher with z | ⟨z, u2, m2, l2', z1, z2, z3⟩
                  · exact Or.inl z
                  · obtain ⟨w1, w2⟩ := iE_ot z2 (nF2_ot (Or.inr (Or.inl ⟨rfl, rfl⟩)) (Or.inr (Or.inr ⟨rfl, rfl⟩)) (by decide) hF hn z2.2.2.2.2.1.1) (hF.1.1 1 (by decide) (by decide) (by decide) (by decide) (by decide) (by decide)) l2.2.2.2.1
                    exact Or.inr ⟨z, u2, m2, l2', by omega, w1, w2.trans z3⟩
          · have q3 : ρ (28 + 35 * r + 5 * dn) 0 = 0 := qneF q3
            rw [hevr] at q3
            have hse : σ 249 (6 * r + dn) = 0 := Classical.byContradiction (fun z => hEv.2.1.mpr z q3)
            have k121 : ∀ π m3, cX σ π n R S C x1 m3 → m3 ≤ mm + (s + 1) → heP σ π n S kl a m3 → (∀ j, j < 7 * S → π 202 j = aUp a s j) → kX kT L xs (d + 57) 82 121 [(5, .ref (28 + 35 * r + 5 * dn)), (4, .int (nI s)), (3, .int 1), (2, .int (nI (28 * i))), (0, .ref 195), (1, .int (nI i))] [] π (fun q ω => q = none ∧ cX σ ω n R S C X (mm + 4)) := by
              rintro π m3 p1 p2 ⟨u, m2, l, l1, l2, l3⟩ p3
              iterate 4 (refine kX_one rfl ?_)
              refine kX_cal (mX_tryWays L xs d σ π n b R S C m0 m3 i s r dn t u m2 _ kl x1 a l h p1 l2 l1 j4 j4' q r1 r2 r3 hdn hse t1 t2 l3 p3 q2 rfl _ rfl) rfl (Or.inr rfl) rfl rfl rfl (fun r1 κ q1 => ?_)
              obtain ⟨rfl, hXk, hEk, hTk⟩ := q1
              iterate 1 (refine kX_one rfl ?_)
              exact k185 1 κ _ m3 hXk p2 (sSe_recv hfr hfd hdn hse hft).symm (Or.inr ⟨rfl, u, m2, l, l1, hEk, hTk⟩) _ rfl rfl
            repeat refine kX_one rfl ?_
            refine kX_if (fun q4 => ?_) (fun q4 => ?_)
            · rcases hher with z | ⟨z, z2⟩
              · exact absurd z (qne q4)
              · subst z
                exact kX_lv _ rfl rfl rfl (k121 ρ m1 hXr (by omega) z2 hDr)
            · iterate 8 (refine kX_one rfl ?_)
              refine kX_cal (mX_fill L xs (d + 2) σ ρ n b R S C m0 m1 204 776 197 16800 (28 * i) kl x1 a (fun _ => 0) h hXr (by omega) (Or.inl ⟨rfl, rfl⟩) hatr hok rfl (by decide) (Or.inr rfl) (by omega)) rfl (Or.inr rfl) rfl rfl rfl (fun r1 π q1 => ?_)
              obtain ⟨rfl, hXp, hF, u, m4, l, l1, l2, l3⟩ := q1
              iterate 2 (refine kX_one rfl ?_)
              refine kX_lv _ rfl rfl rfl (k121 π (m1 + 1) hXp (by omega) ⟨u, m4, l, l1, l2, l3⟩ (fun j hj => ?_))
              rw [hF.1.1 202 (by decide) (by decide) (by decide) (by decide) (by decide) (by decide)]
              exact hDr j hj
  unfold kXM
  iterate 3 (refine kX_one rfl ?_)
  refine kX_top (y := nI (28 * i)) (ix28 i) ?_
  iterate 5 (refine kX_one rfl ?_)
  exact kX_lv _ rfl rfl rfl (loop (0, 0, τ, x, mm) ⟨Nat.zero_le _, by simp only; omega, hX, hXe.symm, ⟨hi, hai⟩, Or.inl rfl⟩)
