section
/-! alike: goThrough -/
theorem sSe_none {σ : kS} {kl : List Nat} {n S C i s r : Nat} {a : Nat → Int32} {x : sX} (hr : fN (σ 255 s) = r) (h : ¬ fN (a (7 * s)) < fN (σ 247 r)) : sSe σ kl n S C i s a x = x := by
  unfold sSe
  simp only
  rw [hr, cit_F h]
theorem sSe_send {σ : kS} {kl : List Nat} {n S C i s r dn : Nat} {a : Nat → Int32} {x : sX} (hr : fN (σ 255 s) = r) (hd : fN (a (7 * s)) = dn) (h : dn < fN (σ 247 r)) (hse : σ 249 (6 * r + dn) ≠ 0) : sSe σ kl n S C i s a x = sRe σ kl S C x (aUp a s) (nI i) (nI s) := by
  unfold sSe
  simp only
  rw [hr, hd, cit_T h, cit_T hse]
theorem sSe_recv {σ : kS} {kl : List Nat} {n S C i s r dn t : Nat} {a : Nat → Int32} {x : sX} (hr : fN (σ 255 s) = r) (hd : fN (a (7 * s)) = dn) (h : dn < fN (σ 247 r)) (hse : σ 249 (6 * r + dn) = 0) (ht : fN (σ 248 (6 * r + dn)) = t) : sSe σ kl n S C i s a x = cit (20000 < x.2.1 + wyN ((owO σ n r dn).map List.length)) (x.1, 20001, x.2.2.1, -7) (sWy σ kl S C i s a t (owP σ r dn) (owO σ n r dn) (wyN ((owO σ n r dn).map List.length)) 0 (x.1, x.2.1 + wyN ((owO σ n r dn).map List.length), x.2.2.1, x.2.2.2)) := by
  unfold sSe
  simp only
  rw [hr, hd, cit_T h, cit_F (fun z => z hse), ht]
  rfl
theorem sGo_n {σ : kS} {kl : List Nat} {n S C i : Nat} {a : Nat → Int32} {x : sX} (h : x.2.2.2 ≠ 0) : ∀ m s, sGo σ kl n S C i a m s x = x
  | 0, _ => rfl
  | m + 1, w => by
    rw [sGo, cit_F h]
theorem sWy_pre {σ : kS} {kl : List Nat} {n S C i j s r dn t : Nat} {a : Nat → Int32} : ∀ (m w : Nat) (x : sX), j < x.1.length → j < (sWy σ kl S C i s a t (owP σ r dn) (owO σ n r dn) m w x).1.length ∧ xq (sWy σ kl S C i s a t (owP σ r dn) (owO σ n r dn) m w x).1 j = xq x.1 j
  | 0, _, _, h => ⟨h, rfl⟩
  | m + 1, w, x, h => by
    by_cases q : x.2.2.2 = 0
    · rw [sWy_s q]
      have h1 := sW1_pre (σ := σ) (kl := kl) (n := n) (S := S) (C := C) (i := i) (s := s) (r := r) (dn := dn) (t := t) (w := w) (a := a) h
      have h2 := sWy_pre (σ := σ) (kl := kl) (n := n) (S := S) (C := C) (i := i) (s := s) (r := r) (dn := dn) (t := t) (a := a) m (w + 1) _ h1.1
      exact ⟨h2.1, h2.2.trans h1.2⟩
    · rw [sWy_n q]
      exact ⟨h, rfl⟩
theorem sSe_pre {σ : kS} {kl : List Nat} {n S C i j s : Nat} {a : Nat → Int32} {x : sX} (h : j < x.1.length) : j < (sSe σ kl n S C i s a x).1.length ∧ xq (sSe σ kl n S C i s a x).1 j = xq x.1 j := by
  by_cases q : fN (a (7 * s)) < fN (σ 247 (fN (σ 255 s)))
  · by_cases q2 : σ 249 (6 * fN (σ 255 s) + fN (a (7 * s))) = 0
    · rw [sSe_recv rfl rfl q q2 rfl]
      by_cases q3 : 20000 < x.2.1 + wyN ((owO σ n (fN (σ 255 s)) (fN (a (7 * s)))).map List.length)
      · rw [cit_T q3]
        exact ⟨h, rfl⟩
      · rw [cit_F q3]
        exact sWy_pre _ _ _ h
    · rw [sSe_send rfl rfl q q2]
      exact sRe_pre h
  · rw [sSe_none rfl q]
    exact ⟨h, rfl⟩
theorem iE_re {τ ω : kS} {K K' st n u m : Nat} {l : rwT} (hK : (K = 204 ∧ st = 776) ∨ (K = 213 ∧ st = 1352)) (hK' : K' = 204 ∨ K' = 213) (hne : K ≠ K') (e : reF τ ω K') (h : iE τ K st n u m l) : iE ω K st n u m l ∧ kTr ω l = kTr τ l := by
  have e' : ∀ c, c < 195 ∨ 222 ≤ c → ω c = τ c := fun c hc => e c (by omega) (by omega)
  refine iE_ot h ⟨fun z _ => ?_, e' _ (by decide), fun c c1 c2 => e c ?_ ?_, ?_, e' _ (by decide)⟩ (e' _ (by decide)) (fun t ht => ?_)
  · rw [e' 2 (by decide), e' 3 (by decide), e' 4 (by decide), e' 5 (by decide), e' 6 (by decide)]
    exact ⟨rfl, rfl, rfl, rfl, rfl⟩
  · rcases hK with z | z <;> omega
  · rcases hK with z | z <;> rcases hK' with z' | z' <;> omega
  · unfold mA
    rw [e' 233 (by decide)]
  · have := h.2.2.2.1 t ht
    unfold aT1 at this ⊢
    rw [e' 2 (by decide), e' 3 (by decide), e' 4 (by decide), e' 5 (by decide), e' 8 (by decide), e' 9 (by decide), e' 10 (by decide), e' 11 (by decide), e' 12 (by decide), e' 233 (by decide), e' 234 (by decide), e' 235 (by decide), e' 236 (by decide), e' 237 (by decide), e' 238 (by decide), e' 239 (by decide), e' 240 (by decide), e' 241 (by decide)]
    exact this
/-- here is filled for the STATE a -/
def heP (σ τ : kS) (n S : Nat) (kl : List Nat) (a : Nat → Int32) (mm : Nat) : Prop := ∃ u m2 l, m2 ≤ mm ∧ iE τ 204 776 n u m2 l ∧ kTr τ l = trSt (stI σ a) kl S
set_option maxRecDepth 100000 in
set_option maxHeartbeats 4000000 in
theorem mX_fill (L : Nat) (xs : Nat → Int32) (d : Nat) (σ τ : kS) (n b R S C m0 mm K st A M base : Nat) (kl : List Nat) (x : sX) (a g0 : Nat → Int32) (h : aJ σ n b R S C kl m0) (hX : cX σ τ n R S C x mm) (hmm : mm < 2147483646) (hK : (K = 204 ∧ st = 776) ∨ (K = 213 ∧ st = 1352)) (ha : stF τ A base S = a) (hok : aOk σ n R S a) (hA : kT[A]? = some (.inl (0, M, .inl g0))) (hM : M ≤ 100000) (hA2 : A = 202 ∨ A = 197) (hbm : base + 28 ≤ M) :
    kXM kT L xs (d + 54) 22 [.ref 13, .ref K, .ref A, .int (nI base)] τ (fun r ω => r = none ∧ cX σ ω n R S C x (mm + 1) ∧ nF2 τ ω K st ∧ ∃ u m l, m ≤ mm + 1 ∧ iE ω K st n u m l ∧ kTr ω l = trSt (stI σ a) kl S) := by
  have hK' : isK K st := Or.inr hK
  have hG := hX.1
  have hJ := h.2.1
  have hB : cB τ n R S C := cB_eq (fun c c1 c2 => sF_13 hG.1 c c1 (by omega)) (cB_of hJ)
  obtain ⟨⟨v1, v2, v3, v4, v5, v6⟩, ⟨y1, y2, y3, y4, y5⟩, vh⟩ := vB_of h hG hok
  have hA3 : (A < K ∨ K + 9 ≤ A) ∧ 13 ≤ A ∧ A < 232 := by
    rcases hK with ⟨k1, -⟩ | ⟨k1, -⟩ <;> rcases hA2 with z | z <;> subst k1 z <;> decide
  have hsv : staV (stI τ a) A base S := by
    have := stF_staV τ A base S hA3.2.2
    rw [ha] at this
    exact this
  obtain ⟨m1, q1, q2⟩ : ∃ m1, m1 ≤ mm ∧ kMs τ K m1 := by
    rcases hK with ⟨rfl, rfl⟩ | ⟨rfl, rfl⟩
    · exact hX.2.2.2.2.2.1
    · obtain ⟨u, m3, l, z1, z2⟩ := hX.2.2.2.2.2.2.1
      exact ⟨m3, z1, z2.2.2.2.2.2.1⟩
  have hkw : cKw τ K st := by
    rcases hK with ⟨rfl, rfl⟩ | ⟨rfl, rfl⟩
    · exact hG.2.2.1
    · exact hG.2.2.2.1
  refine kXM_mono (mf_fill L xs d τ (stI τ a) K st n b R S A M base m1 kl g0 hK' (stI_vw τ a) v1 v2 v4 v6 y1 y2 y3 y5 hsv (cT_sF hG.1 hJ.1) hB.1 v3.1 hB.2.1.2.1 hkw q2 (by omega) hA hM hA3 hbm) ?_
  rintro r ω ⟨rfl, u, l, hg, hw, htr⟩
  refine ⟨rfl, cX_K hX hJ.1 hK (by omega) hg, hg.1, u, m1 + 1, l, by omega, hg.2.1, ?_⟩
  rw [htr, trSt_hi (stI_hi (sF_hi hG.1) a)]
set_option maxRecDepth 100000 in
set_option maxHeartbeats 4000000 in
theorem mX_goThrough (L : Nat) (xs : Nat → Int32) (d : Nat) (σ τ : kS) (n b R S C m0 mm i : Nat) (kl : List Nat) (x : sX) (a : Nat → Int32) (h : aJ σ n b R S C kl m0) (hX : cX σ τ n R S C x mm) (hmm : mm < 2147480000) (hi : i < x.1.length) (hai : (xq x.1 i).1 = a) (X : sX) (hXe : X = sGo σ kl n S C i a S 0 x) :
    kXM kT L xs (d + 57) 82 [.ref 195, .int (nI i)] τ (fun q ω => q = none ∧ cX σ ω n R S C X (mm + 4)) := by
  have hT := h.1.1
  have hR := h.1.2.1
  have hJ := h.2.1
  have hn := hT.1
  have hS4 := h.1.2.2.1.1
  have hR4 := hR.1
  have hN6 := hX.2.1.1
  have loop : ∀ q : Nat × Int32 × kS × sX × Nat, (q.1 ≤ S ∧ q.2.2.2.2 ≤ mm + q.1 ∧ cX σ q.2.2.1 n R S C q.2.2.2.1 q.2.2.2.2 ∧ sGo σ kl n S C i a (S - q.1) q.1 q.2.2.2.1 = X ∧ (i < q.2.2.2.1.1.length ∧ (xq q.2.2.2.1.1 i).1 = a) ∧ (q.2.1 = 0 ∨ (q.2.1 = 1 ∧ heP σ q.2.2.1 n S kl a q.2.2.2.2))) → kX kT L xs (d + 57) 82 10 [(4, .int (nI q.1)), (3, .int q.2.1), (2, .int (nI (28 * i))), (0, .ref 195), (1, .int (nI i))] [] q.2.2.1 (fun q ω => q = none ∧ cX σ ω n R S C X (mm + 4)) := by
    refine kX_while (fun q : Nat × Int32 × kS × sX × Nat => [(4, .int (nI q.1)), (3, .int q.2.1), (2, .int (nI (28 * i))), (0, .ref 195), (1, .int (nI i))]) (fun q => q.2.2.1) _ (fun q => S - q.1) ?_
    rintro ⟨s, fl, ω, x1, m1⟩ ⟨j1, jm, j2, j3, ⟨j4, j4'⟩, j5⟩ ih
    dsimp only at j1 jm j2 j3 j4 j4' j5 ih ⊢
    have hG := j2.1
    have hB : cB ω n R S C := cB_eq (fun c c1 c2 => sF_13 hG.1 c c1 (by omega)) (cB_of hJ)
    have hN1 := j2.2.1.1
    have hok : aOk σ n R S a := by
      rw [← j4']
      exact (j2.2.2.2.2.2.2.2.1.2 i j4).1
    have hat : stF ω 197 (28 * i) S = a := by
      rw [← j4']
      exact (j2.2.2.1 i j4).1
    have hatj : ∀ j, j < 7 * S → ω 197 (28 * i + j) = a j := fun j hj => by
      rw [← hat]
      unfold stF
      rw [if_pos hj]
    iterate 4 (refine kX_one rfl ?_)
    refine kX_top (hB.2.1.2.1) ?_
    repeat refine kX_one rfl ?_
    refine kX_if (fun q => ?_) (fun q => ?_)
    · have q := qge q s S
      rw [show S - s = 0 by omega] at j3
      have j3 : x1 = X := j3
      subst j3
      refine kX_ret (i := .return_) (len := 1) rfl (Or.inr rfl) rfl (⟨rfl, cX_up j2 (by omega)⟩)
    · have q := qgeF q s S
      have hs4 : s < 4 := by omega
      have hans := j2.2.2.2.1.2.2.2.2.2
      repeat refine kX_one rfl ?_
      refine kX_if (fun q2 => ?_) (fun q2 => ?_)
      · have q2 : x1.2.2.2 ≠ 0 := fun e => qne q2 (hans.trans e)
        rw [sGo_n q2] at j3
        subst j3
        refine kX_ret (i := .return_) (len := 1) rfl (Or.inr rfl) rfl (⟨rfl, cX_up j2 (by omega)⟩)
      · have q2 : x1.2.2.2 = 0 := hans.symm.trans (qneF q2)
        obtain ⟨m', hm'⟩ : ∃ m', S - s = m' + 1 := ⟨S - s - 1, by omega⟩
        rw [hm', sGo, cit_T q2] at j3
        obtain ⟨r, dn, r1, r2, r3, r4, -⟩ := hok.2.1 s q
        have r3 : a (7 * s) = nI dn := r3
        obtain ⟨-, ev, ev6, ev2⟩ := hR.2.2.1 r r1
        have hfe : fN (σ 247 r) = ev := by rw [ev2]; exact fN_nI (by omega)
        have hfr : fN (σ 255 s) = r := by rw [r2]; exact fN_nI (by omega)
        rw [hfe] at r4
        have hfd : fN (a (7 * s)) = dn := by rw [r3]; exact fN_nI (by omega)
        have hr4 : r < 4 := by omega
        have hlo := sF_lo hG.1
        have hrole : ω 15 s = nI r := by
          rw [hlo 15 (by decide) (by decide)]
          exact (h.2.2.2.2.1 s q).1.trans r2
        have hevc : ω (23 + 35 * r) 5 = nI ev := by
          rw [hlo (23 + 35 * r) (by omega) (by omega)]
          exact (h.2.2.2.1 r r1).2.1.trans ev2
        have k185 : ∀ fl' ρ x2 m3, cX σ ρ n R S C x2 m3 → m3 ≤ mm + (s + 1) → x2 = sSe σ kl n S C i s a x1 → (fl' = 0 ∨ (fl' = 1 ∧ heP σ ρ n S kl a m3)) → ∀ lv, nk lv = true → ([(4, .int (nI s)), (3, .int fl'), (2, .int (nI (28 * i))), (0, .ref 195), (1, .int (nI i))] : jL).map (fun q => jl lv q.1) = ([(4, .int (nI s)), (3, .int fl'), (2, .int (nI (28 * i))), (0, .ref 195), (1, Value.int (nI i))] : jL).map (fun q => some q.2) → kX kT L xs (d + 57) 82 185 lv [] ρ (fun q ω => q = none ∧ cX σ ω n R S C X (mm + 4)) := by
          intro fl' ρ x2 m3 y1 y2 y3 y4 lv hk hlv
          refine kX_lv _ hk rfl hlv ?_
          have hpre := sSe_pre (σ := σ) (kl := kl) (n := n) (S := S) (C := C) (i := i) (s := s) (a := a) j4
          rw [← y3] at hpre
          iterate 2 (refine kX_one rfl ?_)
          have := ih (s + 1, fl', ρ, x2, m3) ⟨q, y2, y1, by simp only; rw [show S - (s + 1) = m' by omega, y3]; exact j3, ⟨hpre.1, by simp only; rw [hpre.2]; exact j4'⟩, y4⟩ (by simp only; omega)
          dsimp only at this
          rw [← nI_1] at this
          exact kX_lv _ rfl rfl rfl this
        iterate 7 (refine kX_one rfl ?_)
        refine kX_cal (mf_due L xs (d + 54) ω n R S 197 16800 (28 * i) s r ev (fun _ => 0) hB.1 hS4 r1 hrole hevc q ev6 rfl (by decide) (by omega)) rfl (Or.inr rfl) rfl rfl rfl (fun r1 σ1 q1 => ?_)
        obtain ⟨hq, rfl⟩ := q1
        rw [hatj (7 * s) (by omega), r3] at hq
        rcases hq with ⟨rfl, hno⟩ | ⟨k, hk, hk2, rfl, -⟩
        · have hnd : ¬ dn < ev := fun z => hno dn z rfl
          iterate 4 (refine kX_one rfl ?_)
          exact k185 fl ω x1 m1 j2 (by omega) (sSe_none hfr (by rw [hfd, hfe]; exact hnd)).symm j5 _ rfl rfl
        · obtain rfl : dn = k := nI_inj hk2
          have hk6 : dn < 6 := by omega
          have b4 := ev_b r dn 4 hr4 hk6 (by decide)
          have hdn : dn < fN (σ 247 r) := by rw [hfe]; exact hk
          obtain ⟨t, t1, t2, -⟩ := hR.2.2.2.2.2 r dn r1 hdn
          have hft : fN (σ 248 (6 * r + dn)) = t := by rw [t2]; exact fN_nI (by omega)
          have hEv := (h.2.2.2.1 r r1).2.2.2.2 dn hdn
          iterate 11 (refine kX_one rfl ?_)
          refine kX_acpyN (n0 := 16800) (n1 := 28) (f0 := fun _ => 0) (g0 := fun _ => 0) rfl rfl rfl rfl rfl rfl (28 * i) 0 28 rfl rfl rfl (by omega) (by decide) (by decide) (by decide) (Nat.zero_le 8) ?_
          iterate 5 (refine kX_one rfl ?_)
          refine kX_top (y := nI (7 * s)) (ix7s s) ?_
          iterate 1 (refine kX_one rfl ?_)
          refine kX_ialdN rfl rfl (by decide) (7 * s) (by first | rfl | decide) (by omega) ?_
          iterate 2 (refine kX_one rfl ?_)
          refine kX_iastN rfl rfl (by decide) (7 * s) (by first | rfl | decide) (by omega) ?_
          have hDj : ∀ j, j < 7 * S → upd (va_cpy (ω 197) (ω 202) (28 * i) 0 28) (7 * s) ((va_cpy (ω 197) (ω 202) (28 * i) 0 28) (7 * s) + Int32.ofInt 1) j = aUp a s j := fun j hj => by
            have hc : ∀ j, j < 7 * S → va_cpy (ω 197) (ω 202) (28 * i) 0 28 j = a j := fun j hj => by
              rw [va_cpy, if_pos (by omega), Nat.sub_zero]
              exact hatj j hj
            unfold aUp
            by_cases e : j = 7 * s
            · subst e
              rw [pk_us, pk_us, hc _ (by omega)]
              rfl
            · rw [pk_un e, pk_un e]
              exact hc j hj
          refine kX_st (va_up ω 202 (upd (va_cpy (ω 197) (ω 202) (28 * i) 0 28) (7 * s) ((va_cpy (ω 197) (ω 202) (28 * i) 0 28) (7 * s) + Int32.ofInt 1))) ?_ ?_
          · funext c; first
              | ((repeat (refine va_case ?_ ?_; (· (intro h; first | (subst h; rfl) | (unfold va_up; repeat' split; (all_goals first | rfl | omega | (subst_vars; rfl) | (funext j; unfold upd; repeat' split; all_goals first | rfl | omega | (subst_vars; rfl)))))); intro h)); (repeat (refine va_case2 ?_ ?_; (· (intro h; first | exact absurd h (by assumption) | (subst h; rfl) | (subst h; funext j; unfold upd; repeat' split; (all_goals first | rfl | omega | (subst_vars; rfl))))); intro h)); rfl)
              | (unfold va_up; repeat' split
                 all_goals first | rfl | omega | (subst_vars; rfl) | (funext j; unfold upd; repeat' split; all_goals first | rfl | omega | (subst_vars; rfl)))
          generalize upd (va_cpy (ω 197) (ω 202) (28 * i) 0 28) (7 * s) ((va_cpy (ω 197) (ω 202) (28 * i) 0 28) (7 * s) + Int32.ofInt 1) = D at *
          have eq1 : ∀ c, c ≠ 202 → c ≠ 222 → c ≠ 229 → c ≠ 230 → c ≠ 231 → va_up ω 202 D c = ω c := fun c c1 _ _ _ _ => up_ne c1
          have hXr : cX σ (va_up ω 202 D) n R S C x1 m1 := cX_q j2 eq1 j2.1.2.2.2.2
          have hDr : ∀ j, j < 7 * S → va_up ω 202 D 202 j = aUp a s j := hDj
          have hher : fl = 0 ∨ (fl = 1 ∧ heP σ (va_up ω 202 D) n S kl a m1) := by
            rcases j5 with z | ⟨z, u, m2, l, z1, z2, z3⟩
            · exact Or.inl z
            · obtain ⟨w1, w2⟩ := iE_q eq1 z2
              exact Or.inr ⟨z, u, m2, l, z1, w1, w2.trans z3⟩
          have hatr : stF (va_up ω 202 D) 197 (28 * i) S = a := hat
          generalize va_up ω 202 D = ρ at *
          have hevr : ρ (28 + 35 * r + 5 * dn) = σ (28 + 35 * r + 5 * dn) := sF_13 hXr.1.1 _ (by omega) (by omega)
          have hstr : stF ρ 202 0 S = aUp a s := by
            funext j
            unfold stF
            by_cases e : j < 7 * S
            · rw [if_pos e, Nat.zero_add]
              exact hDr j e
            · rw [if_neg e]
              unfold aUp
              rw [pk_un (by omega)]
              exact (hok.1 j (by omega)).symm
          iterate 1 (refine kX_one rfl ?_)
          refine kX_getN rfl rfl (kT_ev hr4 hk6) rfl ?_
          repeat refine kX_one rfl ?_
          refine kX_if (fun q3 => ?_) (fun q3 => ?_)
          · have q3 : ρ (28 + 35 * r + 5 * dn) 0 ≠ 0 := qne q3
            rw [hevr] at q3
            have hse : σ 249 (6 * r + dn) ≠ 0 := hEv.2.1.mp q3
            have hSe := sSe_send (σ := σ) (kl := kl) (n := n) (S := S) (C := C) (i := i) (x := x1) hfr hfd hdn hse
            obtain ⟨ok1, ok2⟩ := aOk_up hT hR hok q r1 r2 r3 hdn hse
            iterate 6 (refine kX_one rfl ?_)
            refine kX_top (y := nI (7 * S)) hXr.2.2.2.1.1 ?_
            refine kX_cal (mf_stHas L xs (d + 54) ρ (7 * S) x1.1.length (by omega) hXr.2.1) rfl (Or.inr rfl) rfl rfl rfl (fun r1 σ1 q1 => ?_)
            obtain ⟨rfl, rfl⟩ := q1
            rw [isB_iff (cX_in hXr hstr)]
            by_cases hin2 : ∃ q ∈ x1.1, q.1 = aUp a s
            · rw [isB_T hin2]
              iterate 1 (refine kX_one rfl ?_)
              refine k185 fl ρ x1 m1 hXr (by omega) ?_ hher _ rfl rfl
              rw [hSe]
              unfold sRe
              rw [cit_T hin2]
            · rw [isB_F hin2]
              have k174 : ∀ π m3, cX σ π n R S C x1 m3 → m3 ≤ mm + (s + 1) → (∃ u m4 l, m4 ≤ m3 ∧ iE π 213 1352 n u m4 l ∧ ((∃ c, c < C ∧ σ (163 + 3 * c) 0 ≠ 0) → kTr π l = trSt (stI σ (aUp a s)) kl S)) → stF π 202 0 S = aUp a s → (fl = 0 ∨ (fl = 1 ∧ heP σ π n S kl a m3)) → kX kT L xs (d + 57) 82 174 [(4, .int (nI s)), (3, .int fl), (2, .int (nI (28 * i))), (0, .ref 195), (1, .int (nI i))] [] π (fun q ω => q = none ∧ cX σ ω n R S C X (mm + 4)) := by
                rintro π m3 p1 p2 ⟨u, m4, l, l1, l2, l3⟩ p3 p4
                iterate 5 (refine kX_one rfl ?_)
                refine kX_cal (mX_reach L xs (d + 1) σ π n b R S C m0 m3 213 1352 u m4 kl x1 (aUp a s) l (nI i) (nI s) h p1 (Or.inr ⟨rfl, rfl⟩) l2 l1 p3 ok1 hin2 q2 (Or.inr ⟨i, s, j4, rfl, rfl, by rw [j4']; exact ok2⟩) l3) rfl (Or.inr rfl) rfl rfl rfl (fun r1 κ q1 => ?_)
                obtain ⟨rfl, hXk, -, hre⟩ := q1
                refine k185 fl κ _ m3 hXk p2 hSe.symm ?_ _ rfl rfl
                rcases p4 with z | ⟨z, u2, m2, l2, z1, z2, z3⟩
                · exact Or.inl z
                · obtain ⟨w1, w2⟩ := iE_re (Or.inl ⟨rfl, rfl⟩) (Or.inr rfl) (by decide) hre z2
                  exact Or.inr ⟨z, u2, m2, l2, z1, w1, w2.trans z3⟩
              have hsec := hXr.2.2.2.1.2.1
              iterate 3 (refine kX_one rfl ?_)
              repeat refine kX_one rfl ?_
              refine kX_if (fun q4 => ?_) (fun q4 => ?_)
              · have q4 : ¬ ∃ c, c < C ∧ σ (163 + 3 * c) 0 ≠ 0 := fun z => isB_ne.mpr z (hsec.symm.trans (qeq q4))
                obtain ⟨u, m4, l, l1, l2⟩ := hXr.2.2.2.2.2.2.1
                exact kX_lv _ rfl rfl rfl (k174 ρ m1 hXr (by omega) ⟨u, m4, l, l1, l2, fun z => absurd z q4⟩ hstr hher)
              · iterate 7 (refine kX_one rfl ?_)
                refine kX_cal (mX_fill L xs (d + 2) σ ρ n b R S C m0 m1 213 1352 202 28 0 kl x1 (aUp a s) (fun _ => 0) h hXr (by omega) (Or.inr ⟨rfl, rfl⟩) hstr ok1 rfl (by decide) (Or.inl rfl) (by decide)) rfl (Or.inr rfl) rfl rfl rfl (fun r1 π q1 => ?_)
                obtain ⟨rfl, hXp, hF, u, m4, l, l1, l2, l3⟩ := q1
                refine kX_lv _ rfl rfl rfl (k174 π (m1 + 1) hXp (by omega) ⟨u, m4, l, l1, l2, fun _ => l3⟩ ?_ ?_)
                · rw [← hstr]
                  unfold stF
                  rw [hF.1.1 202 (by decide) (by decide) (by decide) (by decide) (by decide) (by decide)]
                · rcases hher with z | ⟨z, u2, m2, l2', z1, z2, z3⟩
                  · exact Or.inl z
                  · obtain ⟨w1, w2⟩ := iE_ot z2 (nF2_ot (Or.inr (Or.inl ⟨rfl, rfl⟩)) (Or.inr (Or.inr ⟨rfl, rfl⟩)) (by decide) hF hn z2.2.2.2.2.1.1) (hF.1.1 1 (by decide) (by decide) (by decide) (by decide) (by decide) (by decide)) l2.2.2.2.1
                    exact Or.inr ⟨z, u2, m2, l2', by omega, w1, w2.trans z3⟩
          · have q3 : ρ (28 + 35 * r + 5 * dn) 0 = 0 := qneF q3
            rw [hevr] at q3
            have hse : σ 249 (6 * r + dn) = 0 := Classical.byContradiction (fun z => hEv.2.1.mpr z q3)
            have k121 : ∀ π m3, cX σ π n R S C x1 m3 → m3 ≤ mm + (s + 1) → heP σ π n S kl a m3 → (∀ j, j < 7 * S → π 202 j = aUp a s j) → kX kT L xs (d + 57) 82 121 [(5, .ref (28 + 35 * r + 5 * dn)), (4, .int (nI s)), (3, .int 1), (2, .int (nI (28 * i))), (0, .ref 195), (1, .int (nI i))] [] π (fun q ω => q = none ∧ cX σ ω n R S C X (mm + 4)) := by
              rintro π m3 p1 p2 ⟨u, m2, l, l1, l2, l3⟩ p3
              iterate 4 (refine kX_one rfl ?_)
              refine kX_cal (mX_tryWays L xs d σ π n b R S C m0 m3 i s r dn t u m2 _ kl x1 a l h p1 l2 l1 j4 j4' q r1 r2 r3 hdn hse t1 t2 l3 p3 q2 rfl _ rfl) rfl (Or.inr rfl) rfl rfl rfl (fun r1 κ q1 => ?_)
              obtain ⟨rfl, hXk, hEk, hTk⟩ := q1
              iterate 1 (refine kX_one rfl ?_)
              exact k185 1 κ _ m3 hXk p2 (sSe_recv hfr hfd hdn hse hft).symm (Or.inr ⟨rfl, u, m2, l, l1, hEk, hTk⟩) _ rfl rfl
            repeat refine kX_one rfl ?_
            refine kX_if (fun q4 => ?_) (fun q4 => ?_)
            · rcases hher with z | ⟨z, z2⟩
              · exact absurd z (qne q4)
              · subst z
                exact kX_lv _ rfl rfl rfl (k121 ρ m1 hXr (by omega) z2 hDr)
            · iterate 8 (refine kX_one rfl ?_)
              refine kX_cal (mX_fill L xs (d + 2) σ ρ n b R S C m0 m1 204 776 197 16800 (28 * i) kl x1 a (fun _ => 0) h hXr (by omega) (Or.inl ⟨rfl, rfl⟩) hatr hok rfl (by decide) (Or.inr rfl) (by omega)) rfl (Or.inr rfl) rfl rfl rfl (fun r1 π q1 => ?_)
              obtain ⟨rfl, hXp, hF, u, m4, l, l1, l2, l3⟩ := q1
              iterate 2 (refine kX_one rfl ?_)
              refine kX_lv _ rfl rfl rfl (k121 π (m1 + 1) hXp (by omega) ⟨u, m4, l, l1, l2, l3⟩ (fun j hj => ?_))
              rw [hF.1.1 202 (by decide) (by decide) (by decide) (by decide) (by decide) (by decide)]
              exact hDr j hj
  unfold kXM
  iterate 3 (refine kX_one rfl ?_)
  refine kX_top (y := nI (28 * i)) (ix28 i) ?_
  iterate 5 (refine kX_one rfl ?_)
  exact kX_lv _ rfl rfl rfl (loop (0, 0, τ, x, mm) ⟨Nat.zero_le _, by simp only; omega, hX, hXe.symm, ⟨hi, hai⟩, Or.inl rfl⟩)
end
section
/-! alike: the class's search -/
theorem opL_hi {σ τ : kS} (e : ∀ c, 232 ≤ c → τ c = σ c) (so : Nat) : ∀ n, opL τ so n = opL σ so n
  | 0 => rfl
  | n + 1 => by
    rw [opL_1, opL_1, opL_hi e so n]
    have : gS τ so n = gS σ so n := by
      unfold gS
      rw [e 233 (by decide), e 234 (by decide), e 235 (by decide)]
    rw [this]
/-- the first STATE -/
theorem a0_ok {σ : kS} {n b R S C m : Nat} {kl : List Nat} (h : aJ σ n b R S C kl m) : aOk σ n R S (stF σ 17 0 S) ∧ ∀ s, s < S → stF σ 17 0 S (7 * s) = 0 := by
  have hat : ∀ j, j < 7 * S → stF σ 17 0 S j = σ 17 j := fun j hj => by
    unfold stF
    rw [if_pos hj, Nat.zero_add]
  have hD : ∀ s, s < S → aD (stF σ 17 0 S) s = 0 := fun s hs => by
    show stF σ 17 0 S (7 * s) = 0
    rw [hat _ (by omega)]
    exact (h.2.2.2.2.1 s hs).2.1
  have hV : ∀ s k, s < S → k < 6 → aV (stF σ 17 0 S) (6 * s + k) = if k < fN (σ 244 (fN (σ 255 s))) then σ 256 (6 * s + k) else -6 := fun s k hs hk => by
    rw [aV_at _ hk, hat _ (by omega)]
    exact (h.2.2.2.2.1 s hs).2.2.1 k hk
  have hc := se_cfg (D := aD (stF σ 17 0 S)) (V := aV (stF σ 17 0 S)) h.1.1 h.1.2.1 h.1.2.2.1 hD hV
  refine ⟨⟨fun i hi => if_neg (by omega), hc, fun s k hs hk => ?_⟩, hD⟩
  rw [hat _ (by omega)]
  have := h.2.1.2.2.1.2.2.2 s k hs hk
  rw [show 0 + 7 * s + 1 + k = 7 * s + 1 + k by omega] at this
  rcases this with q | ⟨z, z1, z2, -⟩
  · exact Or.inl q
  · exact Or.inr ⟨z, z1, z2⟩
theorem sWi_0 {τ : kS} {wd : Nat} (h1 : τ 196 5 = 0) (h2 : ∀ s, s < 1024 → τ 201 s = -1) : sWi τ wd 0 := ⟨by decide, h1, fun s hs => Or.inl ⟨h2 s hs, fun t _ z => absurd z.1 (Nat.not_lt_zero t)⟩, fun t ht => absurd ht (Nat.not_lt_zero t)⟩
set_option maxRecDepth 100000 in
set_option maxHeartbeats 4000000 in
theorem mX_start (L : Nat) (xs : Nat → Int32) (d : Nat) (σ : kS) (n b R S C m0 : Nat) (kl : List Nat) (h : aJ σ n b R S C kl m0) (hm : m0 < 2147480000) (X : sX) (hXe : X = sRe σ kl S C ([], 0, 0, 0) (stF σ 17 0 S) (-1) (-1)) : kXM kT L xs (d + 56) 80 [.ref 195] σ (fun q ω => q = none ∧ cX σ ω n R S C X (m0 + 1)) := by
  have hJ := h.2.1
  have hT := hJ.1
  have hS4 := hJ.2.2.1.1
  have hn := h.1.1.1
  obtain ⟨ok0, ok1⟩ := a0_ok h
  obtain ⟨m1, m2, m3, e1, e2, e3, k1, k2, k3⟩ := h.2.2.2.2.2.2.2.2.2
  unfold kXM
  iterate 1 (refine kX_one rfl ?_)
  refine kX_cal (mf_forget L xs (d + 52) σ) rfl (Or.inr rfl) rfl rfl rfl (fun r1 τ q1 => ?_)
  obtain ⟨rfl, f1, f2, f4, f5, f6, f7, f3⟩ := q1
  have hT1 : cT τ n := cT_eq (by rw [f3 1 (by decide) (by decide) (by decide)]) (f3 _ (by decide) (by decide) (by decide)) (fun u _ => ⟨by rw [f3 2 (by decide) (by decide) (by decide)], by rw [f3 3 (by decide) (by decide) (by decide)], by rw [f3 4 (by decide) (by decide) (by decide)], by rw [f3 8 (by decide) (by decide) (by decide)], by rw [f3 12 (by decide) (by decide) (by decide)], by rw [f3 6 (by decide) (by decide) (by decide)]⟩) hT
  have hi1 : ∀ c, 232 ≤ c → τ c = σ c := fun c hc => f3 c (by omega) (by omega) (by omega)
  have hM1 : mTb τ n b := (mI_hi hi1 h.1).1
  have hA1 : ∀ t, t < n → aT1 τ t := aT1_sF hn (sF_of (fun c hc => f3 c (by omega) (by omega) (by omega))) (fun j _ => by rw [f3 5 (by decide) (by decide) (by decide)]) h.2.2.1.1
  iterate 2 (refine kX_one rfl ?_)
  refine kX_cal (mf_listOptions L xs (d + 53) τ n b hT1 hM1 hA1) rfl (Or.inr rfl) rfl rfl rfl (fun r1 ω q1 => ?_)
  obtain ⟨rfl, o1, o2⟩ := q1
  have o2 : cOL ω (fun so => opL σ so n) := fun so hso => by
    have := o2 so hso
    dsimp only at this ⊢
    rw [opL_hi hi1] at this
    exact this
  have e0 : ∀ c, c ≠ 195 → c ≠ 196 → c ≠ 201 → c < 224 ∨ 229 ≤ c → ω c = σ c := fun c c1 c2 c3 c4 => (o1 c c4).trans (f3 c c1 c2 c3)
  have w195 : ω 195 = τ 195 := o1 195 (by decide)
  have hsc : ω 13 6 = nI S := by
    rw [e0 13 (by decide) (by decide) (by decide) (by decide)]
    exact hJ.2.2.1.2.1
  iterate 4 (refine kX_one rfl ?_)
  refine kX_top (hsc) ?_
  iterate 2 (refine kX_one rfl ?_)
  refine kX_top (y := nI (7 * S)) (ix7s S) ?_
  iterate 1 (refine kX_one rfl ?_)
  generalize hρ : va_up ω 195 (upd (ω 195) 6 (nI (7 * S))) = ρ
  have g0 : ∀ c, c ≠ 195 → ρ c = ω c := fun c hc => by rw [← hρ]; exact up_ne hc
  have g1 : ∀ j, j ≠ 6 → ρ 195 j = τ 195 j := fun j hj => by rw [← hρ, up_eq, pk_un hj, w195]
  have g2 : ρ 195 6 = nI (7 * S) := by rw [← hρ, up_eq, pk_us]
  have hCl : cCl ρ C := cCl_eq (by rw [g0 13 (by decide), e0 13 (by decide) (by decide) (by decide) (by decide)]) (fun c c1 c2 => (g0 c (by omega)).trans (e0 c (by omega) (by omega) (by omega) (by omega))) hJ.2.2.2.1
  have hC6 := hCl.1
  iterate 3 (refine kX_one rfl ?_)
  refine kX_cal (mf_hasSecrets L xs (d + 54) ρ C hCl) rfl (Or.inr rfl) rfl rfl rfl (fun r1 σ1 q1 => ?_)
  obtain ⟨rfl, rfl⟩ := q1
  have hsec : (∃ c, c < C ∧ ρ (163 + 3 * c) 0 ≠ 0) ↔ (∃ c, c < C ∧ σ (163 + 3 * c) 0 ≠ 0) := exists_congr (fun c => and_congr_right (fun hc => by rw [g0 (163 + 3 * c) (by omega), e0 (163 + 3 * c) (by omega) (by omega) (by omega) (by omega)]))
  rw [isB_iff hsec]
  have k36 : ∀ v, v = isB (∃ c, c < C ∧ σ (163 + 3 * c) 0 ≠ 0) → kX kT L xs (d + 56) 80 36 [(0, .ref 195)] [] (va_up ρ 195 (upd (ρ 195) 7 v)) (fun q ω => q = none ∧ cX σ ω n R S C X (m0 + 1)) := by
    intro v hv
    iterate 8 (refine kX_one rfl ?_)
    refine kX_acpyN (n0 := 28) (n1 := 28) (f0 := fun _ => 0) (g0 := fun _ => 0) rfl rfl rfl rfl rfl rfl 0 0 28 rfl rfl rfl (by decide) (by decide) (by decide) (by decide) (Nat.zero_le 8) ?_
    refine kX_st (va_up (va_up ρ 195 (upd (ρ 195) 7 v)) 202 (va_cpy (ρ 17) (ρ 202) 0 0 28)) rfl ?_
    have x0 : ∀ c, c ≠ 195 → c ≠ 202 → va_up (va_up ρ 195 (upd (ρ 195) 7 v)) 202 (va_cpy (ρ 17) (ρ 202) 0 0 28) c = ω c := fun c c1 c2 => by
      rw [up_ne c2, up_ne c1]
      exact g0 c c1
    have x1 : ∀ j, j ≠ 7 → va_up (va_up ρ 195 (upd (ρ 195) 7 v)) 202 (va_cpy (ρ 17) (ρ 202) 0 0 28) 195 j = ρ 195 j := fun j hj => by
      rw [up_ne (by decide), up_eq, pk_un hj]
    have x2 : va_up (va_up ρ 195 (upd (ρ 195) 7 v)) 202 (va_cpy (ρ 17) (ρ 202) 0 0 28) 195 7 = v := by
      rw [up_ne (by decide), up_eq, pk_us]
    have x3 : stF (va_up (va_up ρ 195 (upd (ρ 195) 7 v)) 202 (va_cpy (ρ 17) (ρ 202) 0 0 28)) 202 0 S = stF σ 17 0 S := by
      funext j
      unfold stF
      by_cases hj : j < 7 * S
      · rw [if_pos hj, if_pos hj, up_eq, va_cpy, if_pos (by omega), g0 17 (by decide), e0 17 (by decide) (by decide) (by decide) (by decide)]
        congr 1
        omega
      · rw [if_neg hj, if_neg hj]
    generalize va_up (va_up ρ 195 (upd (ρ 195) 7 v)) 202 (va_cpy (ρ 17) (ρ 202) 0 0 28) = π at *
    have z0 : ∀ c, c ≠ 195 → c ≠ 196 → c ≠ 201 → c ≠ 202 → c < 224 ∨ 229 ≤ c → π c = σ c := fun c c1 c2 c3 c4 c5 => (x0 c c1 c4).trans (e0 c c1 c2 c3 c5)
    have z' : ∀ c, c < 195 ∨ (202 < c ∧ c < 224) ∨ 229 ≤ c → π c = σ c := fun c hc => z0 c (by omega) (by omega) (by omega) (by omega) (by omega)
    have hgt : ∀ g, 200 ≤ g → π 2 g = σ 2 g ∧ π 3 g = σ 3 g ∧ π 4 g = σ 4 g ∧ π 6 g = σ 6 g := fun g _ => by
      rw [z' 2 (by decide), z' 3 (by decide), z' 4 (by decide), z' 6 (by decide)]
      exact ⟨rfl, rfl, rfl, rfl⟩
    have hG : cGx σ π := ⟨sF_of (fun c hc => z' c (by omega)), fun j _ => by rw [z' 5 (by decide)], cKw_eq (by decide) (z' _ (by decide)) (z' _ (by decide)) (z' _ (by decide)) hgt hJ.2.2.2.2.2.2.1, cKw_eq (by decide) (z' _ (by decide)) (z' _ (by decide)) (z' _ (by decide)) hgt hJ.2.2.2.2.2.2.2.1, cQ_eq (z' _ (by decide)) (z' _ (by decide)) hJ.2.2.2.2.2.2.2.2.2.2⟩
    have hB : cB π n R S C := cB_eq (fun c c1 c2 => sF_13 hG.1 c c1 (by omega)) (cB_of hJ)
    obtain ⟨⟨v1, v2, v3, v4, v5, v6⟩, ⟨y1, y2, y3, y4, y5⟩, vh⟩ := vB_of h hG ok0
    have hsv : staV (stI π (stF σ 17 0 S)) 202 0 S := by
      have := stF_staV π 202 0 S (by decide)
      rw [x3] at this
      exact this
    have hK3 : kMs π 213 m3 := kMs_eq (fun c c1 c2 => z' c (by omega)) k3
    have hK2 : kMs π 204 m2 := kMs_eq (fun c c1 c2 => z' c (by omega)) k2
    iterate 7 (refine kX_one rfl ?_)
    refine kX_cal (mf_fill L xs (d + 1) π (stI π (stF σ 17 0 S)) 213 1352 n b R S 202 28 0 m3 kl (fun _ => 0) (Or.inr (Or.inr ⟨rfl, rfl⟩)) (stI_vw π _) v1 v2 v4 v6 y1 y2 y3 y5 hsv (cT_sF hG.1 hT) hB.1 hS4 hB.2.1.2.1 hG.2.2.2.1 hK3 (by omega) rfl (by decide) (by decide) (by decide)) rfl (Or.inr rfl) rfl rfl rfl (fun r1 κ q1 => ?_)
    obtain ⟨rfl, u, l, hg, hw, htr⟩ := q1
    have hF := hg.1
    have hE := hg.2.1
    rw [trSt_hi (stI_hi (sF_hi hG.1) _)] at htr
    have hc : ∀ c, 7 ≤ c → c < 213 ∨ 222 ≤ c → κ c = π c := fun c a b => hF.1.1 c (by omega) (by omega) (by omega) (by omega) (by omega) (by omega)
    have hs' : sF π κ := ⟨fun c a1 a2 a3 a4 a5 a6 => hF.1.1 c (by omega) a2 a3 a4 a5 a6, fun j hj => hF.1.2 j (by omega)⟩
    have hTk : cT κ n := cT_nF (Or.inr (Or.inr ⟨rfl, rfl⟩)) hF.1 (cT_sF hG.1 hT)
    have hX0 : cX σ κ n R S C ([], 0, 0, 0) (m0 + 1) := by
      refine ⟨⟨sF_trans hG.1 hs', fun j hj => (hF.2 j (by omega)).trans (hG.2.1 j hj), ?_, nW_w (iE_nW hE hTk hg.2.2.2), cQ_eq (hc _ (by decide) (by decide)) (hc _ (by decide) (by decide)) hG.2.2.2.2⟩, sWi_0 ?_ (fun s hs => ?_), fun i hi => absurd hi (Nat.not_lt_zero i), ⟨?_, ?_, ?_, by decide, ?_, ?_⟩, fun so hso => ?_, ⟨m2, by omega, kMs_eq (fun c c1 c2 => hc c (by omega) (by omega)) hK2⟩, ⟨u, m3 + 1, l, by omega, hE⟩, xOk_nil σ n R S, fun _ => ?_, fun z => absurd rfl z⟩
      · exact cKw_eq2 (hc _ (by decide) (by decide)) (hc _ (by decide) (by decide)) (hc _ (by decide) (by decide)) (fun g g1 g2 => hF.1.2 g (by omega)) hG.2.2.1
      · rw [hc 196 (by decide) (by decide), x0 196 (by decide) (by decide), o1 196 (by decide)]
        exact f1
      · rw [hc 201 (by decide) (by decide), x0 201 (by decide) (by decide), o1 201 (by decide)]
        exact f7 s hs
      · rw [hc 195 (by decide) (by decide), x1 _ (by decide)]
        exact g2
      · rw [hc 195 (by decide) (by decide), x2]
        exact hv
      · rw [hc 195 (by decide) (by decide), x1 _ (by decide), g1 _ (by decide)]
        exact f4
      · rw [hc 195 (by decide) (by decide), x1 _ (by decide), g1 _ (by decide)]
        exact f5
      · rw [hc 195 (by decide) (by decide), x1 _ (by decide), g1 _ (by decide)]
        exact f6
      · rw [hc 228 (by decide) (by decide), hc (224 + so) (by omega) (by omega), x0 228 (by decide) (by decide), x0 (224 + so) (by omega) (by omega)]
        exact o2 so hso
      · rw [hc 195 (by decide) (by decide), x1 _ (by decide), g1 _ (by decide)]
        exact f2
    have hst : stF κ 202 0 S = stF σ 17 0 S := by
      rw [← x3]
      unfold stF
      rw [hc 202 (by decide) (by decide)]
    iterate 5 (refine kX_one rfl ?_)
    refine kX_cal (mX_reach L xs d σ κ n b R S C m0 (m0 + 1) 213 1352 u (m3 + 1) kl ([], 0, 0, 0) (stF σ 17 0 S) l _ _ h hX0 (Or.inr ⟨rfl, rfl⟩) hE (by omega) hst ok0 (fun ⟨q, z, _⟩ => absurd z List.not_mem_nil) rfl (Or.inl ⟨rfl, ok1⟩) (fun _ => htr)) rfl (Or.inr rfl) rfl rfl rfl (fun r1 μ q1 => ?_)
    obtain ⟨rfl, hXk, -, -⟩ := q1
    have hXk : cX σ μ n R S C X (m0 + 1) := by
      rw [hXe]
      exact hXk
    refine kX_ret (i := .return_) (len := 1) rfl (Or.inr rfl) rfl (⟨rfl, hXk⟩)
  by_cases hse : ∃ c, c < C ∧ σ (163 + 3 * c) 0 ≠ 0
  · rw [isB_T hse]
    iterate 1 (refine kX_one rfl ?_)
    exact kX_lv _ rfl rfl rfl (k36 _ (isB_T hse).symm)
  · rw [isB_F hse]
    iterate 1 (refine kX_one rfl ?_)
    exact kX_lv _ rfl rfl rfl (k36 _ (isB_F hse).symm)
set_option maxRecDepth 100000 in
set_option maxHeartbeats 4000000 in
theorem mX_goesOn (L : Nat) (xs : Nat → Int32) (d : Nat) (τ : kS) (N i : Nat) (an : Int32) (hN : N ≤ 600) (hi : i ≤ 600) (hc : τ 196 5 = nI N) (ha : τ 195 12 = an) : kXM kT L xs (d + 1) 81 [.ref 195, .int (nI i)] τ (fun q ω => q = some (.int (isB (an = 0 ∧ i < N))) ∧ τ = ω) := by
  unfold kXM
  repeat refine kX_one rfl ?_
  refine kX_if (fun q => ?_) (fun q => ?_)
  · have q : an ≠ 0 := fun e => qne q (ha.trans e)
    have e : isB (an = 0 ∧ i < N) = 0 := isB_F (fun z => q z.1)
    repeat refine kX_one rfl ?_
    refine kX_ret (i := .ireturn) (len := 1) rfl (Or.inr rfl) rfl (⟨by rw [e]; rfl, rfl⟩)
  · have q : an = 0 := ha.symm.trans (qneF q)
    iterate 4 (refine kX_one rfl ?_)
    refine kX_top (hc) ?_
    repeat refine kX_one rfl ?_
    refine kX_if (fun q2 => ?_) (fun q2 => ?_)
    · have q2 := qge q2 i N
      have e : isB (an = 0 ∧ i < N) = 0 := isB_F (fun z => by omega)
      repeat refine kX_one rfl ?_
      refine kX_ret (i := .ireturn) (len := 1) rfl (Or.inr rfl) rfl (⟨by rw [e]; rfl, rfl⟩)
    · have q2 := qgeF q2 i N
      have e : isB (an = 0 ∧ i < N) = 1 := isB_T ⟨q, q2⟩
      repeat refine kX_one rfl ?_
      refine kX_ret (i := .ireturn) (len := 1) rfl (Or.inr rfl) rfl (⟨by rw [e]; rfl, rfl⟩)
set_option maxRecDepth 100000 in
set_option maxHeartbeats 4000000 in
theorem mX_search (L : Nat) (xs : Nat → Int32) (d : Nat) (σ : kS) (n b R S C m0 : Nat) (kl : List Nat) (h : aJ σ n b R S C kl m0) (hm : m0 < 2147470000) (X : sX) (hXe : X = sSr σ kl n S C (stF σ 17 0 S)) : kXM kT L xs (d + 58) 132 [.ref 0] σ (fun r ω => r = some (.int X.2.2.2) ∧ cX σ ω n R S C X (m0 + 2401)) := by
  have loop : ∀ q : Nat × kS × sX, (q.1 ≤ 600 ∧ cX σ q.2.1 n R S C q.2.2 (m0 + 1 + 4 * q.1) ∧ sAll σ kl n S C (600 - q.1) q.1 q.2.2 = X) → kX kT L xs (d + 58) 132 9 [(1, .int (nI q.1)), (0, .ref 0)] [] q.2.1 (fun r ω => r = some (.int X.2.2.2) ∧ cX σ ω n R S C X (m0 + 2401)) := by
    refine kX_while (fun q : Nat × kS × sX => [(1, .int (nI q.1)), (0, .ref 0)]) (fun q => q.2.1) _ (fun q => 600 - q.1) ?_
    rintro ⟨i, ω, x⟩ ⟨i1, i2, i3⟩ ih
    dsimp only at i1 i2 i3 ih ⊢
    have hans := i2.2.2.2.1.2.2.2.2.2
    have fin : x = X → ∀ lv, nk lv = true → ([(0, .ref 0)] : jL).map (fun q => jl lv q.1) = ([(0, Value.ref 0)] : jL).map (fun q => some q.2) → kX kT L xs (d + 58) 132 41 lv [] ω (fun r ω => r = some (.int X.2.2.2) ∧ cX σ ω n R S C X (m0 + 2401)) := by
      intro e lv hk hlv
      refine kX_lv _ hk rfl hlv ?_
      subst e
      iterate 3 (refine kX_one rfl ?_)
      refine kX_top (y := x.2.2.2) hans ?_
      refine kX_ret (i := .ireturn) (len := 1) rfl (Or.inr rfl) rfl (⟨rfl, cX_up i2 (by omega)⟩)
    repeat refine kX_one rfl ?_
    refine kX_if (fun q => ?_) (fun q => ?_)
    · have q := qge q i 600
      rw [show 600 - i = 0 by omega] at i3
      exact fin i3 _ rfl rfl
    · have q := qgeF q i 600
      obtain ⟨m', hm'⟩ : ∃ m', 600 - i = m' + 1 := ⟨600 - i - 1, by omega⟩
      rw [hm', sAll] at i3
      iterate 3 (refine kX_one rfl ?_)
      refine kX_cal (mX_goesOn L xs (d + 56) ω x.1.length i x.2.2.2 i2.2.1.1 i1 i2.2.1.2.1 hans) rfl (Or.inr rfl) rfl rfl rfl (fun r1 σ1 q1 => ?_)
      obtain ⟨rfl, rfl⟩ := q1
      by_cases hg : x.2.2.2 = 0 ∧ i < x.1.length
      · rw [isB_T hg]
        rw [cit_T hg] at i3
        iterate 4 (refine kX_one rfl ?_)
        refine kX_cal (mX_goThrough L xs d σ ω n b R S C m0 (m0 + 1 + 4 * i) i kl x _ h i2 (by omega) hg.2 rfl _ rfl) rfl (Or.inr rfl) rfl rfl rfl (fun r1 ρ q1 => ?_)
        obtain ⟨rfl, hX2⟩ := q1
        iterate 2 (refine kX_one rfl ?_)
        have := ih (i + 1, ρ, _) ⟨q, cX_up hX2 (by simp only; omega), by simp only; rw [show 600 - (i + 1) = m' by omega]; exact i3⟩ (by simp only; omega)
        dsimp only at this
        rw [← nI_1] at this
        exact kX_lv _ rfl rfl rfl this
      · rw [isB_F hg]
        rw [cit_F hg] at i3
        iterate 1 (refine kX_one rfl ?_)
        exact fin i3 _ rfl rfl
  unfold kXM
  iterate 2 (refine kX_one rfl ?_)
  refine kX_cal (mX_start L xs (d + 1) σ n b R S C m0 kl h (by omega) _ rfl) rfl (Or.inr rfl) rfl rfl rfl (fun r1 τ q1 => ?_)
  obtain ⟨rfl, hI⟩ := q1
  iterate 2 (refine kX_one rfl ?_)
  exact kX_lv _ rfl rfl rfl (loop (0, τ, _) ⟨Nat.zero_le _, hI, hXe.symm⟩)
end
section
/-! alike: the reference in THE SEARCH -/
/-- the STATES, as the reference has them -/
def mSx (τ : kS) (S : Nat) (l : xT) : Prop := ∀ i, i < l.length → (∀ s, s < S → stD τ i s = aD (xq l i).1 s) ∧ (∀ s k, s < S → k < 6 → stV τ i (6 * s + k) = aV (xq l i).1 (6 * s + k)) ∧ τ 286 i = (xq l i).2.1 ∧ τ 287 i = (xq l i).2.2
def mY (σ τ : kS) (n R S : Nat) (x : sX) : Prop := mSf σ τ n ∧ (∃ b, mTb τ n b) ∧ mSs τ n R S x.1.length ∧ mSx τ S x.1 ∧ (τ 232 70 = nI x.2.1 ∧ x.2.1 ≤ 20001 ∧ τ 232 71 = nI x.2.2.1) ∧ xOk σ n R S x.1
/-- the answer, as the reference tells it -/
def rY (C : Nat) (x : sX) (r : Option Value) : Prop := (x.2.2.2 = 0 ∧ r = some (.int (-6))) ∨ (x.2.2.2 = -7 ∧ r = some (.int (-7))) ∨ ∃ c, c < C ∧ x.2.2.2 = nI (1 + c) ∧ r = some (.int (nI c)) ∧ 0 < x.1.length
/-- the STATE a stands in doing and value -/
def aSt (τ : kS) (S : Nat) (a : Nat → Int32) : Prop := (∀ s, s < S → τ 264 s = aD a s) ∧ ∀ s k, s < S → k < 6 → τ 265 (6 * s + k) = aV a (6 * s + k)
/-- the row is tr -/
def rwY (τ : kS) (n : Nat) (tr : trT) : Prop := ∃ b l, b ≤ 776 ∧ mTb τ n b ∧ mRq τ (mvG τ n b) l ∧ mJd τ n b l ∧ rwM τ l = tr
theorem nnI_cs {n z : Nat} {x : Int32} (hn : n ≤ 200) (h : x = -1 ∨ ∃ z, z < n ∧ x = nI z) : (x = -1 ∧ nnI x = -6) ∨ ∃ z, z < n ∧ x = nI z ∧ nnI x = nI z := by
  rcases h with q | ⟨z, z1, z2⟩
  · refine Or.inl ⟨q, ?_⟩
    rw [q]
    rfl
  · refine Or.inr ⟨z, z1, z2, ?_⟩
    rw [z2]
    exact nnI_nI (by omega)
theorem aOk_eq {σ : kS} {n R S : Nat} {a a' : Nat → Int32} (hn : n ≤ 200) (h : aOk σ n R S a) (h' : aOk σ n R S a') : a = a' ↔ ∀ s, s < S → aD a s = aD a' s ∧ ∀ k, k < 6 → aV a (6 * s + k) = aV a' (6 * s + k) := by
  refine ⟨fun e s _ => by rw [e]; exact ⟨rfl, fun _ _ => rfl⟩, fun e => ?_⟩
  funext i
  by_cases hi : i < 7 * S
  · have hs : i / 7 < S := by omega
    by_cases q : i % 7 = 0
    · have := (e (i / 7) hs).1
      unfold aD at this
      rw [show 7 * (i / 7) = i by omega] at this
      exact this
    · have := (e (i / 7) hs).2 (i % 7 - 1) (by omega)
      rw [aV_at _ (by omega), aV_at _ (by omega), show 7 * (i / 7) + 1 + (i % 7 - 1) = i by omega] at this
      have c1 := h.2.2 (i / 7) (i % 7 - 1) hs (by omega)
      have c2 := h'.2.2 (i / 7) (i % 7 - 1) hs (by omega)
      rw [show 7 * (i / 7) + 1 + (i % 7 - 1) = i by omega] at c1 c2
      rcases nnI_cs (z := 0) hn c1 with ⟨q1, q2⟩ | ⟨z, z1, z2, z3⟩ <;> rcases nnI_cs (z := 0) hn c2 with ⟨p1, p2⟩ | ⟨w, w1, w2, w3⟩
      · rw [q1, p1]
      · rw [q2, w3] at this
        exact absurd (show nI w < 0 by rw [← this]; decide) (nI_pos (by omega))
      · rw [z3, p2] at this
        exact absurd (show nI z < 0 by rw [this]; decide) (nI_pos (by omega))
      · rw [z3, w3] at this
        rw [z2, w2, this]
  · rw [h.1 i (by omega), h'.1 i (by omega)]
theorem mSf_eqC {σ τ : kS} {n : Nat} {a : Nat → Int32} (h : mSf σ τ n) : eqC (stI σ a) τ sxC := eqC_of (P := fun c => c ∉ rowC ∧ c ∉ srX ∧ c ≠ 264 ∧ c ≠ 265) (fun c q => by rw [stI_lo σ a q.2.2.1 q.2.2.2]; exact h.1 c q.1 q.2.1) _ (by decide)
/-- the row of the STATE that stands -/
theorem tr_st {σ τ : kS} {n b R S C : Nat} {kl : List Nat} {a : Nat → Int32} (hT : mTb σ n b) (hB : mBs σ n R S C kl) (hF : mSf σ τ n) (ha : aOk σ n R S a) (hs : aSt τ S a) : trSt τ kl S = trSt (stI σ a) kl S := trSt_cg (σ := stI σ a) (b := b) hT hB.1 hB.2.2.1 (aOk_Sv hT hB.1 hB.2.1 ha) hF.2.2 (mSf_eqC hF) (fun s h => Or.inl (hs.1 s h)) (fun s k h1 h2 _ => hs.2 s k h1 h2)
theorem mBt_st {σ τ : kS} {n b R S C c : Nat} {kl : List Nat} {tr : trT} {a : Nat → Int32} (hT : mTb σ n b) (hB : mBs σ n R S C kl) (hF : mSf σ τ n) (ha : aOk σ n R S a) (hs : aSt τ S a) (hc : c < C) : mBt τ tr c S ↔ mBt (stI σ a) tr c S := mBt_cg (σ := stI σ a) (b := b) (R := R) (C := C) hT hB.1 hB.2.2.2 hc (aOk_Sv hT hB.1 hB.2.1 ha) hF.2.2 (mSf_eqC hF) (fun s h => hs.1 s h) (fun s k h1 h2 => hs.2 s k h1 h2)
theorem cfg_st {σ τ : kS} {n b R S : Nat} {a : Nat → Int32} (hT : mTb σ n b) (hR : mRo σ n R) (hF : mSf σ τ n) (ha : aOk σ n R S a) (hs : aSt τ S a) : cfg τ n R S (τ 264) (τ 265) := cfg_sf hT hR hF (cfg_ext hs.1 hs.2 ha.2.1)
set_option maxRecDepth 100000 in
set_option maxHeartbeats 4000000 in
theorem mY_comes (L : Nat) (xs : Nat → Int32) (d : Nat) (σ τ : kS) (n b R S C : Nat) (kl : List Nat) (x : sX) (a : Nat → Int32) (f y : Int32) (hT : mTb σ n b) (hB : mBs σ n R S C kl) (hY : mY σ τ n R S x) (ha : aOk σ n R S a) (hs : aSt τ S a) (han : x.2.2.2 = 0) (hp : (x.1.length = 0 ∧ ∀ s, s < S → a (7 * s) = 0) ∨ ∃ j mv, j < x.1.length ∧ f = nI j ∧ y = nI mv ∧ stp S (aD (xq x.1 j).1) (aV (xq x.1 j).1) (aD a) (aV a) mv) :
    kXM kT L xs (d + 8) 213 [.ref 232, .int f, .int y] τ (fun r ω => mY σ ω n R S (sRe σ kl S C x a f y) ∧ rY C (sRe σ kl S C x a f y) r ∧ ω 264 = τ 264 ∧ ω 265 = τ 265 ∧ ω 292 = τ 292 ∧ ω 293 = τ 293) := by
  obtain ⟨hF, ⟨b1, hT1⟩, hSs, hSx, ⟨w1, w2, w3⟩, hok⟩ := id hY
  have hB1 := mBs_sf hT hF hB
  have hn := hT.1
  have hS4 := hB.2.1.1
  have hC6 : C ≤ 6 := hB.2.2.2.1
  have hcf := cfg_st hT hB.1 hF ha hs
  have hlink : (x.1.length = 0 ∧ ∀ s, s < S → τ 264 s = 0) ∨ ∃ j m, j < x.1.length ∧ f = nI j ∧ y = nI m ∧ stp S (stD τ j) (stV τ j) (τ 264) (τ 265) m := by
    rcases hp with ⟨q1, q2⟩ | ⟨j, mv, q1, q2, q3, q4⟩
    · exact Or.inl ⟨q1, fun s h => (hs.1 s h).trans (q2 s h)⟩
    · exact Or.inr ⟨j, mv, q1, q2, q3, stp_ext (hSx j q1).1 (hSx j q1).2.1 hs.1 hs.2 q4⟩
  have hin : (∃ i, i < x.1.length ∧ smS τ S i) ↔ ∃ q ∈ x.1, q.1 = a := by
    rw [xq_mem]
    refine exists_congr (fun i => and_congr_right (fun hi => ?_))
    rw [aOk_eq hn (hok.2 i hi).1 ha]
    refine forall_congr' (fun s => forall_congr' (fun h => ?_))
    unfold sm1
    have e1 := (hSx i hi).1 s h
    unfold stD at e1
    rw [e1, hs.1 s h]
    refine and_congr_right (fun _ => forall_congr' (fun k => forall_congr' (fun hk => ?_)))
    have e2 := (hSx i hi).2.1 s k h hk
    unfold stV at e2
    rw [show 24 * i + (6 * s + k) = 24 * i + 6 * s + k by omega] at e2
    rw [e2, hs.2 s k h hk]
  have hft : fsB (fun c => mBt τ (trSt τ kl S) c S) C 0 = fsB (fun c => mBt (stI σ a) (trSt (stI σ a) kl S) c S) C 0 := fsB_congr C 0 (fun c _ hc => by rw [tr_st hT hB hF ha hs]; exact mBt_st hT hB hF ha hs (by omega))
  have had : (∀ s, s < S → adN τ s) ↔ (∀ s, s < S → adN (stI σ a) s) := by
    refine forall_congr' (fun s => forall_congr' (fun h => ?_))
    unfold adN
    rw [hs.1 s h, hF.1 247 (by decide) (by decide), hF.1 255 (by decide) (by decide)]
    exact Iff.rfl
  refine kXM_mono (mf_comesToBe L xs d τ n b1 R S C x.1.length kl f y hT1 hB1 hSs hcf hlink) ?_
  rintro r ω ⟨hP, hq⟩
  rw [hin] at hq
  obtain ⟨N', n1, n2, -, p1, p2, p3, p4, p5, p6, p7, p8⟩ := hP
  rcases hq with ⟨q, rfl, rfl⟩ | ⟨q, qN, rfl, rfl⟩ | ⟨q, qN, hG⟩
  · have e : sRe σ kl S C x a f y = x := by
      unfold sRe
      rw [cit_T q]
    rw [e]
    exact ⟨hY, Or.inl ⟨han, rfl⟩, rfl, rfl, rfl, rfl⟩
  · have e : sRe σ kl S C x a f y = (x.1, x.2.1, x.2.2.1, -7) := by
      unfold sRe
      rw [cit_F q, cit_T (by omega)]
    rw [e]
    exact ⟨hY, Or.inr (Or.inl ⟨rfl, rfl⟩), rfl, rfl, rfl, rfl⟩
  · have e : sRe σ kl S C x a f y = (x.1 ++ [(a, f, y)], x.2.1, x.2.2.1 + cit (∀ s, s < S → adN (stI σ a) s) 1 0, fsB (fun c => mBt (stI σ a) (trSt (stI σ a) kl S) c S) C 0) := by
      unfold sRe
      rw [cit_F q, cit_F (by omega)]
    have hlen : (x.1 ++ [(a, f, y)]).length = x.1.length + 1 := by rw [List.length_append]; rfl
    obtain ⟨g1, g2, g3, g4, g5, g6, g7, g8⟩ := hG
    have hN' : N' = x.1.length + 1 := nI_inj (p3.2.1.symm.trans g2) (by have := p3.1; omega) (by omega)
    subst hN'
    rw [hft] at g1
    rw [isB_iff had] at g3
    rw [e]
    refine ⟨⟨mSf_trans hF p1, p2, ?_, fun i hi => ?_, ⟨?_, w2, ?_⟩, xOk_push hok qN ha hp⟩, ?_, p4, p5, p6, p7⟩
    · show mSs ω n R S (x.1 ++ [(a, f, y)]).length
      rw [hlen]
      exact p3
    · have hi : i < x.1.length + 1 := by rw [← hlen]; exact hi
      by_cases ee : i = x.1.length
      · subst ee
        show _ ∧ _ ∧ ω 286 x.1.length = (xq (x.1 ++ [(a, f, y)]) x.1.length).2.1 ∧ ω 287 x.1.length = (xq (x.1 ++ [(a, f, y)]) x.1.length).2.2
        rw [xq_eq]
        exact ⟨fun s h => (g7 s h).trans (hs.1 s h), fun s k h hk => (g8 s k h hk).trans (hs.2 s k h hk), by rw [g5, pk_us], by rw [g6, pk_us]⟩
      · have hi' : i < x.1.length := by omega
        show _ ∧ _ ∧ ω 286 i = (xq (x.1 ++ [(a, f, y)]) i).2.1 ∧ ω 287 i = (xq (x.1 ++ [(a, f, y)]) i).2.2
        rw [xq_lt hi']
        obtain ⟨c1, c2, c3, c4⟩ := hSx i hi'
        exact ⟨fun s h => ((p8 i hi').1 s h).trans (c1 s h), fun s k h hk => ((p8 i hi').2 s k h hk).trans (c2 s k h hk), by rw [g5, pk_un ee]; exact c3, by rw [g6, pk_un ee]; exact c4⟩
    · rw [g4 _ (by decide) (by decide) (by decide)]
      exact w1
    · rw [g3, w3]
      by_cases z : ∀ s, s < S → adN (stI σ a) s
      · rw [isB_T z, cit_T z]
        exact nI_1 _
      · rw [isB_F z, cit_F z, Nat.add_zero]
        exact Int32.add_zero _
    · rcases g1 with ⟨z1, z2⟩ | ⟨c, c1, c2, c3⟩
      · exact Or.inl ⟨z2, z1⟩
      · refine Or.inr (Or.inr ⟨c, c1, c3, c2, ?_⟩)
        show 0 < (x.1 ++ [(a, f, y)]).length
        omega
end
section
/-! alike: receives, the reference's parts -/
theorem mY_sf {σ τ ω : kS} {n b R S C : Nat} {kl : List Nat} {x : sX} (hT : mTb σ n b) (hB : mBs σ n R S C kl) (hY : mY σ τ n R S x) (hF : mSf τ ω n) (hTo : ∃ b, mTb ω n b) (e1 : ω 284 = τ 284) (e2 : ω 285 = τ 285) (e3 : ω 286 = τ 286) (e4 : ω 287 = τ 287) (e5 : ω 232 69 = τ 232 69 ∧ ω 232 70 = τ 232 70 ∧ ω 232 71 = τ 232 71) : mY σ ω n R S x := by
  obtain ⟨h1, ⟨b1, h2⟩, h3, h4, ⟨w1, w2, w3⟩, h5⟩ := hY
  refine ⟨mSf_trans h1 hF, hTo, mSs_sf h2 (mSf_Ro hT h1 hB.1) hF e1 e2 e3 e4 e5.1 h3, fun i hi => ?_, ⟨e5.2.1.trans w1, w2, e5.2.2.trans w3⟩, h5⟩
  have := h4 i hi
  unfold stD stV at this ⊢
  rw [e1, e2, e3, e4]
  exact this
theorem mY_fr {σ τ ω : kS} {n b R S C : Nat} {kl : List Nat} {x : sX} (hT : mTb σ n b) (hB : mBs σ n R S C kl) (hY : mY σ τ n R S x) (hF : mFr τ ω n) (hTo : ∃ b, mTb ω n b) : mY σ ω n R S x := mY_sf hT hB hY (mSf_fr hF) hTo (hF.1 _ (by decide)) (hF.1 _ (by decide)) (hF.1 _ (by decide)) (hF.1 _ (by decide)) ⟨hF.2.1 _ (by decide), hF.2.1 _ (by decide), hF.2.1 _ (by decide)⟩
theorem mY_up {σ τ : kS} {n b R S C c : Nat} {kl : List Nat} {x : sX} {f : Nat → Int32} (hT : mTb σ n b) (hB : mBs σ n R S C kl) (hY : mY σ τ n R S x) (hc : c = 264 ∨ c = 265 ∨ c = 292 ∨ c = 293) : mY σ (va_up τ c f) n R S x := by
  obtain ⟨b1, h2⟩ := hY.2.1
  rcases hc with rfl | rfl | rfl | rfl
  · exact mY_sf hT hB hY (mSf_up (by decide)) ⟨b1, h2⟩ rfl rfl rfl rfl ⟨rfl, rfl, rfl⟩
  · exact mY_sf hT hB hY (mSf_up (by decide)) ⟨b1, h2⟩ rfl rfl rfl rfl ⟨rfl, rfl, rfl⟩
  · exact mY_sf hT hB hY (mSf_up (by decide)) ⟨b1, h2⟩ rfl rfl rfl rfl ⟨rfl, rfl, rfl⟩
  · exact mY_sf hT hB hY (mSf_up (by decide)) ⟨b1, h2⟩ rfl rfl rfl rfl ⟨rfl, rfl, rfl⟩
set_option maxRecDepth 100000 in
set_option maxHeartbeats 4000000 in
theorem mf_rc_try (L : Nat) (xs : Nat → Int32) (d : Nat) (σ : kS) (n b s t : Nat) (l : rwT) (h : mTb σ n b) (hb : b ≤ 776) (hq : mRq σ (mvG σ n b) l) (hj : mJd σ n b l) (hs : s < 4) (ht : t < n) (hst : mSt σ n s t) (x m g : Int32) (my : Int64) (Q : Option Value → kS → Prop)
    (he : ∀ ρ, mFr σ ρ n → mTb ρ n b → mRq ρ (mvG ρ n b) l → mJd ρ n b l → rwM ρ l = rwM σ l → kX kT L xs (d + 6) 217 266 [(9, .int (isB (trM σ (rwM σ l) (tin σ s t)))), (0, .ref 232), (1, .int x), (2, .int (nI s)), (3, .int (nI t)), (4, .int m), (5, .long my), (7, .int g)] [] ρ Q) :
    kX kT L xs (d + 6) 217 242 [(0, .ref 232), (1, .int x), (2, .int (nI s)), (3, .int (nI t)), (4, .int m), (5, .long my), (7, .int g)] [] σ Q := by
  have hb2 := h.2.1
  iterate 2 (refine kX_one rfl ?_)
  refine kX_top (h.2.2.2.2.1) ?_
  iterate 5 (refine kX_one rfl ?_)
  refine kX_cal (mr_standsFor L xs d σ n b s t h (by omega) hs ht hst) rfl (Or.inr rfl) rfl rfl rfl (fun r1 ρ q1 => ?_)
  obtain ⟨u, b', rfl, hE, hb', hu, hu2, hu3⟩ := q1
  obtain ⟨hq2, hrw⟩ := mRq_ex h hE hq
  have hj2 := mJd_ex h hE (fun t ht => hq.2.2.1 t ht) hj
  have hbb := hE.2.1
  have hmk : mMk ρ l u ↔ trM σ (rwM σ l) (tin σ s t) := by
    have hF := mFr_ex hE h.2.1
    unfold mMk trM
    rw [hu2, ← rwM_I, hrw, mFr_A hF, hF.1 238 (by decide)]
    exact ⟨fun z => z.2, fun z => ⟨hu3, z⟩⟩
  refine kX_cal (mr_canMake L xs (d + 1) ρ n b' l u hE.1 hq2 hj2 hu) rfl (Or.inr rfl) rfl rfl rfl (fun r1 ρ2 q1 => ?_)
  obtain ⟨rfl, M, rfl, hj3⟩ := q1
  rw [isB_iff hmk]
  have hF := rwF_cmS (σ := ρ) (M := M) (x := nI b') (y := nI l.length)
  have hT3 := rwF_Tb hF hE.1
  have hq3 : mRq (cmS ρ M (upd (upd (ρ 232) 49 (nI b')) 50 (nI l.length))) (mvG (cmS ρ M (upd (upd (ρ 232) 49 (nI b')) 50 (nI l.length))) n b') l := hq2
  have hFr : mFr σ (cmS ρ M (upd (upd (ρ 232) 49 (nI b')) 50 (nI l.length))) n := mFr_trans (mFr_ex hE h.2.1) (mFr_rwF hF)
  have hrw3 : rwM (cmS ρ M (upd (upd (ρ 232) 49 (nI b')) 50 (nI l.length))) l = rwM σ l := hrw
  generalize cmS ρ M (upd (upd (ρ 232) 49 (nI b')) 50 (nI l.length)) = ρ3 at *
  iterate 3 (refine kX_one rfl ?_)
  refine kX_cal (mr_release L xs (d + 4) ρ3 n b' b hT3 hb2 hbb) rfl (Or.inr rfl) rfl rfl rfl (fun r1 ρ4 q1 => ?_)
  obtain ⟨rfl, hd, rfl, hT4⟩ := q1
  obtain ⟨hq4, hj4⟩ := rel_row (hd := hd) hq3 hj3 hb2 hbb (by omega) (fun t ht => (hq.2.2.1 t ht).1)
  exact kX_lv _ rfl rfl rfl (he _ (mFr_trans hFr (mFr_rel ρ3 n b hd)) hT4 hq4 hj4 hrw3)
/-- what may stand, one after another -/
theorem opL_pw (σ : kS) (so : Nat) : ∀ n, (opL σ so n).Pairwise (fun x y => x < y)
  | 0 => List.Pairwise.nil
  | n + 1 => by
    rw [opL_1]
    by_cases h : gS σ so n
    · rw [cit_T h, List.pairwise_append]
      refine ⟨opL_pw σ so n, List.pairwise_singleton _ _, fun a ha c hc => ?_⟩
      rw [List.mem_singleton] at hc
      rw [hc]
      exact ((opL_mem σ so n a).mp ha).1
    · rw [cit_F h]
      exact opL_pw σ so n
theorem nx_at {σ τ : kS} {n v so j t : Nat} {r : Option Value} (ho : ∀ z, z < n → (ofs τ v z ↔ gS σ so z)) (ht : (j = 0 ∧ t = 0) ∨ ∃ j0, ∃ (h0 : j0 < (opL σ so n).length), j = j0 + 1 ∧ t = (opL σ so n)[j0]'h0 + 1) (hn : nxo τ n v t r) : (∀ h : j < (opL σ so n).length, r = some (.int (nI ((opL σ so n)[j]'h)))) ∧ ((opL σ so n).length ≤ j → r = some (.int (-1))) := by
  have hp := List.pairwise_iff_getElem.mp (opL_pw σ so n)
  have hm := opL_mem σ so n
  have key : ∀ i (h : i < (opL σ so n).length), t ≤ (opL σ so n)[i]'h ↔ j ≤ i := fun i h => by
    rcases ht with ⟨q1, q2⟩ | ⟨j0, h0, q1, q2⟩
    · omega
    · rcases Nat.lt_trichotomy i j0 with z | z | z
      · have := hp i j0 h h0 z
        omega
      · subst z
        omega
      · have := hp j0 i h0 h z
        omega
  have hin : ∀ i (h : i < (opL σ so n).length), (opL σ so n)[i]'h < n ∧ ofs τ v ((opL σ so n)[i]'h) := fun i h => by
    obtain ⟨a1, a2⟩ := (hm _).mp (List.getElem_mem h)
    exact ⟨a1, (ho _ a1).mpr a2⟩
  rcases hn with ⟨rfl, hno⟩ | ⟨z, z1, z2, z3, z4, rfl⟩
  · refine ⟨fun h => absurd (hin j h).2 (hno _ ((key j h).mpr (Nat.le_refl _)) (hin j h).1), fun _ => rfl⟩
  · obtain ⟨i, hi, e⟩ := List.getElem_of_mem ((hm z).mpr ⟨z2, (ho z z2).mp z3⟩)
    have hji : j ≤ i := (key i hi).mp (by rw [e]; exact z1)
    refine ⟨fun h => ?_, fun h => absurd hji (by omega)⟩
    have : i = j := Classical.byContradiction (fun ne => by
      have hlt := hp j i h hi (by omega)
      rw [e] at hlt
      exact z4 _ ((key j h).mpr (Nat.le_refl _)) hlt (hin j h).2)
    subst this
    rw [e]
theorem cnt_opL {σ : kS} {so : Nat} {f : Nat → Prop} : ∀ n, (∀ z, z < n → (f z ↔ gS σ so z)) → cnt f n = (opL σ so n).length
  | 0, _ => rfl
  | n + 1, h => by
    rw [cnt, opL_1, cnt_opL n (fun z hz => h z (by omega))]
    by_cases q : gS σ so n
    · rw [cit_T q, if_pos ((h n (by omega)).mpr q), List.length_append]
      rfl
    · rw [cit_F q, if_neg (fun z => q ((h n (by omega)).mp z))]
      rfl
theorem ofs_gS {σ τ : kS} {n b u so : Nat} (h : mTb σ n b) (hF : mSf σ τ n) (hso : σ 240 u = nI so) (hs3 : so ≤ 3) : ∀ z, z < n → (ofs τ u z ↔ gS σ so z) := fun z hz => by
  rw [ofs_sf h hF hz]
  unfold ofs gS
  rw [hso]
  refine and_congr_right (fun _ => or_congr ⟨fun q => nI_inj q, fun q => by rw [q]⟩ Iff.rfl)
end
section
/-! alike: receives, the reference's loops -/
theorem lI_add (a b : Nat) : lI a + lI b = lI (a + b) := by
  unfold lI
  rw [← Int64.ofInt_add]
  congr 1
theorem lc_le {a : Nat} (ha : a < 9223372036854775808) : lg_cmp (lI a) 20000 ≤ 0 ↔ a ≤ 20000 := by
  have e : (20000 : Int64) = lI 20000 := by decide
  rw [e]
  refine ⟨fun q => ?_, fun q => ?_⟩
  · have q : lI a ≤ lI 20000 := lw_le (decide_eq_true q)
    rw [Int64.le_iff_toInt_le, lI_toInt ha, lI_toInt (by omega)] at q
    omega
  · have : ¬ lI a > lI 20000 := by
      show ¬ lI 20000 < lI a
      rw [Int64.lt_iff_toInt_lt, lI_toInt ha, lI_toInt (by omega)]
      omega
    unfold lg_cmp
    rw [if_neg this]
    split <;> decide
theorem mn_mul (P c : Nat) : min (min P 20001 * c) 20001 = min (P * c) 20001 := by
  by_cases h : P ≤ 20001
  · rw [Nat.min_eq_left h]
  · rw [Nat.min_eq_right (show 20001 ≤ P by omega)]
    rcases Nat.eq_zero_or_pos c with rfl | hc
    · simp
    · have h1 : 20001 * 1 ≤ 20001 * c := Nat.mul_le_mul_left _ hc
      have h2 : 20001 * 1 ≤ P * c := Nat.mul_le_mul (by omega) hc
      rw [Nat.min_eq_right (by omega), Nat.min_eq_right (by omega)]
/-- what is open, of the first k VARIABLES -/
noncomputable def opF (σ : kS) (s : Nat) (vs : List Nat) (k : Nat) : List Nat := fl (fun u => σ 265 (6 * s + fN (σ 241 u)) < 0) (vs.take k)
noncomputable def opM (σ : kS) (n : Nat) (op : List Nat) : Nat := min (wyN (op.map (fun u => cnt (ofs σ u) n))) 20001
set_option maxRecDepth 100000 in
set_option maxHeartbeats 4000000 in
theorem mf_rc_open (L : Nat) (xs : Nat → Int32) (d : Nat) (σ : kS) (n b s : Nat) (vs : List Nat) (h : mTb σ n b) (hs : s < 4) (hst : σ 232 22 = nI vs.length) (hv : lst (σ 251) vs) (h24 : vs.length ≤ 24) (hnd : vs.Pairwise (fun x y => x ≠ y)) (h1 : ∀ u ∈ vs, u < 200 ∧ ∃ k, k < 6 ∧ σ 241 u = nI k) (h2 : ∀ u ∈ vs, ∀ v ∈ vs, u ≠ v → σ 241 u ≠ σ 241 v) (x t : Int32) (Q : Option Value → kS → Prop)
    (he : ∀ O, lst O (opF σ s vs vs.length) → kX kT L xs (d + 3) 217 107 [(0, .ref 232), (1, .int x), (2, .int (nI s)), (3, .int t), (4, .int (nI (opF σ s vs vs.length).length)), (5, .long (lI (opM σ n (opF σ s vs vs.length))))] [] (va_up σ 292 O) Q) :
    ∀ q : Nat × (Nat → Int32), (q.1 ≤ vs.length ∧ lst q.2 (opF σ s vs q.1)) → kX kT L xs (d + 3) 217 14 [(7, .int (nI q.1)), (0, .ref 232), (1, .int x), (2, .int (nI s)), (3, .int t), (4, .int (nI (opF σ s vs q.1).length)), (5, .long (lI (opM σ n (opF σ s vs q.1))))] [] (va_up σ 292 q.2) Q := by
  have hn := h.1
  refine kX_while (fun q : Nat × (Nat → Int32) => [(7, .int (nI q.1)), (0, .ref 232), (1, .int x), (2, .int (nI s)), (3, .int t), (4, .int (nI (opF σ s vs q.1).length)), (5, .long (lI (opM σ n (opF σ s vs q.1))))]) (fun q => va_up σ 292 q.2) _ (fun q => vs.length - q.1) ?_
  rintro ⟨k, O⟩ ⟨i1, i2⟩ ih
  dsimp only at i1 i2 ih ⊢
  have hopv : ∀ k, ∀ u ∈ opF σ s vs k, u ∈ vs := fun k u hu => List.mem_of_mem_take (fl_mem.mp hu).1
  have hpw : ∀ k, (opF σ s vs k).Pairwise (fun x y => x ≠ y) := fun k => fl_nd (List.Pairwise.sublist (List.take_sublist k vs) hnd)
  have h6 : ∀ k, (opF σ s vs k).length ≤ 6 := fun k => op_len (hpw k) (fun u hu => (h1 u (hopv k u hu)).2) (fun u hu v hv' => h2 u (hopv k u hu) v (hopv k v hv'))
  iterate 3 (refine kX_one rfl ?_)
  refine kX_top (hst) ?_
  repeat refine kX_one rfl ?_
  refine kX_if (fun q => ?_) (fun q => ?_)
  · have q := qge q k vs.length
    obtain rfl : k = vs.length := by omega
    exact kX_lv _ rfl rfl rfl (he O i2)
  · have q := qgeF q k vs.length
    have hmem : vs[k] ∈ vs := List.getElem_mem q
    obtain ⟨u1, z, z1, z2⟩ := h1 _ hmem
    have hlk := hv k q
    have hfz : fN (σ 241 vs[k]) = z := by rw [z2]; exact fN_nI (by omega)
    have hop : opF σ s vs (k + 1) = opF σ s vs k ++ cit (σ 265 (6 * s + fN (σ 241 vs[k])) < 0) [vs[k]] [] := by
      unfold opF
      rw [List.take_succ_eq_append_getElem q, fl_app]
    have h6k := h6 (k + 1)
    generalize hu : vs[k] = u at *
    have k101 : ∀ O', lst O' (opF σ s vs (k + 1)) → ∀ τ, τ = va_up σ 292 O' → kX kT L xs (d + 3) 217 101 [(7, .int (nI k)), (0, .ref 232), (1, .int x), (2, .int (nI s)), (3, .int t), (4, .int (nI (opF σ s vs (k + 1)).length)), (5, .long (lI (opM σ n (opF σ s vs (k + 1)))))] [] τ Q := by
      intro O' hI τ hτ
      subst hτ
      iterate 2 (refine kX_one rfl ?_)
      have := ih (k + 1, O') ⟨q, hI⟩ (by simp only; omega)
      dsimp only at this
      rw [← nI_1] at this
      exact kX_lv _ rfl rfl rfl this
    have k48 : σ 265 (6 * s + z) < 0 → kX kT L xs (d + 3) 217 48 [(7, .int (nI k)), (0, .ref 232), (1, .int x), (2, .int (nI s)), (3, .int t), (4, .int (nI (opF σ s vs k).length)), (5, .long (lI (opM σ n (opF σ s vs k))))] [] (va_up σ 292 O) Q := by
      intro hneg
      have hop2 : opF σ s vs (k + 1) = opF σ s vs k ++ [u] := by
        rw [hop, cit_T (by rw [hfz]; exact hneg)]
      rw [hop2] at k101 h6k
      rw [List.length_append] at h6k
      simp only [List.length_cons, List.length_nil] at h6k
      have hM : opM σ n (opF σ s vs k ++ [u]) = min (opM σ n (opF σ s vs k) * cnt (ofs σ u) n) 20001 := by
        unfold opM
        rw [List.map_append, List.map_singleton, wyN_app, mn_mul]
      have hMle : opM σ n (opF σ s vs k) ≤ 20001 := Nat.min_le_right _ _
      have hcn : cnt (ofs σ u) n ≤ n := cnt_le _ _
      have hpr : opM σ n (opF σ s vs k) * cnt (ofs σ u) n ≤ 20001 * 200 := Nat.mul_le_mul hMle (by omega)
      have hlst : lst (upd O (opF σ s vs k).length (nI u)) (opF σ s vs k ++ [u]) := lst_push i2 u
      have k96 : ∀ my1 my', my' = lI (opM σ n (opF σ s vs k ++ [u])) → kX kT L xs (d + 3) 217 96 [(7, .int (nI k)), (0, .ref 232), (1, .int x), (2, .int (nI s)), (3, .int t), (4, .int (nI (opF σ s vs k).length)), (5, .long my1)] [.long my'] (va_up σ 292 (upd O (opF σ s vs k).length (nI u))) Q := by
        intro my1 my' hm
        subst hm
        iterate 2 (refine kX_one rfl ?_)
        have := k101 _ hlst _ rfl
        rw [show nI (opF σ s vs k ++ [u]).length = nI (opF σ s vs k).length + 1 by rw [nI_1]; simp] at this
        exact kX_lv _ rfl rfl rfl this
      iterate 6 (refine kX_one rfl ?_)
      refine kX_ialdV rfl rfl (by decide) (k) (by first | rfl | decide) (by omega) (hlk) ?_
      refine kX_iastN rfl rfl (by decide) ((opF σ s vs k).length) (by first | rfl | decide) (by omega) ?_
      refine kX_st (va_up σ 292 (upd O (opF σ s vs k).length (nI u))) ?_ ?_
      · funext c; first
          | ((repeat (refine va_case ?_ ?_; (· (intro h; first | (subst h; rfl) | (unfold va_up; repeat' split; (all_goals first | rfl | omega | (subst_vars; rfl) | (funext j; unfold upd; repeat' split; all_goals first | rfl | omega | (subst_vars; rfl)))))); intro h)); (repeat (refine va_case2 ?_ ?_; (· (intro h; first | exact absurd h (by assumption) | (subst h; rfl) | (subst h; funext j; unfold upd; repeat' split; (all_goals first | rfl | omega | (subst_vars; rfl))))); intro h)); rfl)
          | (unfold va_up; repeat' split
             all_goals first | rfl | omega | (subst_vars; rfl) | (funext j; unfold upd; repeat' split; all_goals first | rfl | omega | (subst_vars; rfl)))
      iterate 5 (refine kX_one rfl ?_)
      refine kX_ialdV rfl rfl (by decide) (k) (by first | rfl | decide) (by omega) (hlk) ?_
      refine kX_cal (mr_howMany L xs d (va_up σ 292 (upd O (opF σ s vs k).length (nI u))) n b u h u1) rfl (Or.inr rfl) rfl rfl rfl (fun r1 σ1 q1 => ?_)
      obtain ⟨rfl, rfl⟩ := q1
      have hcnt : cnt (ofs (va_up σ 292 (upd O (opF σ s vs k).length (nI u))) u) n = cnt (ofs σ u) n := rfl
      rw [hcnt]
      have hmul : lI (opM σ n (opF σ s vs k)) * (nI (cnt (ofs σ u) n)).toInt64 = lI (opM σ n (opF σ s vs k) * cnt (ofs σ u) n) := by
        rw [nI_lI (by omega), lI_mul]
      generalize opM σ n (opF σ s vs k) * cnt (ofs σ u) n = PM at *
      iterate 6 (refine kX_one rfl ?_)
      repeat refine kX_one rfl ?_
      refine kX_if (fun q2 => ?_) (fun q2 => ?_)
      · have q2 : lg_cmp (lI (opM σ n (opF σ s vs k)) * (nI (cnt (ofs σ u) n)).toInt64) 20000 ≤ 0 := of_decide_eq_true q2
        rw [hmul, lc_le (by omega)] at q2
        iterate 1 (refine kX_one rfl ?_)
        refine kX_lv _ rfl rfl rfl (k96 (lI (opM σ n (opF σ s vs k)) * (nI (cnt (ofs σ u) n)).toInt64) (lI (opM σ n (opF σ s vs k)) * (nI (cnt (ofs σ u) n)).toInt64) ?_)
        rw [hmul, hM, Nat.min_eq_left (by omega)]
      · have q2 : ¬ lg_cmp (lI (opM σ n (opF σ s vs k)) * (nI (cnt (ofs σ u) n)).toInt64) 20000 ≤ 0 := of_decide_eq_false q2
        rw [hmul, lc_le (by omega)] at q2
        iterate 2 (refine kX_one rfl ?_)
        refine kX_lv _ rfl rfl rfl (k96 (lI (opM σ n (opF σ s vs k)) * (nI (cnt (ofs σ u) n)).toInt64) 20001 ?_)
        rw [hM, Nat.min_eq_right (by omega)]
        decide
    iterate 10 (refine kX_one rfl ?_)
    refine kX_ialdV rfl rfl (by decide) (k) (by first | rfl | decide) (by omega) (hlk) ?_
    refine kX_ialdV rfl rfl (by decide) (u) (by first | rfl | decide) (u1) (z2) ?_
    iterate 1 (refine kX_one rfl ?_)
    refine kX_ialdN rfl rfl (by decide) (6 * s + z) (ix6 s z) (by omega) ?_
    repeat refine kX_one rfl ?_
    refine kX_if (fun q2 => ?_) (fun q2 => ?_)
    · have q2 : ¬ σ 265 (6 * s + z) < 0 := Int32.not_lt.mpr (of_decide_eq_true q2)
      have hop2 : opF σ s vs (k + 1) = opF σ s vs k := by
        rw [hop, cit_F (by rw [hfz]; exact q2), List.append_nil]
      rw [hop2] at k101
      exact k101 O i2 _ rfl
    · exact k48 (Int32.not_le.mp (of_decide_eq_false q2))
/-- the options of what is open -/
def opW (σ : kS) (n : Nat) (op : List Nat) (os : List (List Nat)) : Prop := os.length = op.length ∧ op.length ≤ 6 ∧ ∀ p (h : p < op.length) (h' : p < os.length), op[p]'h < 200 ∧ ∃ so, so ≤ 3 ∧ σ 240 (op[p]'h) = nI so ∧ os[p]'h' = opL σ so n
/-- chosen: the way w, for VARIABLES from lo on below hi -/
def chW (os : List (List Nat)) (CH : Nat → Int32) (w lo hi : Nat) : Prop := ∀ p (h : p < os.length) (h' : p < (dg (os.map List.length) w).length), lo ≤ p → p < hi → CH p = nI ((os[p]'h).getD ((dg (os.map List.length) w)[p]'h') 0)
set_option maxRecDepth 100000 in
set_option maxHeartbeats 4000000 in
theorem mf_rc_first (L : Nat) (xs : Nat → Int32) (d : Nat) (σ τ : kS) (n b0 b : Nat) (op : List Nat) (os : List (List Nat)) (h : mTb σ n b0) (hF : mSf σ τ n) (hT : mTb τ n b) (hO : opW σ n op os) (ho : lst (τ 292) op) (hpos : ∀ c ∈ os.map List.length, 0 < c) (x s t : Int32) (my : Int64) (Q : Option Value → kS → Prop)
    (he : ∀ CH, chW os CH 0 0 op.length → kX kT L xs (d + 3) 217 189 [(0, .ref 232), (1, .int x), (2, .int s), (3, .int t), (4, .int (nI op.length)), (5, .long my)] [] (va_up τ 293 CH) Q) :
    ∀ q : Nat × (Nat → Int32), (q.1 ≤ op.length ∧ chW os q.2 0 0 q.1) → kX kT L xs (d + 3) 217 157 [(7, .int (nI q.1)), (0, .ref 232), (1, .int x), (2, .int s), (3, .int t), (4, .int (nI op.length)), (5, .long my)] [] (va_up τ 293 q.2) Q := by
  obtain ⟨o1, o6, o2⟩ := hO
  refine kX_while (fun q : Nat × (Nat → Int32) => [(7, .int (nI q.1)), (0, .ref 232), (1, .int x), (2, .int s), (3, .int t), (4, .int (nI op.length)), (5, .long my)]) (fun q => va_up τ 293 q.2) _ (fun q => op.length - q.1) ?_
  rintro ⟨k, CH⟩ ⟨i1, i2⟩ ih
  dsimp only at i1 i2 ih ⊢
  iterate 2 (refine kX_one rfl ?_)
  repeat refine kX_one rfl ?_
  refine kX_if (fun q => ?_) (fun q => ?_)
  · have q := qge q k op.length
    obtain rfl : k = op.length := by omega
    exact kX_lv _ rfl rfl rfl (he CH i2)
  · have q := qgeF q k op.length
    obtain ⟨u1, so, s1, s2, s3⟩ := o2 k q (by omega)
    have hl : 0 < (opL σ so n).length := by
      have := hpos _ (List.mem_map.mpr ⟨_, List.getElem_mem (show k < os.length by omega), rfl⟩)
      rw [s3] at this
      exact this
    iterate 7 (refine kX_one rfl ?_)
    refine kX_ialdV rfl rfl (by decide) (k) (by first | rfl | decide) (by omega) (ho k q) ?_
    iterate 1 (refine kX_one rfl ?_)
    refine kX_cal (mr_nextOf L xs d (va_up τ 293 CH) n b op[k] 0 hT u1 (Nat.zero_le _)) rfl (Or.inr rfl) rfl rfl rfl (fun r1 σ1 q1 => ?_)
    obtain ⟨hx, rfl⟩ := q1
    obtain rfl := (nx_at (σ := σ) (τ := va_up τ 293 CH) (j := 0) (ofs_gS h (mSf_trans hF (mSf_up (c := 293) (by decide))) s2 s1) (Or.inl ⟨rfl, rfl⟩) hx).1 hl
    refine kX_iastN rfl rfl (by decide) (k) (by first | rfl | decide) (by omega) ?_
    iterate 2 (refine kX_one rfl ?_)
    have := ih (k + 1, upd CH k (nI ((opL σ so n)[0]'hl))) ⟨q, fun p hp hp' _ hpk => by
      simp only at hpk ⊢
      by_cases e : p = k
      · subst e
        rw [pk_us, dg_0 (os.map List.length) p (by rw [List.length_map]; exact hp), s3, List.getD_eq_getElem?_getD, List.getElem?_eq_getElem hl]
        rfl
      · rw [pk_un e]
        exact i2 p hp hp' (Nat.zero_le _) (by omega)⟩ (by simp only; omega)
    dsimp only at this
    rw [← nI_1] at this
    refine kX_to _ _ rfl rfl rfl ?_ this
    funext c; first
      | ((repeat (refine va_case ?_ ?_; (· (intro h; first | (subst h; rfl) | (unfold va_up; repeat' split; (all_goals first | rfl | omega | (subst_vars; rfl) | (funext j; unfold upd; repeat' split; all_goals first | rfl | omega | (subst_vars; rfl)))))); intro h)); (repeat (refine va_case2 ?_ ?_; (· (intro h; first | exact absurd h (by assumption) | (subst h; rfl) | (subst h; funext j; unfold upd; repeat' split; (all_goals first | rfl | omega | (subst_vars; rfl))))); intro h)); rfl)
      | (unfold va_up; repeat' split
         all_goals first | rfl | omega | (subst_vars; rfl) | (funext j; unfold upd; repeat' split; all_goals first | rfl | omega | (subst_vars; rfl)))
end
section
/-! alike: receives, from one way to the next -/
def oG (os : List (List Nat)) (p j : Nat) : Nat := (os.getD p []).getD j 0
def oL (os : List (List Nat)) (p : Nat) : Nat := (os.getD p []).length
def dG (os : List (List Nat)) (w p : Nat) : Nat := (dg (os.map List.length) w).getD p 0
section OG
variable {os : List (List Nat)} {w p : Nat}
theorem og_at (h : p < os.length) : os.getD p [] = os[p]'h := by
  rw [List.getD_eq_getElem?_getD, List.getElem?_eq_getElem h]
  rfl
theorem dG_at (h : p < os.length) (h' : p < (dg (os.map List.length) w).length) : dG os w p = (dg (os.map List.length) w)[p]'h' := by
  unfold dG
  rw [List.getD_eq_getElem?_getD, List.getElem?_eq_getElem h']
  rfl
theorem dG_l : (dg (os.map List.length) w).length = os.length := by rw [dg_len, List.length_map]
theorem cs_at (h : p < os.length) (h' : p < (os.map List.length).length) : (os.map List.length)[p]'h' = oL os p := by
  unfold oL
  rw [List.getElem_map, og_at h]
theorem dG_lt (hw : w < wyN (os.map List.length)) (h : p < os.length) : dG os w p < oL os p := by
  have := dg_lt (os.map List.length) w hw p (by rw [List.length_map]; exact h)
  rw [cs_at h] at this
  rw [dG_at h (by rw [dG_l]; exact h)]
  exact this
theorem dG_mx (hw : w + 1 = wyN (os.map List.length)) (h : p < os.length) : dG os w p + 1 = oL os p := by
  have := dg_max (os.map List.length) (by omega) p (by rw [List.length_map]; exact h)
  rw [cs_at h] at this
  rw [dG_at h (by rw [dG_l]; exact h)]
  have e : w = wyN (os.map List.length) - 1 := by omega
  subst e
  exact this
theorem dG_odo (hw : w + 1 < wyN (os.map List.length)) : ∃ jj, jj < os.length ∧ dG os w jj + 1 < oL os jj ∧ dG os (w + 1) jj = dG os w jj + 1 ∧ (∀ p, p < jj → dG os (w + 1) p = dG os w p) ∧ ∀ p, p < os.length → jj < p → dG os w p + 1 = oL os p ∧ dG os (w + 1) p = 0 := by
  obtain ⟨jj, hj, o1, o2, o3, o4⟩ := odo (os.map List.length) w hw
  have hj' : jj < os.length := by rw [List.length_map] at hj; exact hj
  have hl : ∀ v p, p < os.length → p < (dg (os.map List.length) v).length := fun v p hp => by rw [dG_l]; exact hp
  refine ⟨jj, hj', ?_, ?_, fun p hp => ?_, fun p hp hjp => ?_⟩
  · rw [cs_at hj'] at o1
    rw [dG_at hj' (hl w jj hj')]
    exact o1
  · rw [dG_at hj' (hl w jj hj'), dG_at hj' (hl (w + 1) jj hj')]
    exact o2
  · rw [dG_at (show p < os.length by omega) (hl w p (by omega)), dG_at (show p < os.length by omega) (hl (w + 1) p (by omega))]
    exact o3 p (by rw [List.length_map]; omega) hp
  · obtain ⟨a1, a2⟩ := o4 p (by rw [List.length_map]; exact hp) hjp
    rw [cs_at hp] at a1
    rw [dG_at hp (hl w p hp), dG_at hp (hl (w + 1) p hp)]
    exact ⟨a1, a2⟩
theorem wyT_G (h : p < os.length) : (wyT os w).getD p 0 = oG os p (dG os w p) := by
  have h1 : p < (wyT os w).length := by rw [wyT_len]; exact h
  have h2 : p < (dg (os.map List.length) w).length := by rw [dG_l]; exact h
  rw [List.getD_eq_getElem?_getD, List.getElem?_eq_getElem h1]
  show (wyT os w)[p]'h1 = _
  rw [wyT_at h h1 h2]
  unfold oG
  rw [og_at h, dG_at h h2]
theorem chW_G {CH : Nat → Int32} {hi : Nat} (h : chW os CH w 0 hi) (hl : hi ≤ os.length) : ∀ p, p < hi → CH p = nI (oG os p (dG os w p)) := fun p hp => by
  have h2 : p < (dg (os.map List.length) w).length := by rw [dG_l]; omega
  rw [h p (by omega) h2 (Nat.zero_le _) hp]
  unfold oG
  rw [og_at (show p < os.length by omega), dG_at (show p < os.length by omega) h2]
end OG
set_option maxRecDepth 100000 in
set_option maxHeartbeats 4000000 in
theorem mf_rc_down (L : Nat) (xs : Nat → Int32) (d : Nat) (σ τ : kS) (n b0 b w : Nat) (op : List Nat) (os : List (List Nat)) (h : mTb σ n b0) (hF : mSf σ τ n) (hT : mTb τ n b) (hO : opW σ n op os) (ho : lst (τ 292) op) (hw : w < wyN (os.map List.length)) (x s t : Int32) (my : Int64) (Q : Option Value → kS → Prop)
    (he : ∀ K CH, K ≤ op.length → (∀ p, p < K → CH p = nI (oG os p (dG os w p))) → (∀ p, K ≤ p → p < op.length → CH p = nI (oG os p 0) ∧ dG os w p + 1 = oL os p) → (∀ k, K = k + 1 → dG os w k + 1 < oL os k) → kX kT L xs (d + 3) 217 367 [(10, .int (nI K - 1)), (0, .ref 232), (1, .int x), (2, .int s), (3, .int t), (4, .int (nI op.length)), (5, .long my)] [] (va_up τ 293 CH) Q) :
    ∀ q : Nat × (Nat → Int32), (q.1 ≤ op.length ∧ (∀ p, p < q.1 → q.2 p = nI (oG os p (dG os w p))) ∧ ∀ p, q.1 ≤ p → p < op.length → q.2 p = nI (oG os p 0) ∧ dG os w p + 1 = oL os p) → kX kT L xs (d + 3) 217 314 [(10, .int (nI q.1 - 1)), (0, .ref 232), (1, .int x), (2, .int s), (3, .int t), (4, .int (nI op.length)), (5, .long my)] [] (va_up τ 293 q.2) Q := by
  have hn := hT.1
  obtain ⟨o1, o6, o2⟩ := hO
  refine kX_while (fun q : Nat × (Nat → Int32) => [(10, .int (nI q.1 - 1)), (0, .ref 232), (1, .int x), (2, .int s), (3, .int t), (4, .int (nI op.length)), (5, .long my)]) (fun q => va_up τ 293 q.2) _ (fun q => q.1) ?_
  rintro ⟨K, CH⟩ ⟨i1, i2, i3⟩ ih
  dsimp only at i1 i2 i3 ih ⊢
  rcases Nat.eq_zero_or_pos K with rfl | hK
  · iterate 2 (refine kX_one rfl ?_)
    exact he 0 CH (Nat.zero_le _) i2 i3 (fun k e => by omega)
  · obtain ⟨k, rfl⟩ : ∃ k, K = k + 1 := ⟨K - 1, by omega⟩
    have hk : k < op.length := i1
    obtain ⟨u1, so, s1, s2, s3⟩ := o2 k hk (by omega)
    have hlt := dG_lt hw (show k < os.length by omega)
    have hLk : oL os k = (opL σ so n).length := by
      unfold oL
      rw [og_at (show k < os.length by omega), s3]
    have hG : ∀ j (hj : j < (opL σ so n).length), oG os k j = (opL σ so n)[j]'hj := fun j hj => by
      unfold oG
      rw [og_at (show k < os.length by omega), s3, List.getD_eq_getElem?_getD, List.getElem?_eq_getElem hj]
      rfl
    have w1 : CH k = nI (oG os k (dG os w k)) := i2 k (by omega)
    have hcn : oG os k (dG os w k) < n := by
      rw [hG _ (by omega)]
      exact ((opL_mem σ so n _).mp (List.getElem_mem _)).1
    have hofs := ofs_gS h (mSf_trans hF (mSf_up (σ := τ) (c := 293) (f := CH) (by decide))) s2 s1
    rw [nI_pred]
    iterate 1 (refine kX_one rfl ?_)
    repeat refine kX_one rfl ?_
    refine kX_ifF (decide_eq_false (nI_pos (by omega))) ?_
    iterate 4 (refine kX_one rfl ?_)
    refine kX_ialdV rfl rfl (by decide) (k) (by first | rfl | decide) (by omega) (ho k hk) ?_
    iterate 3 (refine kX_one rfl ?_)
    refine kX_ialdV rfl rfl (by decide) (k) (by first | rfl | decide) (by omega) (w1) ?_
    iterate 2 (refine kX_one rfl ?_)
    refine kX_top (nI_1 (oG os k (dG os w k))) ?_
    refine kX_cal (mr_nextOf L xs d (va_up τ 293 CH) n b op[k] (oG os k (dG os w k) + 1) hT u1 hcn) rfl (Or.inr rfl) rfl rfl rfl (fun r1 σ1 q1 => ?_)
    obtain ⟨hx, rfl⟩ := q1
    obtain ⟨x1, x2⟩ := nx_at (σ := σ) (j := dG os w k + 1) hofs (Or.inr ⟨dG os w k, by omega, rfl, by rw [hG _ (by omega)]⟩) hx
    by_cases hl : dG os w k + 1 < (opL σ so n).length
    · obtain rfl := x1 hl
      have hz : (opL σ so n)[dG os w k + 1]'hl < n := ((opL_mem σ so n _).mp (List.getElem_mem hl)).1
      repeat refine kX_one rfl ?_
      refine kX_ifT (decide_eq_true (Int32.not_lt.mp (nI_pos (by omega)))) ?_
      have := he (k + 1) CH i1 i2 i3 (fun k' e => by
        obtain rfl : k = k' := by omega
        rw [hLk]
        exact hl)
      rw [nI_pred] at this
      exact this
    · obtain rfl := x2 (by omega)
      iterate 8 (refine kX_one rfl ?_)
      refine kX_ialdV rfl rfl (by decide) (k) (by first | rfl | decide) (by omega) (ho k hk) ?_
      iterate 1 (refine kX_one rfl ?_)
      refine kX_cal (mr_nextOf L xs d (va_up τ 293 CH) n b op[k] 0 hT u1 (Nat.zero_le _)) rfl (Or.inr rfl) rfl rfl rfl (fun r1 σ1 q1 => ?_)
      obtain ⟨hx2, rfl⟩ := q1
      have h0 : 0 < (opL σ so n).length := by omega
      obtain rfl := (nx_at (σ := σ) (j := 0) hofs (Or.inl ⟨rfl, rfl⟩) hx2).1 h0
      refine kX_iastN rfl rfl (by decide) (k) (by first | rfl | decide) (by omega) ?_
      iterate 2 (refine kX_one rfl ?_)
      have := ih (k, upd CH k (nI ((opL σ so n)[0]'h0))) ⟨by simp only; omega, fun p hp => by
        simp only at hp ⊢
        rw [pk_un (by omega)]
        exact i2 p (by omega), fun p hp hp' => by
        simp only at hp ⊢
        by_cases e : p = k
        · subst e
          rw [pk_us, hG 0 h0, hLk]
          exact ⟨rfl, by omega⟩
        · rw [pk_un e]
          exact i3 p (by omega) hp'⟩ (by simp only; omega)
      dsimp only at this
      rw [← nI_dec] at this
      refine kX_to _ _ rfl rfl rfl ?_ this
      funext c; first
        | ((repeat (refine va_case ?_ ?_; (· (intro h; first | (subst h; rfl) | (unfold va_up; repeat' split; (all_goals first | rfl | omega | (subst_vars; rfl) | (funext j; unfold upd; repeat' split; all_goals first | rfl | omega | (subst_vars; rfl)))))); intro h)); (repeat (refine va_case2 ?_ ?_; (· (intro h; first | exact absurd h (by assumption) | (subst h; rfl) | (subst h; funext j; unfold upd; repeat' split; (all_goals first | rfl | omega | (subst_vars; rfl))))); intro h)); rfl)
        | (unfold va_up; repeat' split
           all_goals first | rfl | omega | (subst_vars; rfl) | (funext j; unfold upd; repeat' split; all_goals first | rfl | omega | (subst_vars; rfl)))
set_option maxRecDepth 100000 in
set_option maxHeartbeats 4000000 in
theorem mf_rc_turn (L : Nat) (xs : Nat → Int32) (d : Nat) (σ τ : kS) (n b0 b w : Nat) (op : List Nat) (os : List (List Nat)) (h : mTb σ n b0) (hF : mSf σ τ n) (hT : mTb τ n b) (hO : opW σ n op os) (ho : lst (τ 292) op) (hw : w < wyN (os.map List.length)) (hC : ∀ p, p < op.length → τ 293 p = nI (oG os p (dG os w p))) (x s t : Int32) (my : Int64) (Q : Option Value → kS → Prop)
    (hend : w + 1 = wyN (os.map List.length) → ∀ CH, kX kT L xs (d + 3) 217 414 [(0, .ref 232), (1, .int x), (2, .int s), (3, .int t)] [] (va_up τ 293 CH) Q)
    (hgo : w + 1 < wyN (os.map List.length) → ∀ CH, (∀ p, p < op.length → CH p = nI (oG os p (dG os (w + 1) p))) → kX kT L xs (d + 3) 217 192 [(7, .int 1), (0, .ref 232), (1, .int x), (2, .int s), (3, .int t), (4, .int (nI op.length)), (5, .long my)] [] (va_up τ 293 CH) Q) :
    kX kT L xs (d + 3) 217 308 [(0, .ref 232), (1, .int x), (2, .int s), (3, .int t), (4, .int (nI op.length)), (5, .long my)] [] τ Q := by
  have hn := hT.1
  obtain ⟨o1, o6, o2⟩ := id hO
  iterate 4 (refine kX_one rfl ?_)
  have hdown := mf_rc_down L xs d σ τ n b0 b w op os h hF hT hO ho hw x s t my Q (fun K CH hK g1 g2 g3 => ?_) (op.length, τ 293) ⟨Nat.le_refl _, hC, fun p hp hp' => absurd hp (by simp only; omega)⟩
  · refine kX_to _ _ rfl rfl rfl ?_ hdown
    funext c; first
      | ((repeat (refine va_case ?_ ?_; (· (intro h; first | (subst h; rfl) | (unfold va_up; repeat' split; (all_goals first | rfl | omega | (subst_vars; rfl) | (funext j; unfold upd; repeat' split; all_goals first | rfl | omega | (subst_vars; rfl)))))); intro h)); (repeat (refine va_case2 ?_ ?_; (· (intro h; first | exact absurd h (by assumption) | (subst h; rfl) | (subst h; funext j; unfold upd; repeat' split; (all_goals first | rfl | omega | (subst_vars; rfl))))); intro h)); rfl)
      | (unfold va_up; repeat' split
         all_goals first | rfl | omega | (subst_vars; rfl) | (funext j; unfold upd; repeat' split; all_goals first | rfl | omega | (subst_vars; rfl)))
  · rcases Nat.eq_zero_or_pos K with rfl | hKp
    · have hW : w + 1 = wyN (os.map List.length) := Classical.byContradiction (fun z => by
        obtain ⟨jj, j1, j2, -⟩ := dG_odo (os := os) (w := w) (by omega)
        have := (g2 jj (Nat.zero_le _) (by omega)).2
        omega)
      iterate 9 (refine kX_one rfl ?_)
      exact kX_lv _ rfl rfl rfl (hend hW CH)
    · obtain ⟨k, rfl⟩ : ∃ k, K = k + 1 := ⟨K - 1, by omega⟩
      have hk : k < op.length := hK
      have g3 := g3 k rfl
      have hW : w + 1 < wyN (os.map List.length) := Classical.byContradiction (fun z => by
        have := dG_mx (os := os) (w := w) (p := k) (by omega) (by omega)
        omega)
      obtain ⟨jj, j1, j2, j3, j4, j5⟩ := dG_odo hW
      have ejj : jj = k := by
        rcases Nat.lt_trichotomy jj k with z | z | z
        · have := (j5 k (by omega) z).1
          omega
        · exact z
        · have := (g2 jj (by omega) (by omega)).2
          omega
      subst ejj
      obtain ⟨u1, so, s1, s2, s3⟩ := o2 jj hk (by omega)
      have hLk : oL os jj = (opL σ so n).length := by
        unfold oL
        rw [og_at (show jj < os.length by omega), s3]
      have hG : ∀ j (hj : j < (opL σ so n).length), oG os jj j = (opL σ so n)[j]'hj := fun j hj => by
        unfold oG
        rw [og_at (show jj < os.length by omega), s3, List.getD_eq_getElem?_getD, List.getElem?_eq_getElem hj]
        rfl
      have w1 : CH jj = nI (oG os jj (dG os w jj)) := g1 jj (by omega)
      have hcn : oG os jj (dG os w jj) < n := by
        rw [hG _ (by omega)]
        exact ((opL_mem σ so n _).mp (List.getElem_mem _)).1
      have hofs := ofs_gS h (mSf_trans hF (mSf_up (σ := τ) (c := 293) (f := CH) (by decide))) s2 s1
      rw [nI_pred]
      iterate 1 (refine kX_one rfl ?_)
      repeat refine kX_one rfl ?_
      refine kX_ifF (decide_eq_false (nI_pos (by omega))) ?_
      iterate 12 (refine kX_one rfl ?_)
      refine kX_ialdV rfl rfl (by decide) (jj) (by first | rfl | decide) (by omega) (ho jj hk) ?_
      iterate 3 (refine kX_one rfl ?_)
      refine kX_ialdV rfl rfl (by decide) (jj) (by first | rfl | decide) (by omega) (w1) ?_
      iterate 2 (refine kX_one rfl ?_)
      refine kX_top (nI_1 (oG os jj (dG os w jj))) ?_
      refine kX_cal (mr_nextOf L xs d (va_up τ 293 CH) n b op[jj] (oG os jj (dG os w jj) + 1) hT u1 hcn) rfl (Or.inr rfl) rfl rfl rfl (fun r1 σ1 q1 => ?_)
      obtain ⟨hx, rfl⟩ := q1
      have hl : dG os w jj + 1 < (opL σ so n).length := by omega
      obtain rfl := (nx_at (σ := σ) (j := dG os w jj + 1) hofs (Or.inr ⟨dG os w jj, by omega, rfl, by rw [hG _ (by omega)]⟩) hx).1 hl
      refine kX_iastN rfl rfl (by decide) (jj) (by first | rfl | decide) (by omega) ?_
      iterate 1 (refine kX_one rfl ?_)
      refine kX_to [(7, .int 1), (0, .ref 232), (1, .int x), (2, .int s), (3, .int t), (4, .int (nI op.length)), (5, .long my)] (va_up τ 293 (upd CH jj (nI ((opL σ so n)[dG os w jj + 1]'hl)))) rfl rfl rfl ?_ (hgo hW _ (fun p hp => ?_))
      · funext c; first
          | ((repeat (refine va_case ?_ ?_; (· (intro h; first | (subst h; rfl) | (unfold va_up; repeat' split; (all_goals first | rfl | omega | (subst_vars; rfl) | (funext j; unfold upd; repeat' split; all_goals first | rfl | omega | (subst_vars; rfl)))))); intro h)); (repeat (refine va_case2 ?_ ?_; (· (intro h; first | exact absurd h (by assumption) | (subst h; rfl) | (subst h; funext j; unfold upd; repeat' split; (all_goals first | rfl | omega | (subst_vars; rfl))))); intro h)); rfl)
          | (unfold va_up; repeat' split
             all_goals first | rfl | omega | (subst_vars; rfl) | (funext j; unfold upd; repeat' split; all_goals first | rfl | omega | (subst_vars; rfl)))
      · by_cases e : p = jj
        · subst e
          rw [pk_us, j3, hG _ hl]
        · rw [pk_un e]
          by_cases e2 : p < jj
          · rw [j4 p e2]
            exact g1 p (by omega)
          · rw [(j5 p (by omega) (by omega)).2]
            exact (g2 p (by omega) hp).1
end
