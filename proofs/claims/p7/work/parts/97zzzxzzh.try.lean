/-! alike: tryWays, walked -/
theorem ow_cs (σ : kS) (n r dn : Nat) : (owS σ r dn).map (fun so => (opL σ so n).length) = (owO σ n r dn).map List.length := by
  unfold owS owO
  rw [List.map_map, List.map_map]
  rfl
theorem iE_q {τ ω : kS} {K st n u m : Nat} {l : rwT} (e : ∀ c, c ≠ 202 → c ≠ 222 → c ≠ 229 → c ≠ 230 → c ≠ 231 → ω c = τ c) (h : iE τ K st n u m l) : iE ω K st n u m l ∧ kTr ω l = kTr τ l := by
  have b := isK_b h.1
  have e' : ∀ c, c < 202 ∨ (202 < c ∧ c < 222) ∨ (222 < c ∧ c < 229) ∨ 231 < c → ω c = τ c := fun c hc => e c (by omega) (by omega) (by omega) (by omega) (by omega)
  refine iE_ot h ⟨fun z _ => ?_, e' _ (by decide), fun c c1 c2 => e' c ?_, ?_, e' _ (by decide)⟩ (e' _ (by decide)) (fun t ht => ?_)
  · rw [e' 2 (by decide), e' 3 (by decide), e' 4 (by decide), e' 5 (by decide), e' 6 (by decide)]
    exact ⟨rfl, rfl, rfl, rfl, rfl⟩
  · rcases h.1 with ⟨k1, -⟩ | ⟨k1, -⟩ | ⟨k1, -⟩ <;> omega
  · unfold mA
    rw [e' 233 (by decide)]
  · have := h.2.2.2.1 t ht
    unfold aT1 at this ⊢
    rw [e' 2 (by decide), e' 3 (by decide), e' 4 (by decide), e' 5 (by decide), e' 8 (by decide), e' 9 (by decide), e' 10 (by decide), e' 11 (by decide), e' 12 (by decide), e' 233 (by decide), e' 234 (by decide), e' 235 (by decide), e' 236 (by decide), e' 237 (by decide), e' 238 (by decide), e' 239 (by decide), e' 240 (by decide), e' 241 (by decide)]
    exact this
theorem cX_f {σ τ ω : kS} {n R S C mm : Nat} {x x' : sX} (h : cX σ τ n R S C x mm) (e' : ∀ c, c ≠ 195 → ω c = τ c) (e1 : x'.1 = x.1) (hf : cFx σ ω S C x') (ha : cAy ω x') : cX σ ω n R S C x' mm := by
  obtain ⟨⟨a1, a2, a3, a4, a5⟩, g2, g3, -, g5, ⟨m2, g6, g6'⟩, ⟨u3, m3, l3, g7, g8⟩, g9, -⟩ := h
  have hgt : ∀ g, 200 ≤ g → ω 2 g = τ 2 g ∧ ω 3 g = τ 3 g ∧ ω 4 g = τ 4 g ∧ ω 6 g = τ 6 g := fun g _ => by
    rw [e' 2 (by decide), e' 3 (by decide), e' 4 (by decide), e' 6 (by decide)]
    exact ⟨rfl, rfl, rfl, rfl⟩
  refine ⟨⟨sF_trans a1 (sF_of (fun c hc => e' c (by omega))), fun j hj => by rw [e' 5 (by decide)]; exact a2 j hj, cKw_eq (by decide) (e' _ (by decide)) (e' _ (by decide)) (e' _ (by decide)) hgt a3, cKw_eq (by decide) (e' _ (by decide)) (e' _ (by decide)) (e' _ (by decide)) hgt a4, cQ_eq (e' _ (by decide)) (e' _ (by decide)) a5⟩, ?_, ?_, hf, fun so hso => ?_, ⟨m2, g6, kMs_eq (fun c c1 c2 => e' c (by omega)) g6'⟩, ⟨u3, m3, l3, g7, iE_195 (fun c hc => e' c hc) g8⟩, by rw [e1]; exact g9, ha⟩
  · rw [e1]
    unfold sWi at g2 ⊢
    rw [e' 196 (by decide), e' 197 (by decide), e' 201 (by decide), e' 200 (by decide)]
    exact g2
  · rw [e1]
    unfold cSx stF at g3 ⊢
    rw [e' 197 (by decide), e' 198 (by decide), e' 199 (by decide)]
    exact g3
  · rw [e' 228 (by decide), e' (224 + so) (by omega)]
    exact g5 so hso
/-- a way was weighed -/
theorem cX_w {σ τ ω : kS} {n R S C mm u m2 : Nat} {x : sX} {l : rwT} (h : cX σ τ n R S C x mm) (hw : wqF τ ω) (hE : iE ω 204 776 n u m2 l) (hm : m2 ≤ mm) (hq : cQ ω) : cX σ ω n R S C x mm := by
  obtain ⟨⟨h1, h2, h3, h4, h5⟩, g2, g3, g4, g5, ⟨m2', g6, g6'⟩, ⟨u3, m3, l3, g7, g8⟩, g9, g10⟩ := h
  have e' : ∀ c, c < 210 ∨ (210 < c ∧ c < 230) ∨ 231 < c → ω c = τ c := fun c hc => hw c (by omega) (by omega) (by omega)
  have hgt : ∀ g, 200 ≤ g → ω 2 g = τ 2 g ∧ ω 3 g = τ 3 g ∧ ω 4 g = τ 4 g ∧ ω 6 g = τ 6 g := fun g _ => by
    rw [e' 2 (by decide), e' 3 (by decide), e' 4 (by decide), e' 6 (by decide)]
    exact ⟨rfl, rfl, rfl, rfl⟩
  refine ⟨⟨sF_trans h1 (sF_of (fun c hc => e' c (by omega))), fun j hj => by rw [e' 5 (by decide)]; exact h2 j hj, cKw_eq (by decide) (e' _ (by decide)) (e' _ (by decide)) (e' _ (by decide)) hgt h3, cKw_eq (by decide) (e' _ (by decide)) (e' _ (by decide)) (e' _ (by decide)) hgt h4, hq⟩, ?_, ?_, ?_, fun so hso => ?_, ⟨m2, hm, hE.2.2.2.2.2.1⟩, ⟨u3, m3, l3, g7, ?_⟩, g9, ?_⟩
  · unfold sWi at g2 ⊢
    rw [e' 196 (by decide), e' 197 (by decide), e' 201 (by decide), e' 200 (by decide)]
    exact g2
  · unfold cSx stF at g3 ⊢
    rw [e' 197 (by decide), e' 198 (by decide), e' 199 (by decide)]
    exact g3
  · unfold cFx at g4 ⊢
    rw [e' 195 (by decide)]
    exact g4
  · rw [e' 228 (by decide), e' (224 + so) (by omega)]
    exact g5 so hso
  · refine (iE_ot g8 ⟨fun z _ => ?_, e' _ (by decide), fun c c1 c2 => e' c (by omega), ?_, e' _ (by decide)⟩ (e' _ (by decide)) hE.2.2.2.1).1
    · rw [e' 2 (by decide), e' 3 (by decide), e' 4 (by decide), e' 5 (by decide), e' 6 (by decide)]
      exact ⟨rfl, rfl, rfl, rfl, rfl⟩
    · unfold mA
      rw [e' 233 (by decide)]
  · unfold cAy at g10 ⊢
    rw [e' 195 (by decide), e' 198 (by decide), e' 199 (by decide), e' 203 (by decide)]
    exact g10
/-- the draft is among the STATES -/
theorem cX_in {σ τ : kS} {n R S C mm : Nat} {x : sX} {a : Nat → Int32} (h : cX σ τ n R S C x mm) (ha : stF τ 202 0 S = a) : sIn τ (7 * S) x.1.length ↔ ∃ q ∈ x.1, q.1 = a := by
  rw [xq_mem]
  unfold sIn
  refine exists_congr (fun i => and_congr_right (fun hi => ?_))
  rw [← (h.2.2.1 i hi).1, ← ha, stF_eq]
  refine ⟨fun z j hj => ?_, fun z j hj => ?_⟩
  · rw [Nat.zero_add]
    exact (z j hj).symm
  · have := z j hj
    rw [Nat.zero_add] at this
    exact this.symm
set_option maxRecDepth 100000 in
set_option maxHeartbeats 4000000 in
theorem mX_tryWays (L : Nat) (xs : Nat → Int32) (d : Nat) (σ τ : kS) (n b R S C m0 mm i s r dn t u m2 W : Nat) (kl : List Nat) (x : sX) (a : Nat → Int32) (l : rwT) (h : aJ σ n b R S C kl m0) (hX : cX σ τ n R S C x mm) (hE : iE τ 204 776 n u m2 l) (hm2 : m2 ≤ mm) (hi : i < x.1.length) (hai : (xq x.1 i).1 = a) (hs : s < S) (r1 : r < R) (r2 : σ 255 s = nI r) (r3 : a (7 * s) = nI dn) (hdn : dn < fN (σ 247 r)) (hse : σ 249 (6 * r + dn) = 0) (ht : t < n) (het : σ 248 (6 * r + dn) = nI t) (htr : kTr τ l = trSt (stI σ a) kl S) (hD : ∀ j, j < 7 * S → τ 202 j = aUp a s j) (han : x.2.2.2 = 0) (hW : wyN ((owO σ n r dn).map List.length) = W) (X : sX) (hXe : X = cit (20000 < x.2.1 + W) (x.1, 20001, x.2.2.1, -7) (sWy σ kl S C i s a t (owP σ r dn) (owO σ n r dn) W 0 (x.1, x.2.1 + W, x.2.2.1, x.2.2.2))) :
    kXM kT L xs (d + 56) 83 [.ref 195, .int (nI i), .int (nI s), .ref (28 + 35 * r + 5 * dn)] τ (fun q ω => q = none ∧ cX σ ω n R S C X mm ∧ iE ω 204 776 n u m2 l ∧ kTr ω l = trSt (stI σ a) kl S) := by
  have hT := h.1.1
  have hR := h.1.2.1
  have hn := hT.1
  have hS4 := h.1.2.2.1.1
  have hR4 := hR.1
  have hs4 : s < 4 := by omega
  have hr4 : r < 4 := by omega
  have he6 : fN (σ 247 r) ≤ 6 := by
    obtain ⟨-, e, e1, e2⟩ := hR.2.2.1 r r1
    rw [e2, fN_nI (by omega)]
    exact e1
  have hk6 : dn < 6 := by omega
  have b0 := ev_b r dn 0 hr4 hk6 (by decide)
  have b4 := ev_b r dn 4 hr4 hk6 (by decide)
  have hok : aOk σ n R S a := by
    rw [← hai]
    exact (hX.2.2.2.2.2.2.2.1.2 i hi).1
  obtain ⟨w1, w2, w3, w4, w5, w6⟩ := hX.2.2.2.1
  obtain ⟨bo1, bo2, bo3, bo4, bo5⟩ := bls_ok hT hR r1 hdn het ht
  have h6 : ∀ v ∈ bls σ r dn, fN (σ 241 v) < 6 := fun v hv => by
    obtain ⟨-, ⟨k, k1, k2⟩, -⟩ := bo3 v hv
    rw [k2, fN_nI (by omega)]
    exact k1
  have hpw := ow_pw hT hR r1 hdn het ht
  have lP : (owP σ r dn).length = (bls σ r dn).length := (ow_len σ n r dn 0).1
  have lO : (owO σ n r dn).length = (bls σ r dn).length := (ow_len σ n r dn 0).2.1
  have lS : (owS σ r dn).length = (bls σ r dn).length := by unfold owS; rw [List.length_map]
  have hPj : ∀ j (hj : j < (bls σ r dn).length), (owP σ r dn)[j]'(by omega) = fN (σ 241 ((bls σ r dn)[j]'hj)) := fun j hj => by
    simp only [owP, List.getElem_map]
  have hf200 : ∀ so, so < 4 → (opL σ so n).length ≤ 200 := fun so _ => by have := opL_len σ so n; omega
  have hcs : ∀ c ∈ (owO σ n r dn).map List.length, c ≤ 200 := fun c hc => by
    obtain ⟨q, hq, rfl⟩ := List.mem_map.mp hc
    unfold owO at hq
    obtain ⟨v, hv, rfl⟩ := List.mem_map.mp hq
    have := opL_len σ (fN (σ 240 v)) n
    omega
  have hWle : W ≤ 200 ^ 6 := by
    rw [← hW]
    refine Nat.le_trans (wyN_le hcs) (Nat.pow_le_pow_right (by decide) ?_)
    rw [List.length_map]
    omega
  have hW63 : W < 9223372036854775808 := Nat.lt_of_le_of_lt hWle (by decide)
  obtain ⟨hev, pl, hpl, hsub, hpf⟩ := ev_facts h hX.1 r1 hdn hse ht het
  have hevo : ∀ {ω : kS}, cGx σ ω → evQ ω (28 + 35 * r + 5 * dn) (owP σ r dn) (owS σ r dn) := fun hG => (ev_facts h hG r1 hdn hse ht het).1
  have hplo : ∀ {ω : kS}, cGx σ ω → plP ω n (28 + 35 * r + 5 * dn) t pl := fun {ω} hG => by
    have ec : ∀ j, j ≤ 4 → ω (28 + 35 * r + 5 * dn + j) = τ (28 + 35 * r + 5 * dn + j) := fun j hj => by
      rw [sF_13 hG.1 _ (by omega) (by omega), sF_13 hX.1.1 _ (by omega) (by omega)]
    have ec0 : ω (28 + 35 * r + 5 * dn) = τ (28 + 35 * r + 5 * dn) := ec 0 (by omega)
    obtain ⟨p0, p1, p2, p3, p4, p5, p6⟩ := hpl
    refine ⟨p0, by rw [ec0]; exact p1, by rw [ec 3 (by omega)]; exact p2, by rw [ec0]; exact p3, p4, p5, fun j hj q1 q2 p hp q3 => ?_⟩
    have hx := p5 _ (List.getElem_mem hj)
    obtain ⟨x1, x2, x3, -⟩ := hG.1.2 _ (show pl[j]'hj < 776 by omega)
    obtain ⟨y1, y2, y3, -⟩ := hX.1.1.2 _ (show pl[j]'hj < 776 by omega)
    unfold kGd at q1
    rw [kGd_at h hG hx, ← kGd_at h hX.1 hx] at q1
    rw [x1, ← y1] at q2
    rw [x2, x3, ← y2, ← y3] at q3
    exact p6 j hj q1 q2 p hp q3
  have hkvo : ∀ {ω : kS}, cGx σ ω → ∀ y, y < n → kVs ω y = kVs τ y := fun hG y hy => by rw [kVs_at h hG hy, kVs_at h hX.1 hy]
  have hplc : ∀ {ω : kS}, cGx σ ω → ω (28 + 35 * r + 5 * dn + 4) = τ (28 + 35 * r + 5 * dn + 4) := fun hG => by rw [sF_13 hG.1 _ (by omega) (by omega), sF_13 hX.1.1 _ (by omega) (by omega)]
  unfold kXM
  iterate 3 (refine kX_one rfl ?_)
  refine kX_cal (mf_waysOf L xs (d + 54) τ r dn (fun so => opL σ so n) (owS σ r dn) hX.2.2.2.2.1 hf200 hr4 hk6 ⟨hev.1, hev.2.2.1, hev.2.2.2.2.1⟩) rfl (Or.inr rfl) rfl rfl rfl (fun r1 σ1 q1 => ?_)
  obtain ⟨rfl, rfl⟩ := q1
  rw [ow_cs, hW]
  iterate 5 (refine kX_one rfl ?_)
  refine kX_top (w3) ?_
  iterate 3 (refine kX_one rfl ?_)
  repeat refine kX_one rfl ?_
  refine kX_if (fun q => ?_) (fun q => ?_)
  · have hin := lw_in hW63 w4 q
    rw [cit_F (by omega)] at hXe
    have hW32 : W < 2147483648 := by omega
    have loop : ∀ q : Nat × kS × sX, (q.1 ≤ W ∧ cX σ q.2.1 n R S C q.2.2 mm ∧ iE q.2.1 204 776 n u m2 l ∧ kTr q.2.1 l = trSt (stI σ a) kl S ∧ sWy σ kl S C i s a t (owP σ r dn) (owO σ n r dn) (W - q.1) q.1 q.2.2 = X ∧ (i < q.2.2.1.length ∧ (xq q.2.2.1 i).1 = a) ∧ twI σ τ q.2.1 n S s r dn u pl l q.1) → kX kT L xs (d + 56) 83 54 [(6, .int (nI q.1)), (4, .long (lI W)), (0, .ref 195), (1, .int (nI i)), (2, .int (nI s)), (3, .ref (28 + 35 * r + 5 * dn))] [] q.2.1 (fun q ω => q = none ∧ cX σ ω n R S C X mm ∧ iE ω 204 776 n u m2 l ∧ kTr ω l = trSt (stI σ a) kl S) := by
      refine kX_while (fun q : Nat × kS × sX => [(6, .int (nI q.1)), (4, .long (lI W)), (0, .ref 195), (1, .int (nI i)), (2, .int (nI s)), (3, .ref (28 + 35 * r + 5 * dn))]) (fun q => q.2.1) _ (fun q => W - q.1) ?_
      rintro ⟨w, ω, x1⟩ ⟨j0, j1, j2, j3, j4, ⟨j5, j5'⟩, j6⟩ ih
      dsimp only at j0 j1 j2 j3 j4 j5 j5' j6 ih ⊢
      repeat refine kX_one rfl ?_
      refine kX_if (fun q => ?_) (fun q => ?_)
      · have q := lw_ge (by omega) hW32 q
        rw [show W - w = 0 by omega] at j4
        have j4 : x1 = X := j4
        subst j4
        refine kX_ret (i := .return_) (len := 1) rfl (Or.inr rfl) rfl (⟨rfl, j1, j2, j3⟩)
      · have q := lw_geF (by omega) hW32 q
        have hans := j1.2.2.2.1.2.2.2.2.2
        repeat refine kX_one rfl ?_
        refine kX_if (fun q2 => ?_) (fun q2 => ?_)
        · have q2 : x1.2.2.2 ≠ 0 := fun e => qne q2 (hans.trans e)
          rw [sWy_n q2] at j4
          subst j4
          refine kX_ret (i := .return_) (len := 1) rfl (Or.inr rfl) rfl (⟨rfl, j1, j2, j3⟩)
        · have q2 : x1.2.2.2 = 0 := hans.symm.trans (qneF q2)
          obtain ⟨m', hm'⟩ : ∃ m', W - w = m' + 1 := ⟨W - w - 1, by omega⟩
          rw [hm', sWy_s q2] at j4
          have hwW : w < wyN ((owO σ n r dn).map List.length) := by rw [hW]; exact q
          obtain ⟨ok1, ok2, ok3⟩ := aOk_way hT hR hok hs r1 r2 r3 hdn hse ht het hwW
          have k138 : ∀ ρ x2, cX σ ρ n R S C x2 mm → iE ρ 204 776 n u m2 l → kTr ρ l = trSt (stI σ a) kl S → x2 = sW1 σ kl n S C i s a r dn t w x1 → twI σ τ ρ n S s r dn u pl l (w + 1) → ∀ lv, nk lv = true → ([(6, .int (nI w)), (4, .long (lI W)), (0, .ref 195), (1, .int (nI i)), (2, .int (nI s)), (3, .ref (28 + 35 * r + 5 * dn))] : jL).map (fun q => jl lv q.1) = ([(6, .int (nI w)), (4, .long (lI W)), (0, .ref 195), (1, .int (nI i)), (2, .int (nI s)), (3, Value.ref (28 + 35 * r + 5 * dn))] : jL).map (fun q => some q.2) → kX kT L xs (d + 56) 83 138 lv [] ρ (fun q ω => q = none ∧ cX σ ω n R S C X mm ∧ iE ω 204 776 n u m2 l ∧ kTr ω l = trSt (stI σ a) kl S) := by
            intro ρ x2 y1 y2 y3 y4 y5 lv hk hlv
            refine kX_lv _ hk rfl hlv ?_
            have hpre := sW1_pre (σ := σ) (kl := kl) (n := n) (S := S) (C := C) (i := i) (s := s) (r := r) (dn := dn) (t := t) (w := w) (a := a) j5
            rw [← y4] at hpre
            iterate 2 (refine kX_one rfl ?_)
            have := ih (w + 1, ρ, x2) ⟨by simp only; omega, y1, y2, y3, by simp only; rw [show W - (w + 1) = m' by omega, y4]; exact j4, ⟨hpre.1, by simp only; rw [hpre.2]; exact j5'⟩, y5⟩ (by simp only; omega)
            dsimp only at this
            rw [← nI_1] at this
            exact kX_lv _ rfl rfl rfl this
          have k95 : ∀ ρ f, f ≤ 24 → wyQ ω ρ s (owP σ r dn) (owS σ r dn) (fun so => opL σ so n) (fun j => (dg ((owO σ n r dn).map List.length) w).getD j 0) (τ 202) (owS σ r dn).length → (∀ j (hj : j < pl.length), j < f → ptQ ρ n u l s (pl[j]'hj)) → kX kT L xs (d + 56) 83 95 [(6, .int (nI w)), (4, .long (lI W)), (0, .ref 195), (1, .int (nI i)), (2, .int (nI s)), (3, .ref (28 + 35 * r + 5 * dn))] [.int (nI f)] ρ (fun q ω => q = none ∧ cX σ ω n R S C X mm ∧ iE ω 204 776 n u m2 l ∧ kTr ω l = trSt (stI σ a) kl S) := by
            intro ρ f hf hy hptf
            have eq1 : ∀ c, c ≠ 202 → c ≠ 222 → c ≠ 229 → c ≠ 230 → c ≠ 231 → ρ c = ω c := fun c c1 c2 c3 _ _ => hy.1 c c2 c3 c1
            have hXr : cX σ ρ n R S C x1 mm := cX_q j1 eq1 ⟨by rw [hy.1 231 (by decide) (by decide) (by decide)]; exact j1.1.2.2.2.2.1, 7 * s + 1, by omega, hy.2.1⟩
            obtain ⟨hEr, hTrr⟩ := iE_q eq1 j2
            rw [j3] at hTrr
            have hst : stF ρ 202 0 S = aWy σ n r dn s a w := wy_st h6 hs hD hok.1 hpw (fun j hj hj' => hy.2.2.2.1 j hj hj' hj') (fun k hk => hy.2.2.2.2 k (fun j hj _ => hk j hj))
            obtain ⟨-, tb2, tb3, tb4⟩ := tb_at h hXr.1
            have hkst : ∀ y ∈ pl, kSt ρ n 202 (7 * s + 1) (wV ρ s) y := fun y hy' => (wy_iT h hXr.1 hst hs (hsub y hy').1 ok3 (fun v hv => (hsub y hy').2 v (by rw [← hkvo hXr.1 y (hsub y hy').1]; exact hv))).1
            have hpl1 := hplo hXr.1
            have hiT : iT ρ s t = tin (stI σ (aWy σ n r dn s a w)) s t := (wy_iT h hXr.1 hst hs ht ok3 (fun v hv => by rw [kVs_at h hXr.1 ht] at hv; exact hv)).2
            have hvm : vmk (kIn ρ l) (mA ρ) (ρ 238) (iT ρ s t) = trM σ (trSt (stI σ a) kl S) (tin (stI σ (aWy σ n r dn s a w)) s t) := by
              unfold trM
              rw [← hTrr, kTr_I, hiT]
              unfold mA
              rw [sF_hi hXr.1.1 233 (by decide), sF_hi hXr.1.1 238 (by decide)]
            iterate 5 (refine kX_one rfl ?_)
            refine kX_cal (mf_weigh L xs (d + 2) ρ n u m2 r dn s f t l pl hEr tb3 tb4 hr4 hk6 hpl1 hkst hs4 hy.2.1 hf hptf) rfl (Or.inr rfl) rfl rfl rfl (fun r1 π q1 => ?_)
            obtain ⟨rfl, hwq, hEp, hptp, hnp⟩ := q1
            rw [hvm]
            have hQp : cQ π := by
              refine ⟨fun j hj => ?_, 7 * s + 1, by omega, by rw [hwq 222 (by decide) (by decide) (by decide)]; exact hy.2.1⟩
              by_cases e : j ∈ pl
              · have := (hptp j e).2
                show π 231 j = 0 ∨ π 231 j = 1
                rw [this]
                exact isB_01 _
              · show π 231 j = 0 ∨ π 231 j = 1
                rw [hnp j e]
                exact hXr.1.2.2.2.2.1 j hj
            have hXp : cX σ π n R S C x1 mm := cX_w hXr hwq hEp hm2 hQp
            have hTrp : kTr π l = trSt (stI σ a) kl S := by
              rw [← hTrr]
              unfold kTr kTv
              rw [hwq 2 (by decide) (by decide) (by decide), hwq 3 (by decide) (by decide) (by decide), hwq 4 (by decide) (by decide) (by decide)]
            have hstp : stF π 202 0 S = aWy σ n r dn s a w := by
              rw [← hst]
              unfold stF
              rw [hwq 202 (by decide) (by decide) (by decide)]
            have hnext : ∀ κ : kS, κ 222 = π 222 → κ 229 = π 229 → κ 202 = π 202 → (∀ y ∈ pl, ptQ κ n u l s y) → twI σ τ κ n S s r dn u pl l (w + 1) := fun κ e1 e2 e3 e4 => by
              refine ⟨fun z => absurd z (by omega), fun _ => ⟨⟨fun _ _ _ _ => rfl, ?_, ?_, ?_, ?_⟩, e4⟩⟩
              · rw [e1, hwq 222 (by decide) (by decide) (by decide)]
                exact hy.2.1
              · rw [e2, hwq 229 (by decide) (by decide) (by decide), Nat.add_sub_cancel]
                exact hy.2.2.1
              · rw [e3, hwq 202 (by decide) (by decide) (by decide), Nat.add_sub_cancel]
                exact hy.2.2.2.1
              · rw [e3, hwq 202 (by decide) (by decide) (by decide)]
                exact hy.2.2.2.2
            by_cases hcan : trM σ (trSt (stI σ a) kl S) (tin (stI σ (aWy σ n r dn s a w)) s t)
            · rw [isB_T hcan]
              have hw1 : sW1 σ kl n S C i s a r dn t w x1 = sRe σ kl S C x1 (aWy σ n r dn s a w) (nI i) (nI s) := by
                unfold sW1
                rw [cit_T hcan]
              iterate 7 (refine kX_one rfl ?_)
              refine kX_top (y := nI (7 * S)) hXp.2.2.2.1.1 ?_
              refine kX_cal (mf_stHas L xs (d + 53) π (7 * S) x1.1.length (by omega) hXp.2.1) rfl (Or.inr rfl) rfl rfl rfl (fun r1 σ1 q1 => ?_)
              obtain ⟨rfl, rfl⟩ := q1
              rw [isB_iff (cX_in hXp hstp)]
              by_cases hin2 : ∃ q ∈ x1.1, q.1 = aWy σ n r dn s a w
              · rw [isB_T hin2]
                iterate 1 (refine kX_one rfl ?_)
                refine k138 π x1 hXp hEp hTrp ?_ (hnext π rfl rfl rfl hptp) _ rfl rfl
                rw [hw1]
                unfold sRe
                rw [cit_T hin2]
              · rw [isB_F hin2]
                iterate 6 (refine kX_one rfl ?_)
                refine kX_cal (mX_reach L xs d σ π n b R S C m0 mm 204 776 u m2 kl x1 (aWy σ n r dn s a w) l (nI i) (nI s) h hXp (Or.inl ⟨rfl, rfl⟩) hEp hm2 hstp ok1 hin2 q2 (Or.inr ⟨i, s, j5, rfl, rfl, by rw [j5']; exact ok2⟩) (fun _ => by rw [hTrp, tr_way h hok hs r1 r2 r3 hdn hse ht het hwW])) rfl (Or.inr rfl) rfl rfl rfl (fun r1 κ q1 => ?_)
                obtain ⟨rfl, hXk, hEk, hre⟩ := q1
                have hrc : ∀ c, c < 195 ∨ c = 202 ∨ 204 ≤ c → c ≠ 210 → κ c = π c := fun c c1 c2 => hre c c1 c2
                refine k138 κ _ hXk hEk ?_ hw1.symm (hnext κ (hrc _ (by decide) (by decide)) (hrc _ (by decide) (by decide)) (hrc _ (by decide) (by decide)) (fun y hy' => ?_)) _ rfl rfl
                · rw [← hTrp]
                  unfold kTr kTv
                  rw [hrc 2 (by decide) (by decide), hrc 3 (by decide) (by decide), hrc 4 (by decide) (by decide)]
                · have hp := hptp y hy'
                  have eiT : iT κ s y = iT π s y := by
                    unfold iT tW wV kTv
                    rw [hrc 2 (by decide) (by decide), hrc 3 (by decide) (by decide), hrc 4 (by decide) (by decide), hrc 12 (by decide) (by decide), hrc 202 (by decide) (by decide)]
                  unfold ptQ vaQ at hp ⊢
                  rw [eiT, hrc 230 (by decide) (by decide), hrc 231 (by decide) (by decide)]
                  unfold kIn kTv kGd mA at hp ⊢
                  rw [hrc 2 (by decide) (by decide), hrc 3 (by decide) (by decide), hrc 4 (by decide) (by decide), hrc 233 (by decide) (by decide), hrc 238 (by decide) (by decide)]
                  exact hp
            · rw [isB_F hcan]
              iterate 1 (refine kX_one rfl ?_)
              refine k138 π x1 hXp hEp hTrp ?_ (hnext π rfl rfl rfl hptp) _ rfl rfl
              unfold sW1
              rw [cit_F hcan]
          have hpos : ∀ so ∈ owS σ r dn, 0 < (opL σ so n).length := fun so hso => by
            have hp : 0 < wyN ((owO σ n r dn).map List.length) := by omega
            rw [← ow_cs] at hp
            exact wyN_0 hp _ (List.mem_map.mpr ⟨so, hso, rfl⟩)
          repeat refine kX_one rfl ?_
          refine kX_if (fun q3 => ?_) (fun q3 => ?_)
          · have q3 : w ≠ 0 := fun e => qne q3 (by rw [e]; rfl)
            obtain ⟨hy0, hpt0⟩ := j6.2 q3
            obtain ⟨jj, hjj, o1, o2, o3, o4⟩ := odo ((owO σ n r dn).map List.length) (w - 1) (by omega)
            rw [show w - 1 + 1 = w by omega] at o2 o3 o4
            have ld : ∀ v, (dg ((owO σ n r dn).map List.length) v).length = (bls σ r dn).length := fun v => by rw [dg_len, List.length_map, lO]
            have gd : ∀ v j (hj : j < (dg ((owO σ n r dn).map List.length) v).length), (dg ((owO σ n r dn).map List.length) v).getD j 0 = (dg ((owO σ n r dn).map List.length) v)[j]'hj := fun v j hj => by
              rw [List.getD_eq_getElem?_getD, List.getElem?_eq_getElem hj]
              rfl
            have ln : ∀ j (hj : j < (owS σ r dn).length) (hj' : j < ((owO σ n r dn).map List.length).length), ((owO σ n r dn).map List.length)[j]'hj' = (opL σ ((owS σ r dn)[j]'hj) n).length := fun j hj hj' => by
              rw [List.getElem_map]
              simp only [owO, owS, List.getElem_map]
            have hcl : ((owO σ n r dn).map List.length).length = (bls σ r dn).length := by rw [List.length_map, lO]
            have hjb : jj < (bls σ r dn).length := by omega
            obtain ⟨fp, fp1, fp2, fp3⟩ := hpf jj hjb
            have hfp : fp ≤ 24 := by have := hpl.1; omega
            iterate 3 (refine kX_one rfl ?_)
            refine kX_cal (mf_next L xs (d + 53) ω ω r dn s (fun so => opL σ so n) (owP σ r dn) (owS σ r dn) (fun j => (dg ((owO σ n r dn).map List.length) (w - 1)).getD j 0) (fun j => (dg ((owO σ n r dn).map List.length) w).getD j 0) (τ 202) j1.2.2.2.2.1 hf200 hr4 hk6 (hevo j1.1) hs4 hy0 (fun j hj => ?_) jj (by omega) ?_ ?_ (fun j hj => ?_) (fun j hj hjl => ?_) fp (by rw [hplc j1.1]; exact fp2) hfp) rfl (Or.inr rfl) rfl rfl rfl (fun r1 ρ q1 => ?_)
            · have := dg_lt ((owO σ n r dn).map List.length) (w - 1) (by omega) j (by omega)
              rw [ln j hj] at this
              show (dg ((owO σ n r dn).map List.length) (w - 1)).getD j 0 < _
              rw [gd _ _ (by rw [ld]; omega)]
              exact this
            · show (dg ((owO σ n r dn).map List.length) (w - 1)).getD jj 0 + 1 < _
              rw [gd _ _ (by rw [ld]; omega)]
              rw [ln jj (by omega)] at o1
              exact o1
            · show (dg ((owO σ n r dn).map List.length) w).getD jj 0 = (dg ((owO σ n r dn).map List.length) (w - 1)).getD jj 0 + 1
              rw [gd _ _ (by rw [ld]; omega), gd _ _ (by rw [ld]; omega)]
              exact o2
            · show (dg ((owO σ n r dn).map List.length) w).getD j 0 = (dg ((owO σ n r dn).map List.length) (w - 1)).getD j 0
              rw [gd _ _ (by rw [ld]; omega), gd _ _ (by rw [ld]; omega)]
              exact o3 j (by omega) hj
            · show (dg ((owO σ n r dn).map List.length) (w - 1)).getD j 0 + 1 = _ ∧ (dg ((owO σ n r dn).map List.length) w).getD j 0 = 0
              obtain ⟨z1, z2⟩ := o4 j (by omega) hjl
              rw [gd _ _ (by rw [ld]; omega), gd _ _ (by rw [ld]; omega)]
              rw [ln j hj] at z1
              exact ⟨z1, z2⟩
            · obtain ⟨rfl, hy⟩ := q1
              refine kX_lv _ rfl rfl rfl (k95 ρ fp hfp hy (fun j hj hjf => ?_))
              have hxp := (hsub _ (List.getElem_mem hj)).1
              refine pt_shift h j1.1 hy.1 hxp (fun v hv => ?_) (hpt0 _ (List.getElem_mem hj))
              have hv' : v ∈ kVs τ (pl[j]'hj) := by rw [← hkvo j1.1 _ hxp]; exact hv
              have hvt := (hsub _ (List.getElem_mem hj)).2 v hv'
              have hvn := fp3 j hj hjf v hv'
              obtain ⟨te, te1, te2, te3, -⟩ := hR.2.2.2.2.2 r dn r1 hdn
              obtain rfl : t = te := nI_inj (het.symm.trans te2)
              obtain ⟨k, so, v1, k6, kv, vv, kk, kd, -⟩ := mRo_var hT hR r1 ht te3 hvt
              have hpl' : ω 12 v = nI k := by
                have := ((aT1_sF hn j1.1.1 j1.1.2.1 h.2.2.1.1 v v1).2.2.2.2.2.2 (by rw [sF_hi j1.1.1 233 (by decide)]; exact kd)).2.2
                rw [this, sF_hi j1.1.1 241 (by decide)]
                exact kk
              rw [hpl', fN_nI (by omega)]
              by_cases q5 : ∃ j', ∃ (hj' : j' < (bls σ r dn).length), k = fN (σ 241 ((bls σ r dn)[j']'hj'))
              · obtain ⟨j', hj', ek⟩ := q5
                have hbm := List.getElem_mem hj'
                obtain ⟨-, ⟨k2, k26, k22⟩, -⟩ := bo3 _ hbm
                have hee : v = (bls σ r dn)[j']'hj' := by
                  obtain ⟨k3, so3, v13, k63, kv3, vv3, kk3, -⟩ := mRo_var hT hR r1 ht te3 ((bo1 _).mp hbm).1
                  have : k = k3 := by
                    rw [ek, kk3]
                    exact fN_nI (by omega)
                  subst this
                  exact nI_inj (vv.symm.trans vv3)
                have hlt : j' < jj := Classical.byContradiction (fun z => hvn j' hj' (by omega) hee)
                have c1 := hy.2.2.2.1 j' (by omega) (by omega) (by omega)
                have c0 := hy0.2.2.2.1 j' (by omega) (by omega) (by omega)
                rw [hPj j' hj', ← ek] at c1 c0
                rw [c1, c0]
                have e3 := o3 j' (by omega) hlt
                dsimp only
                rw [gd _ _ (by rw [ld]; omega), gd _ _ (by rw [ld]; omega), e3]
              · have c1 := hy.2.2.2.2 (7 * s + 1 + k) (fun j' hj' _ e => q5 ⟨j', by omega, by rw [← hPj j' (by omega)]; omega⟩)
                have c0 := hy0.2.2.2.2 (7 * s + 1 + k) (fun j' hj' _ e => q5 ⟨j', by omega, by rw [← hPj j' (by omega)]; omega⟩)
                rw [c1, c0]
          · have q3 : w = 0 := by
              have q3 : nI w = 0 := qneF q3
              exact nI_inj (b := 0) q3
            subst q3
            iterate 4 (refine kX_one rfl ?_)
            refine kX_cal (mf_first L xs (d + 53) ω r dn s (fun so => opL σ so n) (owP σ r dn) (owS σ r dn) j1.2.2.2.2.1 hf200 hr4 hk6 (hevo j1.1) hpos hs4) rfl (Or.inr rfl) rfl rfl rfl (fun r1 ρ q1 => ?_)
            obtain ⟨rfl, hy⟩ := q1
            rw [j6.1 rfl, ← dgv_0 ((owO σ n r dn).map List.length)] at hy
            iterate 1 (refine kX_one rfl ?_)
            exact kX_lv _ rfl rfl rfl (k95 ρ 0 (by decide) hy (fun j _ hj => absurd hj (Nat.not_lt_zero j)))
    iterate 3 (refine kX_one rfl ?_)
    refine kX_top (w3) ?_
    iterate 3 (refine kX_one rfl ?_)
    refine kX_top (y := nI (x.2.1 + W)) (by rw [lI_32 hW32]; exact nI_add x.2.1 W) ?_
    iterate 3 (refine kX_one rfl ?_)
    have e' : ∀ c, c ≠ 195 → va_up τ 195 (upd (τ 195) 10 (nI (x.2.1 + W))) c = τ c := fun c hc => up_ne hc
    have e5 : ∀ j, j ≠ 10 → va_up τ 195 (upd (τ 195) 10 (nI (x.2.1 + W))) 195 j = τ 195 j := fun j hj => by rw [up_eq, pk_un hj]
    have e6 : va_up τ 195 (upd (τ 195) 10 (nI (x.2.1 + W))) 195 10 = nI (x.2.1 + W) := by rw [up_eq, pk_us]
    have hX2 : cX σ (va_up τ 195 (upd (τ 195) 10 (nI (x.2.1 + W)))) n R S C (x.1, x.2.1 + W, x.2.2.1, x.2.2.2) mm := by
      refine cX_f hX e' rfl ⟨(e5 _ (by decide)).trans w1, (e5 _ (by decide)).trans w2, e6, by simp only; omega, (e5 _ (by decide)).trans w5, (e5 _ (by decide)).trans w6⟩ ⟨fun z => (e5 _ (by decide)).trans (hX.2.2.2.2.2.2.2.2.1 z), fun z => absurd han z⟩
    refine kX_lv _ rfl rfl rfl (loop (0, va_up τ 195 (upd (τ 195) 10 (nI (x.2.1 + W))), (x.1, x.2.1 + W, x.2.2.1, x.2.2.2)) ⟨Nat.zero_le _, hX2, iE_195 e' hE, htr, hXe.symm, ⟨hi, hai⟩, fun _ => rfl, fun z => absurd rfl z⟩)
  · have hout := lw_out hW63 w4 q
    rw [cit_T hout] at hXe
    subst hXe
    iterate 6 (refine kX_one rfl ?_)
    have e' : ∀ c, c ≠ 195 → va_up (va_up τ 195 (upd (τ 195) 10 (nI 20001))) 195 (upd (upd (τ 195) 10 (nI 20001)) 12 (-7)) c = τ c := fun c hc => by rw [up_ne hc, up_ne hc]
    refine kX_ret (i := .return_) (len := 1) rfl (Or.inr rfl) rfl ⟨rfl, cX_f hX e' rfl ⟨w1, w2, rfl, Nat.le_refl _, w5, rfl⟩ ⟨fun _ => hX.2.2.2.2.2.2.2.2.1 (Or.inl han), fun _ z => absurd rfl z⟩, iE_195 e' hE, htr⟩
