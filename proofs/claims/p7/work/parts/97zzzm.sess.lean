/-! alike: session, the class's call -/
theorem hma_eq {σ τ : kS} (e : τ 246 = σ 246) (r a : Nat) : ∀ k, hma τ r a k = hma σ r a k
  | 0 => rfl
  | k + 1 => by rw [hma, hma, hma_eq e r a k, e]
theorem cnt_hma1 {σ : kS} {r v vc : Nat} (h : ∀ k, k < vc → σ (24 + 35 * r) k = σ 246 (6 * r + k)) (hv : v ≤ vc) : cnt (fun k => σ (24 + 35 * r) k = 1) v = hma σ r 1 v := by
  induction v with
  | zero => rfl
  | succ v ih =>
    rw [cnt, hma, ih (by omega)]
    by_cases q : σ (24 + 35 * r) v = 1
    · rw [if_pos q, if_pos (by rw [← h v (by omega)]; exact q)]
    · rw [if_neg q, if_neg (by rw [← h v (by omega)]; exact q)]
theorem mRo_eq {σ τ : kS} {n R : Nat} (e : ∀ c, 232 ≤ c → τ c = σ c) (h : mRo σ n R) : mRo τ n R := by
  unfold mRo at h ⊢
  rw [e 232 (by decide), e 244 (by decide), e 247 (by decide), e 245 (by decide), e 233 (by decide), e 239 (by decide), e 241 (by decide), e 240 (by decide), e 246 (by decide), e 248 (by decide), e 234 (by decide), e 235 (by decide), e 249 (by decide)]
  exact h
theorem aR_eq2 {σ τ : kS} {n R : Nat} (hM : mRo σ n R) (hc : ∀ c, 23 ≤ c → c < 163 → τ c = σ c) (e : ∀ c, 232 ≤ c → τ c = σ c) (h : aR σ R) : aR τ R := fun r hr => by
  have hR := hM.1
  obtain ⟨-, ev, ev1, ev2⟩ := hM.2.2.1 r hr
  have he6 : fN (σ 247 r) ≤ 6 := by rw [ev2, fN_nI (by omega)]; exact ev1
  have hb : ∀ dn k, bdv τ r dn k = bdv σ r dn k := fun dn k => by
    unfold bdv
    rw [e 244 (by decide), e 246 (by decide), e 249 (by decide), e 245 (by decide), e 233 (by decide), e 234 (by decide), e 235 (by decide), e 248 (by decide)]
  have hbl : ∀ e', bls τ r e' = bls σ r e' := fun e' => by
    unfold bls nbv
    simp only [hb]
    rw [e 241 (by decide), e 233 (by decide), e 234 (by decide), e 235 (by decide), e 248 (by decide)]
  obtain ⟨h1, h2, h3, h4, h5⟩ := h r hr
  unfold aR1
  rw [hc (23 + 35 * r) (by omega) (by omega), hc (24 + 35 * r) (by omega) (by omega), hc (25 + 35 * r) (by omega) (by omega), hc (26 + 35 * r) (by omega) (by omega), e 244 (by decide), e 247 (by decide), e 250 (by decide), e 246 (by decide), e 240 (by decide), e 245 (by decide)]
  refine ⟨h1, h2, h3, fun k hk => ?_, fun i hi => ?_⟩
  · rw [hb]
    exact h4 k hk
  · have := h5 i hi
    unfold aE aP opn at this ⊢
    rw [hbl, hc (28 + 35 * r + 5 * i) (by omega) (by omega), hc (29 + 35 * r + 5 * i) (by omega) (by omega), hc (30 + 35 * r + 5 * i) (by omega) (by omega), hc (28 + 35 * r + 5 * i + 3) (by omega) (by omega), hc (28 + 35 * r + 5 * i + 4) (by omega) (by omega), e 248 (by decide), e 249 (by decide), e 241 (by decide), e 240 (by decide), e 233 (by decide), e 234 (by decide), e 235 (by decide)]
    exact this
set_option maxRecDepth 100000 in
set_option maxHeartbeats 4000000 in
theorem kg_session (L : Nat) (xs : Nat → Int32) (d : Nat) (σ : kS) (n R S C : Nat) (x a b c : Int32) (Q : Option Value → kS → Prop) (h : cJ σ n R S C) (hM : mRo σ n R) (hAr : aR σ R) (hAt : aT σ n) (gU : ¬ isN x R → Q (some (.int (-1))) σ) (gU2 : ∀ r v, r < R → x = nI r → σ 244 r = nI v → v ≤ 6 → ¬ parT n (hma σ r 0 v) a b c → Q (some (.int (-1))) σ) (gS : ∀ r v, r < R → x = nI r → σ 244 r = nI v → v ≤ 6 → parT n (hma σ r 0 v) a b c → σ 181 8 ≠ 0 → Q (some (.int (-3))) σ) (gF : ∀ r v, r < R → x = nI r → σ 244 r = nI v → v ≤ 6 → parT n (hma σ r 0 v) a b c → σ 181 8 = 0 → (S = 4 ∨ 200 < n + hma σ r 1 v) → Q (some (.int (-4))) σ) (gO : ∀ r v, r < R → x = nI r → σ 244 r = nI v → v ≤ 6 → parT n (hma σ r 0 v) a b c → σ 181 8 = 0 → S < 4 → n + hma σ r 1 v ≤ 200 → ¬ (hma σ r 0 v ≤ 3 ∧ parG σ n (hma σ r 0 v) a b c) → Q (some (.int (-5))) σ)
    (gN : ∀ r v ρ ω, r < R → x = nI r → σ 244 r = nI v → v ≤ 6 → parT n (hma σ r 0 v) a b c → σ 181 8 = 0 → S < 4 → n + hma σ r 1 v ≤ 200 → hma σ r 0 v ≤ 3 → parG σ n (hma σ r 0 v) a b c → (ρ 196 5 = 0 ∧ ρ 195 9 = -1 ∧ ρ 195 10 = 0 ∧ ρ 195 11 = 0 ∧ ∀ c, c ≠ 195 → c ≠ 196 → c ≠ 201 → ρ c = σ c) → nsP ρ ω n R S C r v a b c → Q (some (.int (nI S))) ω) : kXM kT L xs (d + 6) 118 [.ref 0, .int x, .int a, .int b, .int c] σ Q := by
  have hT := h.1
  have hn := hT.1
  have hR := h.2.1
  have hR4 := hR.1
  have hSe := h.2.2.1
  have hS4 := hSe.1
  unfold kXM
  iterate 3 (refine kX_one rfl ?_)
  refine kX_cal (mc_hasRole L xs (d + 4) σ R x hR4 hR.2.1) rfl (Or.inr rfl) rfl rfl rfl (fun r1 σ1 q1 => ?_)
  obtain ⟨rfl, rfl⟩ := q1
  repeat refine kX_one rfl ?_
  refine kX_if (fun q => ?_) (fun q => ?_)
  · obtain ⟨r, hr, rfl⟩ := isB_ne.mp (qne q)
    have hr4 : r < 4 := by omega
    obtain ⟨vc, ev, v1, e1, v2, e2, so1, ev1⟩ := hR.2.2 r hr
    have hPle : cnt (fun k => σ (24 + 35 * r) k = 0) vc ≤ vc := cnt_le _ _
    obtain ⟨ar1, ar2, ar3, ar4, ar5⟩ := hAr r hr
    have hvr : σ 244 r = nI vc := ar1.symm.trans v2
    have h24 : ∀ k, k < vc → σ (24 + 35 * r) k = σ 246 (6 * r + k) := fun k hk => (ar4 k (by rw [hvr, fN_nI (by omega)]; exact hk)).1
    have hH0 : cnt (fun k => σ (24 + 35 * r) k = 0) vc = hma σ r 0 vc := cnt_hma h24 (Nat.le_refl _)
    have hH1 : cnt (fun k => σ (24 + 35 * r) k = 1) vc = hma σ r 1 vc := cnt_hma1 h24 (Nat.le_refl _)
    have hag : ∀ w : Int32, (∃ t, t < n ∧ w = nI t ∧ σ 2 t = 0) ↔ ∃ z, z < n ∧ w = nI z ∧ σ 233 z = 0 := fun w => ⟨fun ⟨t, t1, t2, t3⟩ => ⟨t, t1, t2, by rw [← (hAt.1 t t1).1]; exact t3⟩, fun ⟨t, t1, t2, t3⟩ => ⟨t, t1, t2, by rw [(hAt.1 t t1).1]; exact t3⟩⟩
    have key : ∀ P, P ≤ 6 → cnt (fun k => σ (24 + 35 * r) k = 0) vc = P → kX kT L xs (d + 6) 118 28 [(5, .int (nI P)), (0, .ref 0), (1, .int (nI r)), (2, .int a), (3, .int b), (4, .int c)] [] σ Q := by
      intro P hP6 hP
      have hPh : hma σ r 0 vc = P := hH0.symm.trans hP
      have hU2 := gU2 r vc hr rfl hvr v1
      have hS' := gS r vc hr rfl hvr v1
      have hF' := gF r vc hr rfl hvr v1
      have hO' := gO r vc hr rfl hvr v1
      have hN' := gN r vc
      rw [hPh] at hU2 hS' hF' hO'
      have k79 : ¬ parT n P a b c → kX kT L xs (d + 6) 118 79 [(5, .int (nI P)), (0, .ref 0), (1, .int (nI r)), (2, .int a), (3, .int b), (4, .int c)] [] σ Q := by
        intro q
        repeat refine kX_one rfl ?_
        refine kX_ret (i := .ireturn) (len := 1) rfl (Or.inr rfl) rfl (hU2 q)
      have k132 : parT n P a b c → σ 181 8 = 0 → (S = 4 ∨ 200 < n + hma σ r 1 vc) → kX kT L xs (d + 6) 118 132 [(5, .int (nI P)), (0, .ref 0), (1, .int (nI r)), (2, .int a), (3, .int b), (4, .int c)] [] σ Q := by
        intro q1 q2 q3
        repeat refine kX_one rfl ?_
        refine kX_ret (i := .ireturn) (len := 1) rfl (Or.inr rfl) rfl (hF' q1 q2 q3)
      have k205 : ∀ z : Int32, parT n P a b c → σ 181 8 = 0 → S < 4 → n + hma σ r 1 vc ≤ 200 → ¬ (P ≤ 3 ∧ parG σ n P a b c) → kX kT L xs (d + 6) 118 205 [(6, .int z), (5, .int (nI P)), (0, .ref 0), (1, .int (nI r)), (2, .int a), (3, .int b), (4, .int c)] [] σ Q := by
        intro z q1 q2 q3 q4 q5
        repeat refine kX_one rfl ?_
        refine kX_ret (i := .ireturn) (len := 1) rfl (Or.inr rfl) rfl (hO' q1 q2 q3 q4 q5)
      have k81 : parT n P a b c → kX kT L xs (d + 6) 118 81 [(5, .int (nI P)), (0, .ref 0), (1, .int (nI r)), (2, .int a), (3, .int b), (4, .int c)] [] σ Q := by
        intro hpt
        repeat refine kX_one rfl ?_
        refine kX_if (fun q2 => ?_) (fun q2 => ?_)
        · have hon : σ 181 8 = 0 := qeq q2
          iterate 3 (refine kX_one rfl ?_)
          refine kX_top (hSe.2.1) ?_
          iterate 1 (refine kX_one rfl ?_)
          repeat refine kX_one rfl ?_
          refine kX_if (fun q3 => ?_) (fun q3 => ?_)
          · exact k132 hpt hon (Or.inl (by have := qge q3 S 4; omega))
          · have hS := qgeF q3 S 4
            have k191 : n + hma σ r 1 vc ≤ 200 → ¬ (P ≤ 3 ∧ parG σ n P a b c) → kX kT L xs (d + 6) 118 191 [(5, .int (nI P)), (0, .ref 0), (1, .int (nI r)), (2, .int a), (3, .int b), (4, .int c)] [] σ Q := by
              intro y1 y2
              iterate 4 (refine kX_one rfl ?_)
              repeat refine kX_one rfl ?_
              refine kX_if (fun q4 => ?_) (fun q4 => ?_)
              · exact kX_lv _ rfl rfl rfl (k205 0 hpt hon hS y1 y2)
              · iterate 2 (refine kX_one rfl ?_)
                exact kX_lv _ rfl rfl rfl (k205 0 hpt hon hS y1 y2)
            have k187 : n + hma σ r 1 vc ≤ 200 → (1 ≤ P → ∃ z, z < n ∧ a = nI z ∧ σ 233 z = 0) → (2 ≤ P → ∃ z, z < n ∧ b = nI z ∧ σ 233 z = 0) → (3 ≤ P → ∃ z, z < n ∧ c = nI z ∧ σ 233 z = 0) → kX kT L xs (d + 6) 118 187 [(5, .int (nI P)), (0, .ref 0), (1, .int (nI r)), (2, .int a), (3, .int b), (4, .int c)] [] σ Q := by
              intro hle ha hb hc
              iterate 5 (refine kX_one rfl ?_)
              repeat refine kX_one rfl ?_
              refine kX_if (fun q4 => ?_) (fun q4 => ?_)
              · have q4 := qgt q4 P 3
                exact kX_lv _ rfl rfl rfl (k205 1 hpt hon hS hle (fun e => by have := e.1; omega))
              · have q4 := qgtF q4 P 3
                have hpg : parG σ n P a b c := fun i hi => by
                  have : i = 0 ∨ i = 1 ∨ i = 2 := by omega
                  rcases this with rfl | rfl | rfl
                  · exact ha hi
                  · exact hb hi
                  · exact hc hi
                have gva : ∀ w : Int32, (∃ z, z < n ∧ w = nI z ∧ σ 233 z = 0) → gV σ n w := fun w hw => ag_ground hT ((hag w).mpr hw)
                iterate 4 (refine kX_one rfl ?_)
                refine kX_cal (mf_forget L xs (d + 2) σ) rfl (Or.inr rfl) rfl rfl rfl (fun r1 ρ q1 => ?_)
                obtain ⟨rfl, g1, g2, g4, g5, -, -, g3⟩ := q1
                have h2 := cJ_sr h g3 (cSr_0 g1 g2)
                have eg : ∀ e, e < 181 → ρ e = σ e := fun e he => g3 e (by omega) (by omega) (by omega)
                have hgv : ∀ w, gV σ n w → gV ρ n w := fun w hw => gV_up (Nat.le_refl _) (fun z _ => by rw [eg _ (by decide)]) hw
                have h24' : ρ (24 + 35 * r) = σ (24 + 35 * r) := eg _ (by omega)
                have eh : ∀ e, 232 ≤ e → ρ e = σ e := fun e he => g3 e (by omega) (by omega) (by omega)
                have hMρ : mRo ρ n R := mRo_eq eh hM
                have hArρ : aR ρ R := aR_eq2 hM (fun c c1 c2 => eg c (by omega)) eh hAr
                have hAtρ : aT ρ n := aT_c (fun c c1 c2 => eg c (by omega)) (eqC_of (P := fun c => 232 ≤ c) eh _ (by decide)) hAt
                have hma' : ∀ a k, hma ρ r a k = hma σ r a k := fun a k => hma_eq (eh _ (by decide)) r a k
                iterate 6 (refine kX_one rfl ?_)
                refine kX_cal (mf_newSession L xs d ρ n R S C r vc a b c h2 hS hr v1 (by rw [eg _ (by omega)]; exact v2) (by rw [h24', hP]; exact q4) (by rw [h24', hP]; exact fun z => hgv _ (gva _ (ha z))) (by rw [h24', hP]; exact fun z => hgv _ (gva _ (hb z))) (by rw [h24', hP]; exact fun z => hgv _ (gva _ (hc z))) hMρ hArρ hAtρ (by rw [hma']; exact hle) (by rw [hma', hPh]; intro i hi; obtain ⟨z, z1, z2, z3⟩ := hpg i hi; exact ⟨z, z1, z2, by rw [eh _ (by decide)]; exact z3⟩) (by rw [g3 181 (by decide) (by decide) (by decide)]; exact hon) g1 g2) rfl (Or.inr rfl) rfl rfl rfl (fun r1 τ q1 => ?_)
                obtain ⟨rfl, hA⟩ := q1
                refine kX_ret (i := .ireturn) (len := 1) rfl (Or.inr rfl) rfl (hN' ρ τ hr rfl hvr v1 (by rw [hPh]; exact hpt) hon hS hle (by rw [hPh]; exact q4) (by rw [hPh]; exact hpg) ⟨g1, g2, g4, g5, g3⟩ hA)
            have k169 : n + hma σ r 1 vc ≤ 200 → (1 ≤ P → ∃ z, z < n ∧ a = nI z ∧ σ 233 z = 0) → (2 ≤ P → ∃ z, z < n ∧ b = nI z ∧ σ 233 z = 0) → kX kT L xs (d + 6) 118 169 [(5, .int (nI P)), (0, .ref 0), (1, .int (nI r)), (2, .int a), (3, .int b), (4, .int c)] [] σ Q := by
              intro hle ha hb
              iterate 2 (refine kX_one rfl ?_)
              repeat refine kX_one rfl ?_
              refine kX_if (fun q4 => ?_) (fun q4 => ?_)
              · have q4 := qlt q4 P 3
                exact k187 hle ha hb (fun z => by omega)
              · iterate 3 (refine kX_one rfl ?_)
                refine kX_cal (mc_isAgent L xs (d + 3) σ n c hn hT.2.1) rfl (Or.inr rfl) rfl rfl rfl (fun r1 σ1 q1 => ?_)
                obtain ⟨rfl, rfl⟩ := q1
                repeat refine kX_one rfl ?_
                refine kX_if (fun q5 => ?_) (fun q5 => ?_)
                · have q4 := qltF q4 P 3
                  refine k191 hle (fun e => isB_ne.mpr ((hag c).mpr ?_) (qeq q5))
                  exact e.2 2 (by omega)
                · exact k187 hle ha hb (fun _ => (hag c).mp (isB_ne.mp (qeqF q5)))
            have k152 : n + hma σ r 1 vc ≤ 200 → (1 ≤ P → ∃ z, z < n ∧ a = nI z ∧ σ 233 z = 0) → kX kT L xs (d + 6) 118 152 [(5, .int (nI P)), (0, .ref 0), (1, .int (nI r)), (2, .int a), (3, .int b), (4, .int c)] [] σ Q := by
              intro hle ha
              iterate 2 (refine kX_one rfl ?_)
              repeat refine kX_one rfl ?_
              refine kX_if (fun q4 => ?_) (fun q4 => ?_)
              · have q4 := qlt q4 P 2
                exact k169 hle ha (fun z => by omega)
              · iterate 3 (refine kX_one rfl ?_)
                refine kX_cal (mc_isAgent L xs (d + 3) σ n b hn hT.2.1) rfl (Or.inr rfl) rfl rfl rfl (fun r1 σ1 q1 => ?_)
                obtain ⟨rfl, rfl⟩ := q1
                repeat refine kX_one rfl ?_
                refine kX_if (fun q5 => ?_) (fun q5 => ?_)
                · have q4 := qltF q4 P 2
                  refine k191 hle (fun e => isB_ne.mpr ((hag b).mpr ?_) (qeq q5))
                  exact e.2 1 (by omega)
                · exact k169 hle ha (fun _ => (hag b).mp (isB_ne.mp (qeqF q5)))
            iterate 7 (refine kX_one rfl ?_)
            refine kX_aaldN rfl (rfl) (by decide) (by decide) (by decide) (r) (by first | rfl | decide) (hr4) (ro_at hr4) ?_
            iterate 1 (refine kX_one rfl ?_)
            refine kX_cal (mc_countOf L xs (d + 4) σ r vc 1 hr4 v1 v2) rfl (Or.inr rfl) rfl (jcall_v rfl rfl rfl (kT_ro hr4) rfl rfl) rfl (fun r1 σ1 q1 => ?_)
            obtain ⟨rfl, rfl⟩ := q1
            rw [hH1]
            have H1 := hma_le σ r 1 vc
            iterate 1 (refine kX_one rfl ?_)
            refine kX_top (y := nI (n + hma σ r 1 vc)) (by rw [hT.2.1]; exact nI_add _ _) ?_
            iterate 1 (refine kX_one rfl ?_)
            repeat refine kX_one rfl ?_
            refine kX_if (fun q4 => ?_) (fun q4 => ?_)
            · have hle := qle q4 (n + hma σ r 1 vc) 200
              iterate 2 (refine kX_one rfl ?_)
              repeat refine kX_one rfl ?_
              refine kX_if (fun q5 => ?_) (fun q5 => ?_)
              · have q5 := qlt q5 P 1
                exact k152 hle (fun z => by omega)
              · iterate 3 (refine kX_one rfl ?_)
                refine kX_cal (mc_isAgent L xs (d + 3) σ n a hn hT.2.1) rfl (Or.inr rfl) rfl rfl rfl (fun r1 σ1 q1 => ?_)
                obtain ⟨rfl, rfl⟩ := q1
                repeat refine kX_one rfl ?_
                refine kX_if (fun q6 => ?_) (fun q6 => ?_)
                · have q5 := qltF q5 P 1
                  refine k191 hle (fun e => isB_ne.mpr ((hag a).mpr ?_) (qeq q6))
                  exact e.2 0 (by omega)
                · exact k152 hle (fun _ => (hag a).mp (isB_ne.mp (qeqF q6)))
            · exact k132 hpt hon (Or.inr (qleF q4 (n + hma σ r 1 vc) 200))
        · have q2 := qeqF q2
          repeat refine kX_one rfl ?_
          refine kX_ret (i := .ireturn) (len := 1) rfl (Or.inr rfl) rfl (hS' hpt q2)
      have k61 : (0 < P → isN a n) → (1 < P → isN b n) → kX kT L xs (d + 6) 118 61 [(5, .int (nI P)), (0, .ref 0), (1, .int (nI r)), (2, .int a), (3, .int b), (4, .int c)] [] σ Q := by
        intro p1 p2
        iterate 2 (refine kX_one rfl ?_)
        repeat refine kX_one rfl ?_
        refine kX_if (fun q2 => ?_) (fun q2 => ?_)
        · have q2 := qle q2 P 2
          exact k81 ⟨p1, p2, fun z => by omega⟩
        · have q2 := qleF q2 P 2
          iterate 3 (refine kX_one rfl ?_)
          refine kX_cal (mc_has L xs (d + 4) σ n c hn hT.2.1) rfl (Or.inr rfl) rfl rfl rfl (fun r1 σ1 q1 => ?_)
          obtain ⟨rfl, rfl⟩ := q1
          repeat refine kX_one rfl ?_
          refine kX_if (fun q3 => ?_) (fun q3 => ?_)
          · exact k81 ⟨p1, p2, fun _ => isB_ne.mp (qne q3)⟩
          · exact k79 (fun e => isB_ne.mpr (e.2.2 q2) (qneF q3))
      have k44 : (0 < P → isN a n) → kX kT L xs (d + 6) 118 44 [(5, .int (nI P)), (0, .ref 0), (1, .int (nI r)), (2, .int a), (3, .int b), (4, .int c)] [] σ Q := by
        intro p1
        iterate 2 (refine kX_one rfl ?_)
        repeat refine kX_one rfl ?_
        refine kX_if (fun q2 => ?_) (fun q2 => ?_)
        · have q2 := qle q2 P 1
          exact k61 p1 (fun z => by omega)
        · have q2 := qleF q2 P 1
          iterate 3 (refine kX_one rfl ?_)
          refine kX_cal (mc_has L xs (d + 4) σ n b hn hT.2.1) rfl (Or.inr rfl) rfl rfl rfl (fun r1 σ1 q1 => ?_)
          obtain ⟨rfl, rfl⟩ := q1
          repeat refine kX_one rfl ?_
          refine kX_if (fun q3 => ?_) (fun q3 => ?_)
          · exact k79 (fun e => isB_ne.mpr (e.2.1 q2) (qeq q3))
          · exact k61 p1 (fun _ => isB_ne.mp (qeqF q3))
      iterate 1 (refine kX_one rfl ?_)
      repeat refine kX_one rfl ?_
      refine kX_if (fun q2 => ?_) (fun q2 => ?_)
      · have q2 := qle q2 P 0
        exact k44 (fun z => by omega)
      · have q2 := qleF q2 P 0
        iterate 3 (refine kX_one rfl ?_)
        refine kX_cal (mc_has L xs (d + 4) σ n a hn hT.2.1) rfl (Or.inr rfl) rfl rfl rfl (fun r1 σ1 q1 => ?_)
        obtain ⟨rfl, rfl⟩ := q1
        repeat refine kX_one rfl ?_
        refine kX_if (fun q3 => ?_) (fun q3 => ?_)
        · exact k79 (fun e => isB_ne.mpr (e.1 q2) (qeq q3))
        · exact k44 (fun _ => isB_ne.mp (qeqF q3))
    iterate 4 (refine kX_one rfl ?_)
    refine kX_aaldN rfl (rfl) (by decide) (by decide) (by decide) (r) (by first | rfl | decide) (hr4) (ro_at hr4) ?_
    iterate 1 (refine kX_one rfl ?_)
    refine kX_cal (mc_countOf L xs (d + 4) σ r vc 0 hr4 v1 v2) rfl (Or.inr rfl) rfl (jcall_v rfl rfl rfl (kT_ro hr4) rfl rfl) rfl (fun r1 σ1 q1 => ?_)
    obtain ⟨rfl, rfl⟩ := q1
    iterate 1 (refine kX_one rfl ?_)
    exact kX_lv _ rfl rfl rfl (key _ (by omega) rfl)
  · have q := qneF q
    repeat refine kX_one rfl ?_
    refine kX_ret (i := .ireturn) (len := 1) rfl (Or.inr rfl) rfl (gU (fun e => isB_ne.mpr e q))
