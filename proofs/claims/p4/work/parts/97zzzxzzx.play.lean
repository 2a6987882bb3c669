/-! alike: play -/
/-- the class follows the attack as the reference does -/
theorem plC_next {σ τ G : kS} {n b R S C m j N r : Nat} {kl as ps : List Nat} {V B : Nat → Int32} {mm : Nat} (h : aJ σ n b R S C kl m) (h24 : as.length ≤ 24) (hj : j < as.length) (hG : plK σ G n b R S C kl as (fun s k => nnI (σ 197 (28 * (N - 1) + 7 * s + 1 + k))) j) (hC : plC σ τ G S j) (hV1 : ∀ p, p < 6 → V (6 * as[j] + p) = cit (bdv σ (fN (σ 255 as[j])) ((as.take j).count as[j] + 1) p) (nnI (σ 197 (28 * (N - 1) + 7 * as[j] + 1 + p))) (-6)) (hV2 : ∀ i, (∀ p, p < 6 → i ≠ 6 * as[j] + p) → V i = G 265 i) (hs : as[j] < S) (r1 : r < R) (r2 : σ 255 as[j] = nI r) (hps : ∀ p, p ∈ ps ↔ nbv σ r ((as.take j).count as[j]) p) (hps6 : ∀ p ∈ ps, p < 6) (hfl : flA (τ 182) B (τ 197) as[j] (28 * (N - 1)) ps) : plC σ (spS (va_up τ 182 B) as[j] j) (stS G V as[j] j ((as.take j).count as[j]) (nI mm)) S (j + 1) := by
  obtain ⟨c1, c2, c3, c4, c5, c6, c7⟩ := hC
  have hn := h.1.1.1
  have hR4 := h.1.2.1.1
  have hS4 := h.1.2.2.1.1
  have hfr : fN (σ 255 as[j]) = r := by rw [r2]; exact fN_nI (by omega)
  have hWa : τ 197 = σ 197 := c1 _ (by decide)
  obtain ⟨⟨g1, g2, g3, g4, g5⟩, g6, g7, g8, g9, g10, g11, g12, g13⟩ := hG.1
  have hdo : G 264 as[j] = nI ((as.take j).count as[j]) := by
    obtain ⟨-, -, -, r3, -⟩ := g10.2.2.2 _ hs
    exact r3
  have hB7 : ∀ s', B (7 * s') = τ 182 (7 * s') := fun s' => hfl.2 _ (fun p hp => by have := hps6 p hp; omega)
  have hold : ∀ p, p < 6 → nnI (τ 182 (7 * as[j] + 1 + p)) = cit (bdv σ r ((as.take j).count as[j]) p) (nnI (σ 197 (28 * (N - 1) + 7 * as[j] + 1 + p))) (-6) := fun p hp => by
    rw [(c6 _ hs).2 p hp, g12 _ (List.getElem_mem hj) p hp, bdv_vw hG.2.2, hG.2.2.1 255 (by decide) (by decide) (by decide) (by decide) (by decide), hfr]
  rw [hfr] at hV1
  have e181 : spS (va_up τ 182 B) as[j] j 181 = upd (upd (τ 181) 7 (nI (j + 1))) 9 (-1) := rfl
  have eat : spS (va_up τ 182 B) as[j] j 182 = upd B (7 * as[j]) (B (7 * as[j]) + Int32.ofInt 1) := rfl
  have emv : spS (va_up τ 182 B) as[j] j 183 = upd (τ 183) j (nI as[j]) := rfl
  refine ⟨fun c hc => ?_, ?_, ?_, ?_, fun i hi => ?_, fun s' hs' => ⟨?_, fun k hk => ?_⟩, fun s' hs' k hk ho => ?_⟩
  · unfold spS
    rw [up_ne (by omega), up_ne (by omega), up_ne (by omega), up_ne (by omega)]
    exact c1 c hc
  · rw [e181, pk_un (by decide), pk_un (by decide)]
    exact c2
  · rw [e181, pk_un (by decide), pk_us]
  · rw [e181, pk_us]
  · rw [emv]
    show upd (τ 183) j (nI as[j]) i = upd (G 274) j (nI as[j]) i
    by_cases e : i = j
    · subst e
      rw [pk_us, pk_us]
    · rw [pk_un e, pk_un e]
      exact c5 i (by omega)
  · rw [eat]
    show upd B (7 * as[j]) (B (7 * as[j]) + Int32.ofInt 1) (7 * s') = upd (G 264) as[j] (nI ((as.take j).count as[j] + 1)) s'
    by_cases e : s' = as[j]
    · rw [e, pk_us, pk_us, hB7, (c6 _ hs).1, hdo, ← nI_1]
      rfl
    · rw [pk_un (by omega), pk_un e, hB7]
      exact (c6 s' hs').1
  · rw [eat, pk_un (by omega)]
    show nnI (B (7 * s' + 1 + k)) = V (6 * s' + k)
    by_cases e : s' = as[j]
    · rw [e, hV1 k hk]
      by_cases q : k ∈ ps
      · have hb := (hps k).mp q
        rw [hfl.1 k q, hWa, cit_T hb.1, show 28 * (N - 1) + (7 * as[j] + 1 + k) = 28 * (N - 1) + 7 * as[j] + 1 + k by omega]
      · have hb : bdv σ r ((as.take j).count as[j] + 1) k ↔ bdv σ r ((as.take j).count as[j]) k := ⟨fun z => Classical.byContradiction (fun z2 => q ((hps k).mpr ⟨z, z2⟩)), bdv_mono (by omega)⟩
        rw [hfl.2 _ (fun p hp e2 => q (by
          have : k = p := by omega
          rw [this]
          exact hp)), hold k hk, cit_iff hb]
    · rw [hV2 _ (fun p hp => by omega), hfl.2 _ (fun p hp => by have := hps6 p hp; omega)]
      exact (c6 s' hs').2 k hk
  · rw [eat, pk_un (by omega)]
    by_cases e : s' = as[j]
    · have hnp : k ∉ ps := fun q => by
        have hb := (hps k).mp q
        have hk1 := hb.1.1
        have ha : σ 246 (6 * r + k) = nI 2 := Classical.byContradiction (fun z => hb.2 ⟨hk1, Or.inl z⟩)
        obtain ⟨r', q1, q2, -, q4⟩ := h.1.2.2.1.2.2 _ hs
        obtain rfl : r = r' := nI_inj (r2.symm.trans q2)
        obtain ⟨a, a1, a2⟩ := q4 k hk1
        have ha2 : a = 2 := by
          rcases a2 with ⟨z, -⟩ | ⟨z, -⟩
          · exact z
          · have := nI_inj (ha.symm.trans a1)
            omega
        rcases a2 with ⟨-, z⟩ | ⟨z, -⟩
        · have hop := (h.2.2.2.2.1 _ hs).2.2.1 k hk
          rw [hfr, if_pos hk1, z] at hop
          rw [e] at ho
          have hcv := h.2.1.2.2.1.2.2.2 _ k hs hk
          rw [show 0 + 7 * as[j] + 1 + k = 7 * as[j] + 1 + k by omega] at hcv
          rcases hcv with w | ⟨y, y1, y2, -⟩
          · exact ho w
          · rw [y2, nnI_nI (by omega)] at hop
            exact absurd (show nI y < 0 by rw [hop]; decide) (nI_pos (by omega))
        · omega
      rw [hfl.2 _ (fun p hp e2 => hnp (by
        have : k = p := by omega
        rw [this]
        exact hp))]
      exact c7 s' hs' k hk ho
    · rw [hfl.2 _ (fun p hp => by have := hps6 p hp; omega)]
      exact c7 s' hs' k hk ho
set_option maxRecDepth 100000 in
set_option maxHeartbeats 4000000 in
theorem bo_play (L : Nat) (xs : Nat → Int32) (d d' m : Nat) (σ : kS) (x : Int32) (hm : m < 2147483646) (h : bJ m σ) : kXM kT L xs (d + 56) 135 [.ref 0, .int x] σ (fun r τ => ∃ z, r = some (.int z) ∧ kXM kT L xs (d' + 8) 223 [.ref 232, .int x] τ (fun r' ω => r' = some (.int z) ∧ bJ (m + 1) ω)) := by
  have hb := bJ_up (Nat.le_succ m) h
  obtain ⟨n, b, R, S, C, kl, h⟩ := h
  have hJ := h.2.1
  have hn := h.1.1.1
  have hS4 := h.1.2.2.1.1
  have hRo := h.1.2.1
  have hR4 := hRo.1
  have hha : kXM kT L xs (d + 55) 77 [.ref 195] σ (fun r σ' => ((r = some (.int 0) ∧ σ 195 9 = -1) ∨ (r = some (.int 1) ∧ σ 195 9 ≠ -1)) ∧ σ = σ') := by
    unfold kXM
    repeat refine kX_one rfl ?_
    refine kX_if (fun q => ?_) (fun q => ?_)
    · have q : σ 195 9 = -1 := qeq q
      repeat refine kX_one rfl ?_
      refine kX_ret (i := .ireturn) (len := 1) rfl (Or.inr rfl) rfl (⟨Or.inl ⟨rfl, q⟩, rfl⟩)
    · have q : σ 195 9 ≠ -1 := qeqF q
      repeat refine kX_one rfl ?_
      refine kX_ret (i := .ireturn) (len := 1) rfl (Or.inr rfl) rfl (⟨Or.inr ⟨rfl, q⟩, rfl⟩)
  unfold kXM
  iterate 2 (refine kX_one rfl ?_)
  refine kX_cal hha rfl (Or.inr rfl) rfl rfl rfl (fun r1 σ1 q1 => ?_)
  obtain ⟨hq, rfl⟩ := q1
  rcases hq with ⟨rfl, hln⟩ | ⟨rfl, hln⟩
  · have hat : σ 232 72 = -6 := by
      have := h.2.2.2.2.2.2.2.2.1.2.2.2.1
      rw [hln] at this
      exact this.symm
    repeat refine kX_one rfl ?_
    refine kX_ret (i := .ireturn) (len := 1) rfl (Or.inr rfl) rfl (⟨_, rfl, ?_⟩)
    iterate 2 (refine kX_one rfl ?_)
    refine kX_top (hat) ?_
    repeat refine kX_one rfl ?_
    refine kX_ret (i := .ireturn) (len := 1) rfl (Or.inr rfl) rfl (⟨rfl, hb⟩)
  · obtain ⟨as, N, n1, n2, n3, n4, n5, n6, n7, ak⟩ := ak_of h hln
    have hno : (∀ k, k ≤ as.length → x ≠ nI k) → kXM kT L xs (d' + 8) 223 [.ref 232, .int x] σ (fun r' ω => r' = some (.int (-2)) ∧ bJ (m + 1) ω) := fun hx => mg_play L xs d' σ n b R S C kl as _ x _ h.1 n4 n6 ak (fun _ => ⟨rfl, hb⟩) (fun k _ _ _ hk e => absurd e (hx k hk))
    obtain ⟨N', rfl⟩ : ∃ N', N = N' + 1 := ⟨N - 1, by omega⟩
    rw [Nat.add_sub_cancel] at ak
    iterate 1 (refine kX_one rfl ?_)
    repeat refine kX_one rfl ?_
    refine kX_if (fun q => ?_) (fun q => ?_)
    · have q : x < 0 := of_decide_eq_true q
      repeat refine kX_one rfl ?_
      refine kX_ret (i := .ireturn) (len := 1) rfl (Or.inr rfl) rfl (⟨_, rfl, hno (fun k hk e => by rw [e] at q; exact nI_pos (by omega) q)⟩)
    · have q : ¬ x < 0 := of_decide_eq_false q
      obtain ⟨j, hj, rfl⟩ := nI_of q
      iterate 4 (refine kX_one rfl ?_)
      refine kX_top (n5) ?_
      repeat refine kX_one rfl ?_
      refine kX_if (fun q2 => ?_) (fun q2 => ?_)
      · have q2 := qle q2 j as.length
        have hcs : ∃ N2, N2 ≤ 600 ∧ σ 196 5 = nI N2 ∧ ∀ i, i < N2 → cV σ n S (σ 197) (28 * i) := by
          obtain ⟨N2, s1, s2, s3, -⟩ := hJ.2.2.2.2.2.2.2.2.2.1
          exact ⟨N2, s1, s2, s3⟩
        obtain ⟨N2, s1, s2, s3⟩ := hcs
        obtain rfl : N2 = N' + 1 := nI_inj (s2.symm.trans n3)
        have hcv := s3 N' (by omega)
        have loop : ∀ q : Nat × kS × kS, (q.1 ≤ j ∧ plK σ q.2.2 n b R S C kl as (fun s k => nnI (σ 197 (28 * N' + 7 * s + 1 + k))) q.1 ∧ plC σ q.2.1 q.2.2 S q.1 ∧ cJ q.2.1 n R S C) → kX kT L xs (d + 56) 135 40 [(2, .int (nI q.1)), (0, .ref 0), (1, .int (nI j))] [] q.2.1 (fun r τ => ∃ z, r = some (.int z) ∧ kXM kT L xs (d' + 8) 223 [.ref 232, .int (nI j)] τ (fun r' ω => r' = some (.int z) ∧ bJ (m + 1) ω)) := by
          refine kX_while (fun q : Nat × kS × kS => [(2, .int (nI q.1)), (0, .ref 0), (1, .int (nI j))]) (fun q => q.2.1) _ (fun q => j - q.1) ?_
          rintro ⟨i, τ, G⟩ ⟨i1, i2, i3, i4⟩ ih
          dsimp only at i1 i2 i3 i4 ih ⊢
          have ec := i3.1
          repeat refine kX_one rfl ?_
          refine kX_if (fun q3 => ?_) (fun q3 => ?_)
          · have q3 := qge q3 i j
            obtain rfl : i = j := by omega
            obtain ⟨hJu, hDu, hvw, hru⟩ := aJ_play h n4 q2 i2 i3 i4
            iterate 2 (refine kX_one rfl ?_)
            refine kX_cal (mf_intruder L xs d τ (hiS G τ) n b R S C m kl (as.take i) hvw hJu hm hru hDu) rfl (Or.inr rfl) rfl rfl rfl (fun r1 τ2 q1 => ?_)
            obtain ⟨rfl, u, m', l, hm', hQ⟩ := q1
            have eτ : ∀ c, 232 ≤ c → τ2 c = σ c := fun c hc => (inQ_cell hQ (by omega) (by omega) (by omega) (by omega)).trans (ec c (by omega))
            have hvw2 : vw τ2 (hiS G τ2) := by
              refine ⟨fun c a1 a2 a3 a4 a5 => ?_, fun i i1 i2' i3' => ?_⟩
              · by_cases q : 232 ≤ c
                · rw [hiS_hi G τ2 c q, i2.2.2.1 c a1 a2 a3 a4 a5, eτ c q]
                · exact hiS_lo G τ2 c (by omega)
              · rw [hiS_hi G τ2 232 (by decide), i2.2.2.2 i i1 i2' i3', eτ 232 (by decide)]
            have hhh : ∀ c, 232 ≤ c → hiS G τ2 c = hiS G τ c := fun c hc => (hiS_hi G τ2 c hc).trans (hiS_hi G τ c hc).symm
            have hQ2 := inQ_vw hQ hvw hvw2 hhh
            have hJ2 := inQ_J hJu hru hDu hQ2 hm'
            have hll : τ2 186 7 = nI (trRun (hiS G τ) kl (as.take i)).length := by
              rw [hQ.2.2.2.1.2.2.2.2.2.2.2.1.1, ← kTr_len (σ := τ2) (l := l), hQ.2.2.2.2.2.2.2]
            iterate 1 (refine kX_one rfl ?_)
            refine kX_ret (i := .ireturn) (len := 1) rfl (Or.inr rfl) rfl (⟨_, rfl, ?_⟩)
            rw [hll]
            have ak2 : akD τ2 n S as (fun s k => nnI (σ 197 (28 * N' + 7 * s + 1 + k))) := by
              rw [hiS_of eτ]
              exact ak
            refine mg_play L xs d' τ2 n b R S C kl as _ _ _ (mI_hi eτ h.1) n4 (by rw [eτ 232 (by decide)]; exact n6) ak2 (fun z => absurd rfl (z i q2)) (fun k ρ b' ω hk ek hρ hF hI => ?_)
            obtain rfl : i = k := nI_inj ek
            obtain ⟨x1, x2, x3, x4, x5⟩ := plK_same i2 hρ eτ
            obtain ⟨hIρ, hRρ⟩ := plK_I hρ n4
            have hlow : ∀ c, c < 232 → ρ c = τ2 c := fun c hc => vw_low hρ.2.2 hc
            have hkk : ∀ u, u < 200 → ρ 233 u = G 233 u ∧ ρ 234 u = G 234 u ∧ ρ 235 u = G 235 u := fun u _ => by
              rw [x1 233 (by decide) (by decide) (by decide) (by decide) (by decide), x1 234 (by decide) (by decide) (by decide) (by decide) (by decide), x1 235 (by decide) (by decide) (by decide) (by decide) (by decide)]
              exact ⟨rfl, rfl, rfl⟩
            obtain ⟨hIG, hRG⟩ := plK_I i2 n4
            have htr : trRun ρ kl (as.take i) = trRun G kl (as.take i) := trRun_cg hIG.1 hIG.2.1 hIG.2.2.2.1 hRG hkk (eqC_of (P := fun c => 232 < c ∧ c ≠ 264 ∧ c ≠ 265 ∧ c ≠ 274 ∧ c ≠ 275) (fun c q => x1 c q.1 q.2.1 q.2.2.1 q.2.2.2.1 q.2.2.2.2) _ (by decide)) x4
            have hlen : (as.take i).length = i := by rw [List.length_take]; omega
            have hJρ : aJ ρ n b R S C kl (m + 1) := by
              refine aJ_run2 hJ2 hIρ (cJ_low (fun c hc => (hlow c hc).trans (hiS_lo G τ2 c hc).symm) hJ2.2.1) (fun c hc => (hlow c (by omega)).trans (hiS_lo G τ2 c (by omega)).symm) (fun c a1 a2 a3 a4 a5 => (x1 c a1 a2 a3 a4 a5).trans (hiS_hi G τ2 c (by omega)).symm) (fun jj _ _ _ => (x2 jj).trans (congrFun (hiS_hi G τ2 232 (by decide)) jj).symm) ?_
              have hU := hJ2.2.2.2.2.2.2.2.1
              unfold aU at hU ⊢
              rw [hiS_lo G τ2 181 (by decide), hiS_lo G τ2 183 (by decide), hiS_lo G τ2 182 (by decide), hiS_lo G τ2 17 (by decide), hiS_hi G τ2 232 (by decide), hiS_hi G τ2 274 (by decide), hiS_hi G τ2 264 (by decide), hiS_hi G τ2 265 (by decide)] at hU
              rw [hlow 181 (by decide), hlow 183 (by decide), hlow 182 (by decide), hlow 17 (by decide), x2 52, x2 55]
              refine ⟨hU.1, fun z => ?_⟩
              obtain ⟨u1, u2, u3, u4, u5⟩ := hU.2 z
              have hdid : fN (G 232 55) = (as.take i).length := by rw [hRG.1]; exact fN_nI (by omega)
              refine ⟨u1, fun i' hi' => ?_, fun s hs => ⟨by rw [x3 s hs]; exact (u3 s hs).1, fun k hk => by rw [x4 s k hs hk]; exact (u3 s hs).2 k hk⟩, u4, fun hg => ?_⟩
              · rw [x5 i' (by rw [← hdid]; exact hi')]
                exact u2 i' hi'
              · obtain ⟨ds, d1, d2, d3, d4, d5⟩ := u5 hg
                have e : as.take i = ds := lst_inj (by omega) d3 (fun s hs => by have := hRG.2.2.1 s hs; omega) (fun s hs => by have := d4 s hs; omega) (hRG.1.symm.trans d1) hRG.2.1 d2
                subst e
                refine ⟨as.take i, d1, hRρ.2.1, d3, d4, ?_⟩
                rw [htr]
                rw [trRun_hi (hiS_hi G τ2)] at d5
                exact kOk_eq (fun c c1 c2 => (hlow c (by omega)).trans (hiS_lo G τ2 c (by omega)).symm) (fun c c1 c2 => (hlow c (by omega)).trans (hiS_lo G τ2 c (by omega)).symm) (fun t ht => (hkk t ht).1.trans (congrFun (hiS_hi G τ2 233 (by decide)) t).symm) ((x1 _ (by decide) (by decide) (by decide) (by decide) (by decide)).trans (hiS_hi G τ2 238 (by decide)).symm) d5
            refine ⟨by rw [htr, trRun_hi (hiS_hi G τ)], bJ_fr hJρ (mLow_fr hF) hF hI⟩
          · have q3 := qgeF q3 i j
            have hi : i < as.length := by omega
            obtain ⟨hs, hcnt, -⟩ := ak.2.1 _ (List.getElem_mem hi)
            obtain ⟨r, r1, r2, -⟩ := h.1.2.2.1.2.2 _ hs
            have hfr : fN (σ 255 as[i]) = r := by rw [r2]; exact fN_nI (by omega)
            obtain ⟨-, ev, ev6, ev2⟩ := hRo.2.2.1 r r1
            have hfe : fN (σ 247 r) = ev := by rw [ev2]; exact fN_nI (by omega)
            have hcle : (as.take i).count as[i] + 1 ≤ as.count as[i] := by
              rw [← count_take_succ hi]
              exact count_take_le _ _ _
            rw [hfr, hfe] at hcnt
            have hdn : (as.take i).count as[i] < ev := by omega
            have hR1 := h.2.2.2.1 r r1
            have hE := hR1.2.2.2.2 _ (by rw [hfe]; exact hdn)
            have hdo : G 264 as[i] = nI ((as.take i).count as[i]) := by
              obtain ⟨-, -, -, r3, -⟩ := i2.1.2.2.2.2.2.1.2.2.2 _ hs
              exact r3
            obtain ⟨ps, ps1, ps2, ps3, ps4⟩ : ∃ ps : List Nat, σ (28 + 35 * r + 5 * (as.take i).count as[i]) 4 = nI ps.length ∧ ps.length ≤ 6 ∧ (∀ k (hk : k < ps.length), (ps[k]'hk) < 6 ∧ σ (28 + 35 * r + 5 * (as.take i).count as[i] + 1) k = nI (ps[k]'hk)) ∧ ∀ p, p ∈ ps ↔ nbv σ r ((as.take i).count as[i]) p := by
              by_cases h0 : σ 249 (6 * r + (as.take i).count as[i]) = 0
              · obtain ⟨t, t1, t2, -⟩ := hRo.2.2.2.2.2 r _ r1 (show (as.take i).count as[i] < fN (σ 247 r) by omega)
                obtain ⟨hev, -⟩ := ev_facts (τ := σ) h ⟨sF_of (fun _ _ => rfl), fun _ _ => rfl, hJ.2.2.2.2.2.2.1, hJ.2.2.2.2.2.2.2.1, hJ.2.2.2.2.2.2.2.2.2.2⟩ r1 (show (as.take i).count as[i] < fN (σ 247 r) by omega) h0 t1 t2
                obtain ⟨v1, v2, v3, v4, -⟩ := hev
                refine ⟨owP σ r ((as.take i).count as[i]), by rw [v2]; exact v1, by rw [v2]; exact v3, v4, fun p => ?_⟩
                rw [nbv_bls h.1.1 hRo r1 (by omega)]
                unfold owP
                rw [List.mem_map]
                exact ⟨fun z => ⟨h0, z⟩, fun z => z.2⟩
              · refine ⟨[], hE.2.2.1 h0, Nat.zero_le _, fun k hk => absurd hk (Nat.not_lt_zero k), fun p => ?_⟩
                rw [nbv_bls h.1.1 hRo r1 (by omega)]
                exact ⟨fun z => absurd z (List.not_mem_nil), fun z => absurd z.1 h0⟩
            have hps6 : ∀ p ∈ ps, p < 6 := fun p hp => by
              obtain ⟨k, hk, rfl⟩ := List.getElem_of_mem hp
              exact (ps3 k hk).1
            iterate 6 (refine kX_one rfl ?_)
            refine kX_ialdV rfl rfl (by decide) (i) (by first | rfl | decide) (by omega) ((congrFun (ec _ (by decide)) i).trans (n7 i hi)) ?_
            iterate 6 (refine kX_one rfl ?_)
            refine kX_cal (mc_attackBase L xs (d + 54) τ N' (by omega) (by rw [ec 196 (by decide)]; exact n3)) rfl (Or.inr rfl) rfl rfl rfl (fun r1 σ1 q1 => ?_)
            obtain ⟨rfl, rfl⟩ := q1
            refine kX_cal (mf_follow L xs (d + 52) τ n R S C as[i] (28 * N') r ((as.take i).count as[i]) ev i ps i4 i3.2.1 hs (by omega) (by rw [ec 197 (by decide)]; exact cV_eq (fun z _ => by rw [ec 8 (by decide)]) hcv) r1 (by rw [ec 15 (by decide)]; exact (h.2.2.2.2.1 _ hs).1.trans r2) (by rw [ec (23 + 35 * r) (by omega)]; exact hR1.2.1.trans ev2) ev6 hdn (((i3.2.2.2.2.2.1 _ hs).1).trans hdo) (by rw [ec _ (by omega)]; exact ps1) (fun k hk => by rw [ec (28 + 35 * r + 5 * (as.take i).count as[i] + 1) (by omega)]; exact ps3 k hk) ps2 (by omega) i3.2.2.1) rfl (Or.inr rfl) rfl rfl rfl (fun r1 ω q1 => ?_)
            obtain ⟨rfl, B, hfl, hω, hJω⟩ := q1
            obtain ⟨V, mm, hK2, hV1, hV2⟩ := plK_next i2 n4 hi
            have hC2 := plC_next (N := N' + 1) (mm := mm) h n4 hi i2 i3 hV1 hV2 hs (by assumption) r2 ps4 hps6 hfl
            rw [← hω] at hC2
            iterate 2 (refine kX_one rfl ?_)
            have := ih (i + 1, ω, _) ⟨q3, hK2, hC2, hJω⟩ (by simp only; omega)
            dsimp only at this
            rw [← nI_1] at this
            exact kX_lv _ rfl rfl rfl this
        iterate 2 (refine kX_one rfl ?_)
        refine kX_cal (mf_runStart L xs (d + 54) σ n R S C hJ) rfl (Or.inr rfl) rfl rfl rfl (fun r1 τ q1 => ?_)
        obtain ⟨rfl, e1, hJ1⟩ := q1
        obtain ⟨G, hG⟩ := plK_ex h.1 n4 n6 ak 0 (Nat.zero_le _)
        have hC0 : plC σ τ G S 0 := by
          obtain ⟨⟨g1, g2, g3, g4, g5⟩, g6, g7, g8, g9, g10, g11, g12, g13⟩ := hG.1
          rw [e1]
          refine ⟨fun c hc => by rw [up_ne (by omega), up_ne (by omega)], rfl, rfl, rfl, fun i hi => absurd hi (Nat.not_lt_zero i), fun s hs => ⟨?_, fun k hk => ?_⟩, fun s hs k hk _ => ?_⟩
          · show va_cpy (σ 17) (σ 182) 0 0 28 (7 * s) = G 264 s
            rw [cpy_at (by omega), (h.2.2.2.2.1 s hs).2.1]
            obtain ⟨-, -, -, r3, -⟩ := g10.2.2.2 s hs
            rw [r3]
            rfl
          · show nnI (va_cpy (σ 17) (σ 182) 0 0 28 (7 * s + 1 + k)) = G 265 (6 * s + k)
            rw [cpy_at (by omega), (h.2.2.2.2.1 s hs).2.2.1 k hk]
            have hsr : G 255 = σ 255 := hG.2.2.1 _ (by decide) (by decide) (by decide) (by decide) (by decide)
            have hva : G 244 = σ 244 := hG.2.2.1 _ (by decide) (by decide) (by decide) (by decide) (by decide)
            have haf : G 256 = σ 256 := hG.2.2.1 _ (by decide) (by decide) (by decide) (by decide) (by decide)
            by_cases q : s ∈ as
            · obtain ⟨c1, c2, c3⟩ := ak.2.1 s q
              obtain ⟨r, r1, r2, -, q4⟩ := h.1.2.2.1.2.2 s hs
              have hfr : fN (σ 255 s) = r := by rw [r2]; exact fN_nI (by omega)
              rw [g12 s q k hk, bdv_vw hG.2.2, hsr, hfr]
              rw [hfr] at c3
              by_cases hb : bdv σ r 0 k
              · have ha : σ 246 (6 * r + k) ≠ nI 2 := hb.2.elim id (fun ⟨e, e1, _⟩ => absurd e1 (Nat.not_lt_zero e))
                rw [List.take_zero, List.count_nil, cit_T hb, if_pos hb.1, (c3 k hk (bdv_mono (Nat.zero_le _) hb)).2 ha]
              · rw [List.take_zero, List.count_nil, cit_F hb]
                by_cases hk1 : k < fN (σ 244 r)
                · rw [if_pos hk1]
                  obtain ⟨a, a1, a2⟩ := q4 k hk1
                  have ha : σ 246 (6 * r + k) = nI 2 := Classical.byContradiction (fun z => hb ⟨hk1, Or.inl z⟩)
                  rcases a2 with ⟨-, z⟩ | ⟨z, -⟩
                  · exact z
                  · have := nI_inj (ha.symm.trans a1)
                    omega
                · rw [if_neg hk1]
            · rw [hG.2.1 s hs q k hk, hsr, hva, haf]
          · show va_cpy (σ 17) (σ 182) 0 0 28 (7 * s + 1 + k) = _
            rw [cpy_at (by omega)]
        iterate 2 (refine kX_one rfl ?_)
        exact kX_lv _ rfl rfl rfl (loop (0, τ, G) ⟨Nat.zero_le _, hG, hC0, hJ1⟩)
      · have q2 := qleF q2 j as.length
        repeat refine kX_one rfl ?_
        refine kX_ret (i := .ireturn) (len := 1) rfl (Or.inr rfl) rfl (⟨_, rfl, hno (fun k hk e => by have := nI_inj e; omega)⟩)
