section
/-! alike: send -/
/-- the reference's step that binds nothing -/
def sdS (σ : kS) (s k dn : Nat) : kS := va_up (stS σ (σ 265) s k dn (nI 0)) 232 (upd (stS σ (σ 265) s k dn (nI 0) 232) 47 0)
theorem sdS_vw (σ : kS) (s k dn : Nat) : vw σ (sdS σ s k dn) := by
  refine ⟨fun c c1 c2 c3 c4 c5 => ?_, fun j j1 j2 j3 => ?_⟩
  · unfold sdS stS
    rw [up_ne c1, up_ne c2, up_ne c1, up_ne c5, up_ne c4, up_ne c3]
  · show upd (upd (σ 232) 55 (nI (k + 1))) 47 0 j = _
    rw [pk_un j3, pk_un j2]
theorem sdS_hi {σ τ : kS} {s k dn : Nat} (e : ∀ c, 232 ≤ c → τ c = σ c) : ∀ c, 232 ≤ c → sdS τ s k dn c = sdS σ s k dn c := by
  intro c hc
  by_cases c1 : c = 232
  · subst c1
    show upd (upd (τ 232) 55 (nI (k + 1))) 47 0 = upd (upd (σ 232) 55 (nI (k + 1))) 47 0
    rw [e 232 (by decide)]
  by_cases c2 : c = 264
  · subst c2
    show upd (τ 264) s (nI (dn + 1)) = upd (σ 264) s (nI (dn + 1))
    rw [e 264 (by decide)]
  by_cases c3 : c = 265
  · subst c3
    exact e 265 (by decide)
  by_cases c4 : c = 274
  · subst c4
    show upd (τ 274) k (nI s) = upd (σ 274) k (nI s)
    rw [e 274 (by decide)]
  by_cases c5 : c = 275
  · subst c5
    show upd (τ 275) k (nI 0) = upd (σ 275) k (nI 0)
    rw [e 275 (by decide)]
  rw [(sdS_vw τ s k dn).1 c c1 c2 c3 c4 c5, (sdS_vw σ s k dn).1 c c1 c2 c3 c4 c5]
  exact e c hc
set_option maxRecDepth 100000 in
set_option maxHeartbeats 4000000 in
theorem mg_send (L : Nat) (xs : Nat → Int32) (d : Nat) (σ : kS) (n b R S C : Nat) (kl : List Nat) (x : Int32) (Q : Option Value → kS → Prop) (h : mI σ n b R S C kl) (hN : ¬ isN x S → Q (some (.int (-1))) σ) (hS : isN x S → σ 232 52 = 0 → Q (some (.int (-3))) σ)
    (hO : ∀ s ds r, s < S → x = nI s → σ 232 52 = 1 → mRn σ n R S ds → r < R → σ 255 s = nI r → ¬ (ds.count s < fN (σ 247 r) ∧ σ 249 (6 * r + ds.count s) ≠ 0) → Q (some (.int (-5))) σ)
    (hM : ∀ s ds r b' σ', s < S → x = nI s → σ 232 52 = 1 → mRn σ n R S ds → r < R → σ 255 s = nI r → ds.count s < fN (σ 247 r) → σ 249 (6 * r + ds.count s) ≠ 0 → ds.length < 24 → mRn (sdS σ s ds.length (ds.count s)) n R S (ds ++ [s]) → mI (sdS σ s ds.length (ds.count s)) n b R S C kl → mFr (sdS σ s ds.length (ds.count s)) σ' n → mI σ' n b' R S C kl → Q (some (.int (nI (trRun (sdS σ s ds.length (ds.count s)) kl (ds ++ [s])).length))) σ') : kXM kT L xs (d + 8) 195 [.ref 232, .int x] σ Q := by
  have h0 := h
  obtain ⟨h1, h2, h3, h4, h5, h6, h7⟩ := h
  have hS4 := h3.1
  have hR4 := h2.1
  unfold kXM
  repeat refine kX_one rfl ?_
  refine kX_cal (mr_isSession L xs (d + 6) σ S x h3.2.1 (by omega)) rfl (Or.inr rfl) rfl rfl rfl (fun r1 σ1 q1 => ?_)
  obtain ⟨rfl, rfl⟩ := q1
  repeat refine kX_one rfl ?_
  refine kX_if (fun q => ?_) (fun q => ?_)
  · obtain ⟨s, hs, rfl⟩ := isB_ne.mp (qne q)
    rcases h6 with h6 | ⟨h6, ds, g1, g2, g3⟩
    · iterate 2 (refine kX_one rfl ?_)
      refine kX_top (h6) ?_
      repeat refine kX_one rfl ?_
      refine kX_ret (i := .ireturn) (len := 1) rfl (Or.inr rfl) rfl (hS ⟨s, hs, rfl⟩ h6)
    · obtain ⟨r, r1, r2, r3, r4, r5, r6⟩ := g1.2.2.2 s hs
      obtain ⟨b1, b2, b3⟩ := mSn_iff h1 h2 (g1.2.2.2 s hs) r2 r1
      obtain ⟨-, ev, he6, hev⟩ := h2.2.2.1 r r1
      have hfe : fN (σ 247 r) = ev := by rw [hev]; exact fN_nI (by omega)
      iterate 2 (refine kX_one rfl ?_)
      refine kX_top (h6) ?_
      repeat refine kX_one rfl ?_
      refine kX_cal (mr_nextEvent L xs (d + 6) σ n R s r (ds.count s) h2 (by omega) r1 r2 r3 (by omega)) rfl (Or.inr rfl) rfl rfl rfl (fun r1 σ1 q1 => ?_)
      obtain ⟨rfl, rfl⟩ := q1
      by_cases hlt : ds.count s < fN (σ 247 r)
      · rw [if_pos hlt]
        repeat refine kX_one rfl ?_
        refine kX_ifF (decide_eq_false (nI_pos (by omega))) ?_
        repeat refine kX_one rfl ?_
        refine kX_baldN rfl rfl (by decide) (6 * r + ds.count s) (by first | rfl | decide) (by omega) ?_
        repeat refine kX_one rfl ?_
        refine kX_if (fun q2 => ?_) (fun q2 => ?_)
        · have q2 : σ 249 (6 * r + ds.count s) ≠ 0 := qne q2
          have hlen := mRn_len h2 hS4 g1
          have hp := mRn_push (V := σ 265) (m := 0) (bd := nI 0) h1 h2 hS4 g1 g2 hs r1 r2 hlt (fun _ _ => rfl) (fun k hk => by
            have e : bdv σ r (ds.count s + 1) k ↔ bdv σ r (ds.count s) k := ⟨fun hb => ⟨hb.1, hb.2.elim Or.inl (fun ⟨e, e1, e2, e3⟩ => Or.inr ⟨e, by
              have : e ≠ ds.count s := fun ee => q2 (by rw [← ee]; exact e2)
              omega, e2, e3⟩)⟩, bdv_mono (by omega)⟩
            rw [e]
            exact b3 k hk) (by decide) rfl (fun p hp => by
            rw [Nat.zero_div]
            refine ⟨fun z => absurd z (by decide), fun z => absurd ?_ z.2⟩
            exact ⟨z.1.1, z.1.2.elim Or.inl (fun ⟨e, e1, e2, e3⟩ => Or.inr ⟨e, by
              have : e ≠ ds.count s := fun ee => q2 (by rw [← ee]; exact e2)
              omega, e2, e3⟩)⟩)
          have hlen' : ds.length < 24 := by
            have := mRn_len (σ := stS σ (σ 265) s ds.length (ds.count s) (nI 0)) h2 hS4 hp.1
            rw [List.length_append] at this
            simp at this
            omega
          repeat refine kX_one rfl ?_
          refine kX_cal (mr_does L xs (d + 6) σ s ds.length (ds.count s) (nI 0) (by omega) g1.1 hlen' r3) rfl (Or.inr rfl) rfl rfl rfl (fun r1' σ1 q1 => ?_)
          obtain ⟨rfl, rfl⟩ := q1
          have e0 : va_up (va_up (va_up (va_up σ 274 (upd (σ 274) ds.length (nI s))) 275 (upd (σ 275) ds.length (nI 0))) 232 (upd (σ 232) 55 (nI (ds.length + 1)))) 264 (upd (σ 264) s (nI (ds.count s + 1))) = stS σ (σ 265) s ds.length (ds.count s) (nI 0) := by
            unfold stS
            rw [kup_self]
          rw [e0]
          iterate 4 (refine kX_one rfl ?_)
          refine kX_st (sdS σ s ds.length (ds.count s)) rfl ?_
          have hI : mI (sdS σ s ds.length (ds.count s)) n b R S C kl := ⟨h1, h2, h3, h4, h5, Or.inr ⟨h6, ds ++ [s], hp.1, hp.2, Or.inl rfl⟩, h7⟩
          refine kX_cal (mr_row L xs d _ n b R S C kl (ds ++ [s]) hI h6 hp.1 hp.2 (Or.inl rfl)) rfl (Or.inr rfl) rfl rfl rfl (fun r1' σ1 q1 => ?_)
          obtain ⟨rfl, f1, f2, b', l, f3, f4, f5, f6, f7⟩ := q1
          have fin := (mI_there hI h6 hp.1 hp.2 f1 f2 f3 f4 f5 f6 f7).1
          have key := hM s ds r b' σ1 hs rfl h6 g1 r1 r2 hlt q2 hlen' hp.1 hI f1 fin
          rw [← f7, rwM_len, ← f5.1] at key
          repeat refine kX_one rfl ?_
          refine kX_ret (i := .ireturn) (len := 1) rfl (Or.inr rfl) rfl (key)
        · have q2 : ¬ σ 249 (6 * r + ds.count s) ≠ 0 := fun z => z (qneF q2)
          repeat refine kX_one rfl ?_
          refine kX_ret (i := .ireturn) (len := 1) rfl (Or.inr rfl) rfl (hO s ds r hs rfl h6 g1 r1 r2 (fun z => q2 z.2))
      · rw [if_neg hlt]
        repeat refine kX_one rfl ?_
        refine kX_ret (i := .ireturn) (len := 1) rfl (Or.inr rfl) rfl (hO s ds r hs rfl h6 g1 r1 r2 (fun z => hlt z.1))
  · have q : ¬ isN x S := fun z => isB_ne.mpr z (qneF q)
    repeat refine kX_one rfl ?_
    refine kX_ret (i := .ireturn) (len := 1) rfl (Or.inr rfl) rfl (hN q)
set_option maxRecDepth 100000 in
set_option maxHeartbeats 4000000 in
theorem bo_send (L : Nat) (xs : Nat → Int32) (d d' m : Nat) (σ : kS) (x : Int32) (hm : m < 2147483646) (h : bJ m σ) : kXM kT L xs (d + 56) 124 [.ref 0, .int x] σ (fun r τ => ∃ z, r = some (.int z) ∧ kXM kT L xs (d' + 8) 195 [.ref 232, .int x] τ (fun r' ω => r' = some (.int z) ∧ bJ (m + 1) ω)) := by
  have hb := bJ_up (Nat.le_succ m) h
  obtain ⟨n, b, R, S, C, kl, h⟩ := h
  have hcS := h.2.1.2.2.1
  have hS4 := hcS.1
  have hU := h.2.2.2.2.2.2.2.1
  have hRo := h.1.2.1
  have hR4 := hRo.1
  unfold kXM
  iterate 3 (refine kX_one rfl ?_)
  refine kX_cal (mc_hasSession L xs (d + 54) σ S x hS4 hcS.2.1) rfl (Or.inr rfl) rfl rfl rfl (fun r1 σ1 q1 => ?_)
  obtain ⟨rfl, rfl⟩ := q1
  repeat refine kX_one rfl ?_
  refine kX_if (fun q => ?_) (fun q => ?_)
  · obtain ⟨s, hs, rfl⟩ := isB_ne.mp (qne q)
    repeat refine kX_one rfl ?_
    refine kX_if (fun q2 => ?_) (fun q2 => ?_)
    · have hon : σ 181 8 ≠ 0 := qne q2
      have hr0 : σ 232 52 ≠ 0 := hU.1.mp hon
      obtain ⟨hr1, ds, hD, hBi, -⟩ := mI_ds h.1 hr0
      obtain ⟨uc, um, uv, uo, -⟩ := hU.2 hr0
      obtain ⟨r, r1, r2, r3, r4, -⟩ := hD.2.2.2 s hs
      obtain ⟨-, ev, ev1, ev2⟩ := hRo.2.2.1 r r1
      have hfe : fN (σ 247 r) = ev := by rw [ev2]; exact fN_nI (by omega)
      have hR1 := h.2.2.2.1 r r1
      have hr4 : r < 4 := by omega
      have hat : σ 182 (0 + 7 * s) = nI (ds.count s) := by rw [Nat.zero_add]; exact (uv s hs).1.trans r3
      have hno : ¬ (ds.count s < fN (σ 247 r) ∧ σ 249 (6 * r + ds.count s) ≠ 0) → kXM kT L xs (d' + 8) 195 [.ref 232, .int (nI s)] σ (fun r' ω => r' = some (.int (-5)) ∧ bJ (m + 1) ω) := fun hz => by
        refine mg_send L xs d' σ n b R S C kl _ _ h.1 (fun z => absurd ⟨s, hs, rfl⟩ z) (fun _ z => absurd z hr0) (fun _ _ _ _ _ _ _ _ _ _ => ⟨rfl, hb⟩) (fun s' ds' r' _ _ hs' es _ hD' _ er hlt hsd _ _ _ _ _ => ?_)
        obtain rfl : s = s' := nI_inj es
        obtain rfl : ds = ds' := mRn_u hRo hS4 hD hD'
        obtain rfl : r = r' := nI_inj (r2.symm.trans er)
        exact absurd ⟨hlt, hsd⟩ hz
      iterate 7 (refine kX_one rfl ?_)
      refine kX_cal (mf_due L xs (d + 53) σ n R S 182 28 0 s r ev (fun _ => 0) h.2.1.2.1 hS4 r1 ((h.2.2.2.2.1 s hs).1.trans r2) (hR1.2.1.trans ev2) hs ev1 rfl (by decide) (by decide)) rfl (Or.inr rfl) rfl rfl rfl (fun r1' σ1 q1 => ?_)
      obtain ⟨hq, rfl⟩ := q1
      rcases hq with ⟨rfl, hn0⟩ | ⟨k, k1, k2, rfl, -⟩
      · repeat refine kX_one rfl ?_
        refine kX_ret (i := .ireturn) (len := 1) rfl (Or.inr rfl) rfl (⟨_, rfl, hno (fun z => hn0 (ds.count s) (by rw [← hfe]; exact z.1) hat)⟩)
      · have hlenD := mRn_len hRo hS4 hD
        obtain rfl : k = ds.count s := nI_inj (k2.symm.trans hat)
        have hk6 : ds.count s < 6 := by omega
        have hE := hR1.2.2.2.2 (ds.count s) (by rw [hfe]; exact k1)
        iterate 4 (refine kX_one rfl ?_)
        refine kX_getN rfl rfl (kT_ev hr4 hk6) rfl ?_
        repeat refine kX_one rfl ?_
        refine kX_if (fun q3 => ?_) (fun q3 => ?_)
        · have hsd : σ 249 (6 * r + ds.count s) ≠ 0 := hE.2.1.mp (qne q3)
          have hlt : ds.count s < fN (σ 247 r) := by rw [hfe]; exact k1
          obtain ⟨b1, b2, b3⟩ := mSn_iff h.1.1 hRo (hD.2.2.2 s hs) r2 r1
          have hp := mRn_push (V := σ 265) (m := 0) (bd := nI 0) h.1.1 hRo hS4 hD hBi hs r1 r2 hlt (fun _ _ => rfl) (fun k hk => by
            have e : bdv σ r (ds.count s + 1) k ↔ bdv σ r (ds.count s) k := ⟨fun hb => ⟨hb.1, hb.2.elim Or.inl (fun ⟨e, e1, e2, e3⟩ => Or.inr ⟨e, by
              have : e ≠ ds.count s := fun ee => hsd (by rw [← ee]; exact e2)
              omega, e2, e3⟩)⟩, bdv_mono (by omega)⟩
            rw [e]
            exact b3 k hk) (by decide) rfl (fun p hp => by
            rw [Nat.zero_div]
            refine ⟨fun z => absurd z (by decide), fun z => absurd ?_ z.2⟩
            exact ⟨z.1.1, z.1.2.elim Or.inl (fun ⟨e, e1, e2, e3⟩ => Or.inr ⟨e, by
              have : e ≠ ds.count s := fun ee => hsd (by rw [← ee]; exact e2)
              omega, e2, e3⟩)⟩)
          have hlen' : ds.length < 24 := by
            have := mRn_len (σ := stS σ (σ 265) s ds.length (ds.count s) (nI 0)) hRo hS4 hp.1
            rw [List.length_append] at this
            simp at this
            omega
          have hIs : mI (sdS σ s ds.length (ds.count s)) n b R S C kl := ⟨h.1.1, hRo, h.1.2.2.1, h.1.2.2.2.1, h.1.2.2.2.2.1, Or.inr ⟨hr1, ds ++ [s], hp.1, hp.2, Or.inl rfl⟩, h.1.2.2.2.2.2.2⟩
          iterate 3 (refine kX_one rfl ?_)
          refine kX_cal (mf_step L xs (d + 54) σ n R S C s ds.length h.2.1 hon hs hlen' (uc.trans hD.1)) rfl (Or.inr rfl) rfl rfl rfl (fun r1' σ1 q1 => ?_)
          obtain ⟨rfl, e1, hJ1⟩ := q1
          have ehi : ∀ c, 232 ≤ c → σ1 c = σ c := fun c hc => by
            rw [e1]
            unfold spS
            rw [up_ne (by omega), up_ne (by omega), up_ne (by omega)]
          have elo : ∀ c, c ≠ 181 → c ≠ 182 → c ≠ 183 → σ1 c = σ c := fun c c1 c2 c3 => by
            rw [e1]
            unfold spS
            rw [up_ne c1, up_ne c2, up_ne c3]
          have e181 : σ1 181 = upd (upd (σ 181) 7 (nI (ds.length + 1))) 9 (-1) := by rw [e1]; exact up_eq
          have eat : σ1 182 = upd (σ 182) (7 * s) (nI (ds.count s + 1)) := by
            rw [e1]
            show upd (σ 182) (7 * s) (σ 182 (7 * s) + Int32.ofInt 1) = _
            rw [(uv s hs).1, r3, ← nI_1]
            rfl
          have emv : σ1 183 = upd (σ 183) ds.length (nI s) := by rw [e1]; rfl
          have hvw := sdS_vw σ1 s ds.length (ds.count s)
          have hhi := sdS_hi (s := s) (k := ds.length) (dn := ds.count s) ehi
          have hUu : aU (sdS σ1 s ds.length (ds.count s)) n S kl := by
            have ul : ∀ c, c < 232 → sdS σ1 s ds.length (ds.count s) c = σ1 c := fun c hc => vw_low hvw hc
            have u232 : sdS σ1 s ds.length (ds.count s) 232 = upd (upd (σ 232) 55 (nI (ds.length + 1))) 47 0 := hhi 232 (by decide)
            have ud : sdS σ1 s ds.length (ds.count s) 264 = upd (σ 264) s (nI (ds.count s + 1)) := hhi _ (by decide)
            have uva : sdS σ1 s ds.length (ds.count s) 265 = σ 265 := hhi _ (by decide)
            have uds : sdS σ1 s ds.length (ds.count s) 274 = upd (σ 274) ds.length (nI s) := hhi _ (by decide)
            unfold aU
            rw [ul 181 (by decide), ul 17 (by decide), elo 17 (by decide) (by decide) (by decide), ul 183 (by decide), ul 182 (by decide), u232, ud, uva, uds, e181, eat, emv]
            refine ⟨hU.1, fun _ => ⟨rfl, fun i hi => ?_, fun s' hs' => ⟨?_, fun k hk => ?_⟩, fun s' hs' k hk ho => ?_, fun z => absurd z.symm (nI_m1 (by have := h.1.1.1; omega))⟩⟩
            · by_cases e : i = ds.length
              · subst e
                rw [pk_us, pk_us]
              · rw [pk_un e, pk_un e]
                refine um i ?_
                have : fN (nI (ds.length + 1)) = ds.length + 1 := fN_nI (by omega)
                have hi' : i < fN (nI (ds.length + 1)) := hi
                rw [this] at hi'
                rw [hD.1, fN_nI (by omega)]
                omega
            · by_cases e : s' = s
              · subst e
                rw [pk_us, pk_us]
              · rw [pk_un (by omega), pk_un e]
                exact (uv s' hs').1
            · rw [pk_un (by omega)]
              exact (uv s' hs').2 k hk
            · rw [pk_un (by omega)]
              exact uo s' hs' k hk ho
          have hJu : aJ (sdS σ1 s ds.length (ds.count s)) n b R S C kl m := by
            refine aJ_run h (mI_hi hhi hIs) (cJ_low (fun c hc => vw_low hvw hc) hJ1) (fun c c1 c2 c3 c4 => (vw_low hvw c1).trans (elo c c2 c3 c4)) (fun c c1 c2 c3 c4 c5 => (hvw.1 c (by omega) c2 c3 c4 c5).trans (ehi c (by omega))) (fun j j1 j2 j3 => (hvw.2 j j1 j2 j3).trans (by rw [ehi 232 (by decide)])) hUu
          have hru : sdS σ1 s ds.length (ds.count s) 232 52 ≠ 0 := by rw [hhi 232 (by decide)]; exact hr0
          have hDu : mRn (sdS σ1 s ds.length (ds.count s)) n R S (ds ++ [s]) := mRn_hi hhi hp.1
          iterate 2 (refine kX_one rfl ?_)
          refine kX_cal (mf_intruder L xs d σ1 (sdS σ1 s ds.length (ds.count s)) n b R S C m kl (ds ++ [s]) hvw hJu hm hru hDu) rfl (Or.inr rfl) rfl rfl rfl (fun r1' τ q1 => ?_)
          obtain ⟨rfl, u, m', l, hm', hQ⟩ := q1
          have eτ : ∀ c, 232 ≤ c → τ c = σ c := fun c hc => (inQ_cell hQ (by omega) (by omega) (by omega) (by omega)).trans (ehi c hc)
          have hτ2 : ∀ c, 232 ≤ c → sdS τ s ds.length (ds.count s) c = sdS σ1 s ds.length (ds.count s) c := sdS_hi (fun c hc => (eτ c hc).trans (ehi c hc).symm)
          have hQ2 := inQ_vw hQ hvw (sdS_vw τ s ds.length (ds.count s)) hτ2
          have hJ2 := inQ_J hJu hru hDu hQ2 hm'
          have hll : τ 186 7 = nI (trRun (sdS σ1 s ds.length (ds.count s)) kl (ds ++ [s])).length := by
            rw [hQ.2.2.2.1.2.2.2.2.2.2.2.1.1, ← kTr_len (σ := τ) (l := l), hQ.2.2.2.2.2.2.2]
          iterate 1 (refine kX_one rfl ?_)
          refine kX_ret (i := .ireturn) (len := 1) rfl (Or.inr rfl) rfl (⟨_, rfl, ?_⟩)
          rw [hll]
          refine mg_send L xs d' τ n b R S C kl _ _ (mI_hi eτ h.1) (fun z => absurd ⟨s, hs, rfl⟩ z) (fun _ z => absurd ((congrFun (eτ 232 (by decide)) _).symm.trans z) hr0) (fun s' ds' r' hs' es _ hD' _ er hz => ?_) (fun s' ds' r' b' ω hs' es _ hD' _ er _ _ _ _ _ hF hI => ?_)
          · obtain rfl : s = s' := nI_inj es
            obtain rfl : ds = ds' := mRn_u (mI_hi eτ h.1).2.1 hS4 (mRn_hi eτ hD) hD'
            rw [eτ 255 (by decide)] at er
            obtain rfl : r = r' := nI_inj (r2.symm.trans er)
            rw [eτ 247 (by decide), eτ 249 (by decide)] at hz
            exact absurd ⟨hlt, hsd⟩ hz
          · obtain rfl : s = s' := nI_inj es
            obtain rfl : ds = ds' := mRn_u (mI_hi eτ h.1).2.1 hS4 (mRn_hi eτ hD) hD'
            refine ⟨by rw [trRun_hi hτ2], bJ_fr hJ2 (mLow_fr hF) hF hI⟩
        · have hsd : ¬ σ 249 (6 * r + ds.count s) ≠ 0 := fun z => hE.2.1.mpr z (qneF q3)
          repeat refine kX_one rfl ?_
          refine kX_ret (i := .ireturn) (len := 1) rfl (Or.inr rfl) rfl (⟨_, rfl, hno (fun z => hsd z.2)⟩)
    · have q2 : σ 181 8 = 0 := qneF q2
      have hr0 : σ 232 52 = 0 := Classical.byContradiction fun z => hU.1.mpr z q2
      repeat refine kX_one rfl ?_
      refine kX_ret (i := .ireturn) (len := 1) rfl (Or.inr rfl) rfl (⟨_, rfl, ?_⟩)
      exact mg_send L xs d' σ n b R S C kl _ _ h.1 (fun z => absurd ⟨s, hs, rfl⟩ z) (fun _ _ => ⟨rfl, hb⟩) (fun _ _ _ _ _ z _ _ _ _ => absurd (z.symm.trans hr0) (by decide)) (fun _ _ _ _ _ _ _ z _ _ _ _ _ _ _ _ _ _ => absurd (z.symm.trans hr0) (by decide))
  · have q : ¬ isN x S := fun z => isB_ne.mpr z (qneF q)
    repeat refine kX_one rfl ?_
    refine kX_ret (i := .ireturn) (len := 1) rfl (Or.inr rfl) rfl (⟨_, rfl, ?_⟩)
    exact mg_send L xs d' σ n b R S C kl _ _ h.1 (fun _ => ⟨rfl, hb⟩) (fun z => absurd z q) (fun s _ _ hs es _ _ _ _ _ => absurd ⟨s, hs, es⟩ q) (fun s _ _ _ _ hs es _ _ _ _ _ _ _ _ _ _ _ => absurd ⟨s, hs, es⟩ q)
end
section
/-! alike: breaks -/
theorem bl_and : ∀ m, m < 16 → ∀ o, o < 4 → nI m &&& (Int32.ofInt 1 <<< (nI o &&& 31)) = nI (m / 2 ^ o % 2 * 2 ^ o) := by decide +kernel
def cHd (σ : kS) (A base s : Nat) : Prop := ¬ σ A (base + 7 * s) < σ (23 + 35 * fN (σ 15 s)) 5
def cFt (σ : kS) (A base c s o : Nat) : Prop := (σ 15 o = σ (163 + 3 * c) 2 ∧ ¬ σ A (base + 7 * o) < σ (163 + 3 * c) 3) ∧ ∀ j, j < fN (σ (163 + 3 * c) 6) → σ A (base + 7 * s + 1 + fN (σ (164 + 3 * c) j)) ≠ -1 ∧ σ A (base + 7 * s + 1 + fN (σ (164 + 3 * c) j)) = σ A (base + 7 * o + 1 + fN (σ (165 + 3 * c) j))
def cWn (σ : kS) (A base c s : Nat) : Prop := (σ 15 s = σ (163 + 3 * c) 1 ∧ σ 16 s ≠ 0) ∧ cHd σ A base s
/-- the sessions from s on find partners that are not in w -/
def cPn (W : Nat → Prop) (F : Nat → Nat → Prop) (S : Nat) : Nat → Nat → Nat → Prop
  | 0, _, _ => True
  | m + 1, s, w => (W s ∧ ∃ p, p < S ∧ p ≠ s ∧ w / 2 ^ p % 2 = 0 ∧ F s p ∧ cPn W F S m (s + 1) (orb w p)) ∨ (¬ W s ∧ cPn W F S m (s + 1) w)
theorem cPn_s {W : Nat → Prop} {F : Nat → Nat → Prop} {S m s w : Nat} : cPn W F S (m + 1) s w ↔ (W s ∧ ∃ p, p < S ∧ p ≠ s ∧ w / 2 ^ p % 2 = 0 ∧ F s p ∧ cPn W F S m (s + 1) (orb w p)) ∨ (¬ W s ∧ cPn W F S m (s + 1) w) := Iff.rfl
theorem qgeI {x y : Int32} (q : jcmp .ge x y = true) : ¬ x < y := Int32.not_lt.mpr (of_decide_eq_true q)
theorem qgeIF {x y : Int32} (q : jcmp .ge x y = false) : x < y := Int32.not_le.mp (of_decide_eq_false q)
set_option maxRecDepth 100000 in
set_option maxHeartbeats 4000000 in
theorem mf_hasDoneAll (L : Nat) (xs : Nat → Int32) (d : Nat) (σ : kS) (n R S A M base s : Nat) (g0 : Nat → Int32) (hRo : cRo σ n R) (hS4 : S ≤ 4) (hSr : ∀ s, s < S → ∃ r, r < R ∧ σ 15 s = nI r) (hs : s < S) (hA : kT[A]? = some (.inl (0, M, .inl g0))) (hM : M ≤ 100000) (hbm : base + 28 ≤ M) : kXM kT L xs (d + 2) 19 [.ref 13, .ref A, .int (nI base), .int (nI s)] σ (fun q σ' => q = some (.int (isB (cHd σ A base s))) ∧ σ = σ') := by
  have hR4 := hRo.1
  obtain ⟨r, hr, hr2⟩ := hSr s hs
  have hr4 : r < 4 := by omega
  have hc : cHd σ A base s ↔ ¬ σ A (base + 7 * s) < σ (23 + 35 * r) 5 := by
    unfold cHd
    rw [hr2, fN_nI (by omega)]
  unfold kXM
  iterate 4 (refine kX_one rfl ?_)
  refine kX_cal (mc_doneBy L xs d σ A M base s g0 hA hM (by omega)) rfl (Or.inr rfl) rfl rfl rfl (fun r1 σ1 q1 => ?_)
  obtain ⟨rfl, rfl⟩ := q1
  iterate 5 (refine kX_one rfl ?_)
  refine kX_ialdV rfl rfl (by decide) (s) (by first | rfl | decide) (by omega) (hr2) ?_
  refine kX_aaldN rfl (rfl) (by decide) (by decide) (by decide) (r) (by first | rfl | decide) (hr4) (ro_at hr4) ?_
  refine kX_getN rfl rfl (kT_ro hr4) rfl ?_
  repeat refine kX_one rfl ?_
  refine kX_if (fun q => ?_) (fun q => ?_)
  · have q : σ A (base + 7 * s) < σ (23 + 35 * r) 5 := of_decide_eq_true q
    repeat refine kX_one rfl ?_
    refine kX_ret (i := .ireturn) (len := 1) rfl (Or.inr rfl) rfl (⟨by rw [isB_F (fun z => hc.mp z q)]; rfl, rfl⟩)
  · have q : ¬ σ A (base + 7 * s) < σ (23 + 35 * r) 5 := of_decide_eq_false q
    repeat refine kX_one rfl ?_
    refine kX_ret (i := .ireturn) (len := 1) rfl (Or.inr rfl) rfl (⟨by rw [isB_T (hc.mpr q)]; rfl, rfl⟩)
set_option maxRecDepth 100000 in
set_option maxHeartbeats 4000000 in
theorem mf_isPartner (L : Nat) (xs : Nat → Int32) (d : Nat) (σ : kS) (n R S C A M base c s s' : Nat) (g0 : Nat → Int32) (hB : cB σ n R S C) (hc : c < C) (hs : s < S) (hs' : s' < S) (hA : kT[A]? = some (.inl (0, M, .inl g0))) (hM : M ≤ 100000) (hbm : base + 28 ≤ M) : kXM kT L xs (d + 2) 27 [.ref 13, .ref (163 + 3 * c), .ref A, .int (nI base), .int (nI s), .int (nI s')] σ (fun q σ' => q = some (.int (isB (cFt σ A base c s s'))) ∧ σ = σ') := by
  obtain ⟨hRo, ⟨hS4, hSc, hSr⟩, hC6, hCc, hCl⟩ := hB
  have hc6 : c < 6 := by omega
  obtain ⟨a1, jn, j1, j2, j3⟩ := hCl c hc
  have hjn : fN (σ (163 + 3 * c) 6) = jn := by rw [j2]; exact fN_nI (by omega)
  unfold kXM
  iterate 3 (refine kX_one rfl ?_)
  refine kX_ialdN rfl rfl (by decide) (s') (by first | rfl | decide) (by omega) ?_
  iterate 1 (refine kX_one rfl ?_)
  refine kX_getN rfl rfl (kT_cl hc6) rfl ?_
  repeat refine kX_one rfl ?_
  refine kX_if (fun q => ?_) (fun q => ?_)
  · have q := qne q
    repeat refine kX_one rfl ?_
    refine kX_ret (i := .ireturn) (len := 1) rfl (Or.inr rfl) rfl (⟨by rw [isB_F (fun z => q z.1.1)]; rfl, rfl⟩)
  have q0 : σ 15 s' = σ (163 + 3 * c) 2 := qneF q
  iterate 4 (refine kX_one rfl ?_)
  refine kX_cal (mc_doneBy L xs d σ A M base s' g0 hA hM (by omega)) rfl (Or.inr rfl) rfl rfl rfl (fun r1 σ1 q1 => ?_)
  obtain ⟨rfl, rfl⟩ := q1
  iterate 1 (refine kX_one rfl ?_)
  refine kX_getN rfl rfl (kT_cl hc6) rfl ?_
  repeat refine kX_one rfl ?_
  refine kX_if (fun q => ?_) (fun q => ?_)
  · have qd : ¬ σ A (base + 7 * s') < σ (163 + 3 * c) 3 := qgeI q
    have loop : ∀ q : Nat, (q ≤ jn ∧ ∀ j, j < q → σ A (base + 7 * s + 1 + fN (σ (164 + 3 * c) j)) ≠ -1 ∧ σ A (base + 7 * s + 1 + fN (σ (164 + 3 * c) j)) = σ A (base + 7 * s' + 1 + fN (σ (165 + 3 * c) j))) → kX kT L xs (d + 2) 27 34 [(6, .int (nI q)), (0, .ref 13), (1, .ref (163 + 3 * c)), (2, .ref A), (3, .int (nI base)), (4, .int (nI s)), (5, .int (nI s'))] [] σ (fun q σ' => q = some (.int (isB (cFt σ A base c s s'))) ∧ σ = σ') := by
      refine kX_while (fun q => [(6, .int (nI q)), (0, .ref 13), (1, .ref (163 + 3 * c)), (2, .ref A), (3, .int (nI base)), (4, .int (nI s)), (5, .int (nI s'))]) (fun _ => σ) _ (fun q => jn - q) ?_
      intro i ⟨i1, i2⟩ ih
      iterate 2 (refine kX_one rfl ?_)
      refine kX_getN rfl rfl (kT_cl hc6) rfl ?_
      refine kX_top (j2) ?_
      repeat refine kX_one rfl ?_
      refine kX_if (fun q => ?_) (fun q => ?_)
      · have q := qge q i jn
        obtain rfl : i = jn := by omega
        repeat refine kX_one rfl ?_
        refine kX_ret (i := .ireturn) (len := 1) rfl (Or.inr rfl) rfl (⟨by rw [isB_T ⟨⟨q0, qd⟩, by rw [hjn]; exact i2⟩]; rfl, rfl⟩)
      · have q := qgeF q i jn
        obtain ⟨⟨x, x1, x2⟩, y, y1, y2⟩ := j3 i q
        have fx : fN (σ (164 + 3 * c) i) = x := by rw [x2]; exact fN_nI (by omega)
        have fy : fN (σ (165 + 3 * c) i) = y := by rw [y2]; exact fN_nI (by omega)
        iterate 5 (refine kX_one rfl ?_)
        refine kX_getN rfl rfl (kT_cl hc6) rfl ?_
        iterate 1 (refine kX_one rfl ?_)
        refine kX_ialdV rfl ((kT_c1 hc6).1) (by decide) (i) (by first | rfl | decide) (by omega) (x2) ?_
        refine kX_cal (mc_valueOf L xs d σ A M base s x g0 hA hM (by omega)) rfl (Or.inr rfl) rfl rfl rfl (fun r1 σ1 q1 => ?_)
        obtain ⟨rfl, rfl⟩ := q1
        repeat refine kX_one rfl ?_
        refine kX_if (fun q2 => ?_) (fun q2 => ?_)
        · have q2 : σ A (base + 7 * s + 1 + x) = -1 := qeq q2
          repeat refine kX_one rfl ?_
          refine kX_ret (i := .ireturn) (len := 1) rfl (Or.inr rfl) rfl (⟨by rw [isB_F (fun z => (z.2 i (by rw [hjn]; exact q)).1 (by rw [fx]; exact q2))]; rfl, rfl⟩)
        · have q2 : σ A (base + 7 * s + 1 + x) ≠ -1 := qeqF q2
          iterate 6 (refine kX_one rfl ?_)
          refine kX_getN rfl rfl (kT_cl hc6) rfl ?_
          iterate 1 (refine kX_one rfl ?_)
          refine kX_ialdV rfl ((kT_c1 hc6).2) (by decide) (i) (by first | rfl | decide) (by omega) (y2) ?_
          refine kX_cal (mc_valueOf L xs d σ A M base s' y g0 hA hM (by omega)) rfl (Or.inr rfl) rfl rfl rfl (fun r1 σ1 q1 => ?_)
          obtain ⟨rfl, rfl⟩ := q1
          repeat refine kX_one rfl ?_
          refine kX_if (fun q3 => ?_) (fun q3 => ?_)
          · have q3 : σ A (base + 7 * s + 1 + x) = σ A (base + 7 * s' + 1 + y) := qeq q3
            iterate 2 (refine kX_one rfl ?_)
            have := ih (i + 1) ⟨by omega, fun j hj => by
              by_cases e : j = i
              · subst e
                rw [fx, fy]
                exact ⟨q2, q3⟩
              · exact i2 j (by omega)⟩ (by omega)
            rw [← nI_1] at this
            exact kX_lv _ rfl rfl rfl this
          · have q3 : σ A (base + 7 * s + 1 + x) ≠ σ A (base + 7 * s' + 1 + y) := qeqF q3
            repeat refine kX_one rfl ?_
            refine kX_ret (i := .ireturn) (len := 1) rfl (Or.inr rfl) rfl (⟨by rw [isB_F (fun z => q3 (by have := (z.2 i (by rw [hjn]; exact q)).2; rw [fx, fy] at this; exact this))]; rfl, rfl⟩)
    iterate 2 (refine kX_one rfl ?_)
    exact kX_lv _ rfl rfl rfl (loop 0 ⟨Nat.zero_le _, fun j hj => absurd hj (Nat.not_lt_zero j)⟩)
  · have qd : σ A (base + 7 * s') < σ (163 + 3 * c) 3 := qgeIF q
    repeat refine kX_one rfl ?_
    refine kX_ret (i := .ireturn) (len := 1) rfl (Or.inr rfl) rfl (⟨by rw [isB_F (fun z => z.1.2 qd)]; rfl, rfl⟩)
set_option maxRecDepth 100000 in
set_option maxHeartbeats 4000000 in
theorem mf_canPartner (L : Nat) (xs : Nat → Int32) (σ : kS) (n R S C A M base c : Nat) (g0 : Nat → Int32) (hB : cB σ n R S C) (hc : c < C) (hA : kT[A]? = some (.inl (0, M, .inl g0))) (hM : M ≤ 100000) (hbm : base + 28 ≤ M) : ∀ (m d s w : Nat), s + m = S → w < 16 → kXM kT L xs (d + m + 3) 26 [.ref 13, .ref (163 + 3 * c), .ref A, .int (nI base), .int (nI s), .int (nI w)] σ (fun q σ' => q = some (.int (isB (cPn (cWn σ A base c) (cFt σ A base c) S m s w))) ∧ σ = σ') := by
  have hRo := hB.1
  have hS4 := hB.2.1.1
  have hSc := hB.2.1.2.1
  have hSr := hB.2.1.2.2
  have hC6 := hB.2.2.1
  have hc6 : c < 6 := by omega
  intro m
  induction m with
  | zero =>
    intro d s w hsm hw
    unfold kXM
    iterate 3 (refine kX_one rfl ?_)
    refine kX_top (hSc) ?_
    repeat refine kX_one rfl ?_
    refine kX_if (fun q => ?_) (fun q => ?_)
    · have q := qlt q s S
      omega
    · repeat refine kX_one rfl ?_
      refine kX_ret (i := .ireturn) (len := 1) rfl (Or.inr rfl) rfl (⟨by rw [isB_T (by unfold cPn; trivial)]; rfl, rfl⟩)
  | succ m IH =>
    intro d s w hsm hw
    have hs : s < S := by omega
    have hs4 : s < 4 := by omega
    unfold kXM
    iterate 3 (refine kX_one rfl ?_)
    refine kX_top (hSc) ?_
    repeat refine kX_one rfl ?_
    refine kX_if (fun q => ?_) (fun q => ?_)
    · have k46 : ¬ cWn σ A base c s → kX kT L xs (d + (m + 1) + 3) 26 46 [(0, .ref 13), (1, .ref (163 + 3 * c)), (2, .ref A), (3, .int (nI base)), (4, .int (nI s)), (5, .int (nI w))] [] σ (fun q σ' => q = some (.int (isB (cPn (cWn σ A base c) (cFt σ A base c) S (m + 1) s w))) ∧ σ = σ') := by
        intro hnw
        iterate 7 (refine kX_one rfl ?_)
        refine kX_top (y := nI (s + 1)) (nI_1 s) ?_
        iterate 1 (refine kX_one rfl ?_)
        refine kX_cal (IH d (s + 1) w (by omega) hw) rfl (Or.inr rfl) rfl rfl rfl (fun r1 σ1 q1 => ?_)
        obtain ⟨rfl, rfl⟩ := q1
        refine kX_ret (i := .ireturn) (len := 1) rfl (Or.inr rfl) (jend_b rfl (isB_01 _)) ⟨?_, rfl⟩
        refine congrArg (fun z => some (Value.int z)) (isB_iff ?_)
        rw [cPn_s]
        exact ⟨fun z => Or.inr ⟨hnw, z⟩, fun z => z.elim (fun y => absurd y.1 hnw) (fun y => y.2)⟩
      have loop : cWn σ A base c s → ∀ q : Nat, (q ≤ S ∧ ∀ p, p < q → ¬ (p ≠ s ∧ w / 2 ^ p % 2 = 0 ∧ cFt σ A base c s p ∧ cPn (cWn σ A base c) (cFt σ A base c) S m (s + 1) (orb w p))) → kX kT L xs (d + (m + 1) + 3) 26 63 [(6, .int (nI q)), (0, .ref 13), (1, .ref (163 + 3 * c)), (2, .ref A), (3, .int (nI base)), (4, .int (nI s)), (5, .int (nI w))] [] σ (fun q σ' => q = some (.int (isB (cPn (cWn σ A base c) (cFt σ A base c) S (m + 1) s w))) ∧ σ = σ') := by
        intro hW
        refine kX_while (fun q => [(6, .int (nI q)), (0, .ref 13), (1, .ref (163 + 3 * c)), (2, .ref A), (3, .int (nI base)), (4, .int (nI s)), (5, .int (nI w))]) (fun _ => σ) _ (fun q => S - q) ?_
        intro i ⟨i1, i2⟩ ih
        iterate 3 (refine kX_one rfl ?_)
        refine kX_top (hSc) ?_
        repeat refine kX_one rfl ?_
        refine kX_if (fun q => ?_) (fun q => ?_)
        · have q := qge q i S
          repeat refine kX_one rfl ?_
          refine kX_ret (i := .ireturn) (len := 1) rfl (Or.inr rfl) rfl (⟨by rw [isB_F (fun z => (cPn_s.mp z).elim (fun ⟨_, p, p1, p2⟩ => i2 p (by omega) p2) (fun y => y.1 hW))]; rfl, rfl⟩)
        · have q := qgeF q i S
          have k138 : ¬ (i ≠ s ∧ w / 2 ^ i % 2 = 0 ∧ cFt σ A base c s i ∧ cPn (cWn σ A base c) (cFt σ A base c) S m (s + 1) (orb w i)) → ∀ lv, nk lv = true → ([(6, .int (nI i)), (0, .ref 13), (1, .ref (163 + 3 * c)), (2, .ref A), (3, .int (nI base)), (4, .int (nI s)), (5, .int (nI w))] : jL).map (fun q => jl lv q.1) = ([(6, .int (nI i)), (0, .ref 13), (1, .ref (163 + 3 * c)), (2, .ref A), (3, .int (nI base)), (4, .int (nI s)), (5, Value.int (nI w))] : jL).map (fun q => some q.2) → kX kT L xs (d + (m + 1) + 3) 26 138 lv [] σ (fun q σ' => q = some (.int (isB (cPn (cWn σ A base c) (cFt σ A base c) S (m + 1) s w))) ∧ σ = σ') := by
            intro hno lv hk hlv
            refine kX_lv _ hk rfl hlv ?_
            iterate 2 (refine kX_one rfl ?_)
            have := ih (i + 1) ⟨by omega, fun p hp => by
              by_cases e : p = i
              · subst e
                exact hno
              · exact i2 p (by omega)⟩ (by omega)
            rw [← nI_1] at this
            exact kX_lv _ rfl rfl rfl this
          repeat refine kX_one rfl ?_
          refine kX_if (fun q2 => ?_) (fun q2 => ?_)
          · have q2 : i = s := nI_inj (qeq q2)
            iterate 4 (refine kX_one rfl ?_)
            exact k138 (fun z => z.1 q2) _ rfl rfl
          · have q2 : i ≠ s := fun e => qeqF q2 (by rw [e])
            iterate 5 (refine kX_one rfl ?_)
            refine kX_top (bl_and w hw i (by omega)) ?_
            repeat refine kX_one rfl ?_
            refine kX_if (fun q3 => ?_) (fun q3 => ?_)
            · have q3 : nI (w / 2 ^ i % 2 * 2 ^ i) ≠ 0 := qne q3
              iterate 4 (refine kX_one rfl ?_)
              exact k138 (fun z => q3 (by rw [z.2.1, Nat.zero_mul]; rfl)) _ rfl rfl
            · have q3 : nI (w / 2 ^ i % 2 * 2 ^ i) = nI 0 := qneF q3
              have hb0 : w / 2 ^ i % 2 = 0 := by
                have hb := Nat.mod_lt (w / 2 ^ i) (show 0 < 2 by decide)
                have hp : 2 ^ i ≤ 16 := by
                  have : i = 0 ∨ i = 1 ∨ i = 2 ∨ i = 3 := by omega
                  rcases this with rfl | rfl | rfl | rfl <;> decide
                have hp1 : 0 < 2 ^ i := Nat.pos_of_ne_zero (by simp)
                have hle : w / 2 ^ i % 2 * 2 ^ i ≤ 1 * 16 := Nat.mul_le_mul (by omega) hp
                have h0 := nI_inj q3 (by omega) (by omega)
                rcases Nat.mul_eq_zero.mp h0 with z | z
                · exact z
                · omega
              iterate 11 (refine kX_one rfl ?_)
              refine kX_cal (mf_isPartner L xs (d + m + 1) σ n R S C A M base c s i g0 hB hc hs q hA hM hbm) rfl (Or.inr rfl) rfl rfl rfl (fun r1 σ1 q1 => ?_)
              obtain ⟨rfl, rfl⟩ := q1
              by_cases hf : cFt σ A base c s i
              · rw [isB_T hf]
                iterate 8 (refine kX_one rfl ?_)
                refine kX_top (y := nI (s + 1)) (nI_1 s) ?_
                iterate 5 (refine kX_one rfl ?_)
                refine kX_top (y := nI (orb w i)) (bl_or w hw i (by omega)) ?_
                refine kX_cal (IH d (s + 1) (orb w i) (by omega) (orb_lt w hw i (by omega)).1) rfl (Or.inr rfl) rfl rfl rfl (fun r1 σ1 q1 => ?_)
                obtain ⟨rfl, rfl⟩ := q1
                by_cases hg : cPn (cWn σ A base c) (cFt σ A base c) S m (s + 1) (orb w i)
                · rw [isB_T hg]
                  repeat refine kX_one rfl ?_
                  refine kX_ret (i := .ireturn) (len := 1) rfl (Or.inr rfl) rfl (⟨by rw [isB_T (cPn_s.mpr (Or.inl ⟨hW, i, q, q2, hb0, hf, hg⟩))]; rfl, rfl⟩)
                · rw [isB_F hg]
                  iterate 1 (refine kX_one rfl ?_)
                  exact k138 (fun z => hg z.2.2.2) _ rfl rfl
              · rw [isB_F hf]
                iterate 1 (refine kX_one rfl ?_)
                exact k138 (fun z => hf z.2.2.1) _ rfl rfl
      iterate 3 (refine kX_one rfl ?_)
      refine kX_ialdN rfl rfl (by decide) (s) (by first | rfl | decide) (hs4) ?_
      iterate 1 (refine kX_one rfl ?_)
      refine kX_getN rfl rfl (kT_cl hc6) rfl ?_
      repeat refine kX_one rfl ?_
      refine kX_if (fun q2 => ?_) (fun q2 => ?_)
      · have q2 := qne q2
        exact kX_lv _ rfl rfl rfl (k46 (fun z => q2 z.1.1))
      · have q2 := qneF q2
        iterate 3 (refine kX_one rfl ?_)
        refine kX_baldN rfl rfl (by decide) (s) (by first | rfl | decide) (hs4) ?_
        repeat refine kX_one rfl ?_
        refine kX_if (fun q3 => ?_) (fun q3 => ?_)
        · have q3 := qeq q3
          exact kX_lv _ rfl rfl rfl (k46 (fun z => z.1.2 q3))
        · have q3 := qeqF q3
          iterate 4 (refine kX_one rfl ?_)
          refine kX_cal (mf_hasDoneAll L xs (d + m + 1) σ n R S A M base s g0 hRo hS4 hSr hs hA hM hbm) rfl (Or.inr rfl) rfl rfl rfl (fun r1 σ1 q1 => ?_)
          obtain ⟨rfl, rfl⟩ := q1
          by_cases hh : cHd σ A base s
          · rw [isB_T hh]
            iterate 3 (refine kX_one rfl ?_)
            exact kX_lv _ rfl rfl rfl (loop ⟨⟨q2, q3⟩, hh⟩ 0 ⟨Nat.zero_le _, fun p hp => absurd hp (Nat.not_lt_zero p)⟩)
          · rw [isB_F hh]
            iterate 1 (refine kX_one rfl ?_)
            exact kX_lv _ rfl rfl rfl (k46 (fun z => hh z.2))
    · have q := qltF q s S
      omega
end
section
/-! alike: leaks, breaks -/
set_option maxRecDepth 100000 in
set_option maxHeartbeats 4000000 in
theorem mf_canNot (L : Nat) (xs : Nat → Int32) (d : Nat) (σ : kS) (K st n u : Nat) (y : Int32) (h : nB σ K st n u) : kXM kT L xs (d + 2) 55 [.ref K, .int (-1), .int y] σ (fun r σ' => r = some (.int 0) ∧ σ = σ') := by
  have hb := isK_b h.1
  have h2 := h.2.1
  have h3 := h.2.2.1
  unfold kXM
  iterate 2 (refine kX_one rfl ?_)
  refine kX_cal (mc_kHas L xs d σ K st n u (-1) h) rfl (Or.inr rfl) rfl (jcall_v rfl rfl rfl (kT_kn h.1) rfl rfl) rfl (fun r1 σ1 q1 => ?_)
  obtain ⟨rfl, rfl⟩ := q1
  repeat refine kX_one rfl ?_
  refine kX_ifT (decide_eq_true (isB_F (fun z => ?_))) ?_
  · rcases z with ⟨j, j1, j2⟩ | ⟨g, g1, g2, g3⟩
    · exact nI_m1 (by omega) j2.symm
    · exact nI_m1 (by omega) g3.symm
  iterate 1 (refine kX_one rfl ?_)
  refine kX_ret (i := .ireturn) (len := 1) rfl (Or.inr rfl) rfl (⟨rfl, rfl⟩)
/-- the SECRET c of the session s leaks -/
def cLs (σ : kS) (A base c n : Nat) (l : rwT) (s : Nat) : Prop := (σ 15 s = σ (163 + 3 * c) 1 ∧ σ 16 s ≠ 0) ∧ ∃ z, z < n ∧ σ A (base + 7 * s + 1 + fN (σ (163 + 3 * c) 3)) = nI z ∧ kMk σ l z
/-- marks alone have changed -/
def mkP (σ : kS) (K st n u m : Nat) (l : rwT) (σ' : kS) : Prop := ∃ M, σ' = va_up σ (K + 6) M ∧ iE σ' K st n u m l
set_option maxRecDepth 100000 in
set_option maxHeartbeats 4000000 in
theorem mf_leaks (L : Nat) (xs : Nat → Int32) (d : Nat) (σ : kS) (n R S C A M base c K st u m : Nat) (l : rwT) (g0 : Nat → Int32) (hB : cB σ n R S C) (hc : c < C) (hA : kT[A]? = some (.inl (0, M, .inl g0))) (hM : M ≤ 100000) (hbm : base + 28 ≤ M) (hA2 : A < K ∨ K + 9 ≤ A) (hE : iE σ K st n u m l) (hV : ∀ s k, s < S → k < 6 → σ A (base + 7 * s + 1 + k) = -1 ∨ ∃ z, z < n ∧ σ A (base + 7 * s + 1 + k) = nI z ∧ kGd σ z) (hsec : σ (163 + 3 * c) 0 ≠ 0) : kXM kT L xs (d + 53) 25 [.ref 13, .ref (163 + 3 * c), .ref A, .int (nI base), .ref K] σ (fun q σ' => q = some (.int (isB (∃ s, s < S ∧ cLs σ A base c n l s))) ∧ mkP σ K st n u m l σ') := by
  have hS4 := hB.2.1.1
  have hC6 := hB.2.2.1
  have hc6 : c < 6 := by omega
  have hKb := isK_b hE.1
  obtain ⟨v, v1, v2⟩ := (hB.2.2.2.2 c hc).1 hsec
  have hfv : fN (σ (163 + 3 * c) 3) = v := by rw [v2]; exact fN_nI (by omega)
  have loop : ∀ q : Nat × (Nat → Int32), (q.1 ≤ S ∧ iE (va_up σ (K + 6) q.2) K st n u m l ∧ ∀ s, s < q.1 → ¬ cLs σ A base c n l s) → kX kT L xs (d + 53) 25 3 [(5, .int (nI q.1)), (0, .ref 13), (1, .ref (163 + 3 * c)), (2, .ref A), (3, .int (nI base)), (4, .ref K)] [] (va_up σ (K + 6) q.2) (fun q σ' => q = some (.int (isB (∃ s, s < S ∧ cLs σ A base c n l s))) ∧ mkP σ K st n u m l σ') := by
    refine kX_while (fun q : Nat × (Nat → Int32) => [(5, .int (nI q.1)), (0, .ref 13), (1, .ref (163 + 3 * c)), (2, .ref A), (3, .int (nI base)), (4, .ref K)]) (fun q => va_up σ (K + 6) q.2) _ (fun q => S - q.1) ?_
    rintro ⟨i, F⟩ ⟨i1, i2, i3⟩ ih
    dsimp only at i1 i2 i3 ih ⊢
    have e : ∀ z, z ≠ K + 6 → va_up σ (K + 6) F z = σ z := fun z hz => up_ne hz
    iterate 3 (refine kX_one rfl ?_)
    refine kX_top (y := nI S) (by rw [e 13 (by omega)]; exact hB.2.1.2.1) ?_
    repeat refine kX_one rfl ?_
    refine kX_if (fun q => ?_) (fun q => ?_)
    · have q := qge q i S
      repeat refine kX_one rfl ?_
      refine kX_ret (i := .ireturn) (len := 1) rfl (Or.inr rfl) rfl (⟨by rw [isB_F (fun ⟨s, s1, s2⟩ => i3 s (by omega) s2)]; rfl, F, rfl, i2⟩)
    · have q := qgeF q i S
      have k59 : ∀ F', iE (va_up σ (K + 6) F') K st n u m l → ¬ cLs σ A base c n l i → kX kT L xs (d + 53) 25 59 [(5, .int (nI i)), (0, .ref 13), (1, .ref (163 + 3 * c)), (2, .ref A), (3, .int (nI base)), (4, .ref K)] [] (va_up σ (K + 6) F') (fun q σ' => q = some (.int (isB (∃ s, s < S ∧ cLs σ A base c n l s))) ∧ mkP σ K st n u m l σ') := by
        intro F' ht hno
        iterate 2 (refine kX_one rfl ?_)
        have := ih (i + 1, F') ⟨q, ht, fun s hs => by
          by_cases e : s = i
          · subst e
            exact hno
          · exact i3 s (by simp only at hs; omega)⟩ (by simp only; omega)
        dsimp only at this
        rw [← nI_1] at this
        exact kX_lv _ rfl rfl rfl this
      iterate 3 (refine kX_one rfl ?_)
      refine kX_ialdV rfl rfl (by decide) (i) (by first | rfl | decide) (by omega) (congrFun (e 15 (by omega)) i) ?_
      iterate 1 (refine kX_one rfl ?_)
      refine kX_getN rfl rfl (kT_cl hc6) rfl ?_
      refine kX_top (y := σ (163 + 3 * c) 1) (by rw [e (163 + 3 * c) (by omega)]) ?_
      repeat refine kX_one rfl ?_
      refine kX_if (fun q2 => ?_) (fun q2 => ?_)
      · have q2 := qne q2
        exact k59 F i2 (fun z => q2 z.1.1)
      · have q2 := qneF q2
        iterate 3 (refine kX_one rfl ?_)
        refine kX_baldV rfl rfl (by decide) (i) (by first | rfl | decide) (by omega) (congrFun (e 16 (by omega)) i) ?_
        repeat refine kX_one rfl ?_
        refine kX_if (fun q3 => ?_) (fun q3 => ?_)
        · have q3 := qeq q3
          exact k59 F i2 (fun z => z.1.2 q3)
        · have q3 := qeqF q3
          iterate 6 (refine kX_one rfl ?_)
          refine kX_getN rfl rfl (kT_cl hc6) rfl ?_
          refine kX_top (y := nI v) (by rw [e (163 + 3 * c) (by omega)]; exact v2) ?_
          refine kX_cal (mc_valueOf L xs (d + 51) _ A M base i v g0 hA hM (by omega)) rfl (Or.inr rfl) rfl rfl rfl (fun r1 σ1 q1 => ?_)
          obtain ⟨rfl, rfl⟩ := q1
          have eV : va_up σ (K + 6) F A (base + 7 * i + 1 + v) = σ A (base + 7 * i + 1 + v) := by rw [e A (by omega)]
          rcases hV i v q v1 with x | ⟨z, z1, z2, z3⟩
          · refine kX_top (y := -1) (eV.trans x) ?_
            iterate 1 (refine kX_one rfl ?_)
            refine kX_cal (mf_canNot L xs (d + 50) _ K st n u (nI 0) (iE_nB i2)) rfl (Or.inr rfl) rfl (jcall_v rfl rfl rfl (kT_kn hE.1) rfl rfl) rfl (fun r1 ω q1 => ?_)
            obtain ⟨rfl, rfl⟩ := q1
            iterate 1 (refine kX_one rfl ?_)
            refine k59 F i2 (fun y => ?_)
            obtain ⟨-, z, z1, z2, -⟩ := y
            rw [hfv, x] at z2
            exact nI_m1 (by have := hE.2.1; omega) z2.symm
          · refine kX_top (y := nI z) (eV.trans z2) ?_
            have hgd : kGd (va_up σ (K + 6) F) z := by
              unfold kGd
              rw [e 2 (by omega), e 3 (by omega), e 4 (by omega)]
              exact z3
            have hmk : kMk (va_up σ (K + 6) F) l z = kMk σ l z := kMk_c (fun y hy => e y (by have := of_decide_eq_true (List.all_eq_true.mp (show kCl.all (fun c => decide (c < 186 ∨ 222 ≤ c)) = true by decide) y hy); omega))
            iterate 1 (refine kX_one rfl ?_)
            refine kX_cal (mf_canMake L xs K st n u m l 49 (d + 1) 0 _ z rfl (by have := i2.2.2.2.2.2.2.2.2.1 z z1; omega) i2 (Or.inl z1) hgd) rfl (Or.inr rfl) rfl (jcall_v rfl rfl rfl (kT_kn hE.1) rfl rfl) rfl (fun r1 ω q1 => ?_)
            obtain ⟨rfl, F', rfl, hE2⟩ := q1
            rw [kup_up] at hE2 ⊢
            rw [hmk]
            by_cases hk : kMk σ l z
            · rw [isB_T hk]
              repeat refine kX_one rfl ?_
              refine kX_ret (i := .ireturn) (len := 1) rfl (Or.inr rfl) rfl (⟨by rw [isB_T ⟨i, q, ⟨q2, q3⟩, z, z1, by rw [hfv]; exact z2, hk⟩]; rfl, F', rfl, hE2⟩)
            · rw [isB_F hk]
              iterate 1 (refine kX_one rfl ?_)
              refine k59 F' hE2 (fun y => ?_)
              obtain ⟨-, w, w1, w2, w3⟩ := y
              rw [hfv, z2] at w2
              have hn := hE.2.1
              obtain rfl : z = w := nI_inj w2
              exact hk w3
  unfold kXM
  iterate 2 (refine kX_one rfl ?_)
  have := loop (0, σ (K + 6)) ⟨Nat.zero_le _, by simp only; rw [kup_self]; exact hE, fun s hs => absurd hs (Nat.not_lt_zero s)⟩
  dsimp only at this
  rw [kup_self] at this
  exact kX_lv _ rfl rfl rfl this
/-- the claim c breaks -/
def cBk (σ : kS) (A base c n S : Nat) (l : rwT) : Prop := (σ (163 + 3 * c) 0 ≠ 0 ∧ ∃ s, s < S ∧ cLs σ A base c n l s) ∨ (σ (163 + 3 * c) 0 = 0 ∧ ¬ cPn (cWn σ A base c) (cFt σ A base c) S S 0 0)
set_option maxRecDepth 100000 in
set_option maxHeartbeats 4000000 in
theorem mf_breaks (L : Nat) (xs : Nat → Int32) (d : Nat) (σ : kS) (n R S C A M base c K st u m : Nat) (l : rwT) (g0 : Nat → Int32) (hB : cB σ n R S C) (hc : c < C) (hA : kT[A]? = some (.inl (0, M, .inl g0))) (hM : M ≤ 100000) (hbm : base + 28 ≤ M) (hA2 : A < K ∨ K + 9 ≤ A) (hE : iE σ K st n u m l) (hV : ∀ s k, s < S → k < 6 → σ A (base + 7 * s + 1 + k) = -1 ∨ ∃ z, z < n ∧ σ A (base + 7 * s + 1 + k) = nI z ∧ kGd σ z) : kXM kT L xs (d + 54) 24 [.ref 13, .int (nI c), .ref A, .int (nI base), .ref K] σ (fun q σ' => q = some (.int (isB (cBk σ A base c n S l))) ∧ mkP σ K st n u m l σ') := by
  have hS4 := hB.2.1.1
  have hC6 := hB.2.2.1
  have hc6 : c < 6 := by omega
  unfold kXM
  iterate 3 (refine kX_one rfl ?_)
  refine kX_aaldN rfl (rfl) (by decide) (by decide) (by decide) (c) (by first | rfl | decide) (hc6) (cl_at hc6) ?_
  iterate 2 (refine kX_one rfl ?_)
  refine kX_getN rfl rfl (kT_cl hc6) rfl ?_
  repeat refine kX_one rfl ?_
  refine kX_if (fun q => ?_) (fun q => ?_)
  · have q := qeq q
    iterate 6 (refine kX_one rfl ?_)
    have hp := mf_canPartner L xs σ n R S C A M base c g0 hB hc hA hM hbm S (d + (50 - S)) 0 0 (by omega) (by decide)
    rw [show d + (50 - S) + S + 3 = d + 53 by omega] at hp
    refine kX_cal hp rfl (Or.inr rfl) rfl rfl rfl (fun r1 ω q1 => ?_)
    obtain ⟨rfl, rfl⟩ := q1
    by_cases hk : cPn (cWn σ A base c) (cFt σ A base c) S S 0 0
    · rw [isB_T hk]
      repeat refine kX_one rfl ?_
      refine kX_ret (i := .ireturn) (len := 1) rfl (Or.inr rfl) rfl (⟨by rw [isB_F (fun z => z.elim (fun y => y.1 q) (fun y => y.2 hk))]; rfl, σ (K + 6), up_id.symm, hE⟩)
    · rw [isB_F hk]
      repeat refine kX_one rfl ?_
      refine kX_ret (i := .ireturn) (len := 1) rfl (Or.inr rfl) rfl (⟨by rw [isB_T (show cBk σ A base c n S l from Or.inr ⟨q, hk⟩)]; rfl, σ (K + 6), up_id.symm, hE⟩)
  · have q := qeqF q
    iterate 5 (refine kX_one rfl ?_)
    refine kX_cal (mf_leaks L xs d σ n R S C A M base c K st u m l g0 hB hc hA hM hbm hA2 hE hV q) rfl (Or.inr rfl) rfl rfl rfl (fun r1 ω q1 => ?_)
    obtain ⟨rfl, hP⟩ := q1
    by_cases hk : ∃ s, s < S ∧ cLs σ A base c n l s
    · rw [isB_T hk]
      repeat refine kX_one rfl ?_
      refine kX_ret (i := .ireturn) (len := 1) rfl (Or.inr rfl) rfl (⟨by rw [isB_T (show cBk σ A base c n S l from Or.inl ⟨q, hk⟩)], hP⟩)
    · rw [isB_F hk]
      repeat refine kX_one rfl ?_
      refine kX_ret (i := .ireturn) (len := 1) rfl (Or.inr rfl) rfl (⟨by rw [isB_F (fun z => z.elim (fun y => hk y.2) (fun y => q y.1))], hP⟩)
/-! partners -/
/-- each of ws finds a partner that is not in w -/
def cPl (F : Nat → Nat → Prop) (S : Nat) : List Nat → Nat → Prop
  | [], _ => True
  | s :: ws, w => ∃ p, p < S ∧ p ≠ s ∧ w / 2 ^ p % 2 = 0 ∧ F s p ∧ cPl F S ws (orb w p)
noncomputable def wsR (W : Nat → Prop) : Nat → Nat → List Nat
  | 0, _ => []
  | m + 1, s => cit (W s) (s :: wsR W m (s + 1)) (wsR W m (s + 1))
theorem cPn_l {W : Nat → Prop} {F : Nat → Nat → Prop} {S : Nat} : ∀ m s w, cPn W F S m s w ↔ cPl F S (wsR W m s) w
  | 0, s, w => Iff.rfl
  | m + 1, s, w => by
    rw [cPn_s]
    unfold wsR
    by_cases h : W s
    · rw [cit_T h]
      refine ⟨fun z => z.elim (fun ⟨_, p, p1, p2, p3, p4, p5⟩ => ⟨p, p1, p2, p3, p4, (cPn_l m _ _).mp p5⟩) (fun y => absurd h y.1), fun ⟨p, p1, p2, p3, p4, p5⟩ => Or.inl ⟨h, p, p1, p2, p3, p4, (cPn_l m _ _).mpr p5⟩⟩
    · rw [cit_F h]
      exact ⟨fun z => z.elim (fun y => absurd y.1 h) (fun y => (cPn_l m _ _).mp y.2), fun z => Or.inr ⟨h, (cPn_l m _ _).mpr z⟩⟩
theorem cPl_ps {F : Nat → Nat → Prop} {S : Nat} (hS : S ≤ 4) : ∀ (ws : List Nat) (w : Nat), w < 16 → (cPl F S ws w ↔ ∃ ps : List Nat, ps.length = ws.length ∧ ps.Pairwise (fun x y => x ≠ y) ∧ ∀ k (h : k < ps.length) (h' : k < ws.length), ps[k]'h < S ∧ ps[k]'h ≠ ws[k]'h' ∧ w / 2 ^ (ps[k]'h) % 2 = 0 ∧ F (ws[k]'h') (ps[k]'h))
  | [], w, _ => ⟨fun _ => ⟨[], rfl, List.Pairwise.nil, fun k h => absurd h (Nat.not_lt_zero k)⟩, fun _ => trivial⟩
  | s :: ws, w, hw => by
    refine ⟨fun ⟨p, p1, p2, p3, p4, p5⟩ => ?_, fun ⟨ps, h1, h2, h3⟩ => ?_⟩
    · have ho := orb_lt w hw p (by omega)
      obtain ⟨ps, h1, h2, h3⟩ := (cPl_ps hS ws (orb w p) ho.1).mp p5
      refine ⟨p :: ps, by simp [h1], List.Pairwise.cons (fun q hq => ?_) h2, fun k hk hk' => ?_⟩
      · obtain ⟨k, hk, rfl⟩ := List.getElem_of_mem hq
        have h4 := h3 k hk (by omega)
        intro e
        have := (ho.2 (ps[k]'hk) (by omega)).mpr (Or.inl e.symm)
        omega
      · cases k with
        | zero => exact ⟨p1, p2, p3, p4⟩
        | succ k =>
          simp only [List.length_cons] at hk hk'
          obtain ⟨a1, a2, a3, a4⟩ := h3 k (by omega) (by omega)
          refine ⟨a1, a2, ?_, a4⟩
          have := (ho.2 (ps[k]'(by omega)) (by omega))
          simp only [List.getElem_cons_succ]
          have hb := Nat.mod_lt (w / 2 ^ (ps[k]'(by omega))) (show 0 < 2 by decide)
          by_cases z : w / 2 ^ (ps[k]'(by omega)) % 2 = 1
          · have := this.mpr (Or.inr z)
            omega
          · omega
    · cases ps with
      | nil => simp at h1
      | cons p ps =>
        obtain ⟨a1, a2, a3, a4⟩ := h3 0 (by simp) (by simp)
        simp only [List.getElem_cons_zero] at a1 a2 a3 a4
        have ho := orb_lt w hw p (by omega)
        refine ⟨p, a1, a2, a3, a4, (cPl_ps hS ws (orb w p) ho.1).mpr ⟨ps, by simpa using h1, (List.pairwise_cons.mp h2).2, fun k hk hk' => ?_⟩⟩
        obtain ⟨b1, b2, b3, b4⟩ := h3 (k + 1) (by simp; omega) (by simp; omega)
        simp only [List.getElem_cons_succ] at b1 b2 b3 b4
        refine ⟨b1, b2, ?_, b4⟩
        have hne : ps[k]'hk ≠ p := fun e => (List.pairwise_cons.mp h2).1 _ (List.getElem_mem hk) e.symm
        have h5 := ho.2 (ps[k]'hk) (by omega)
        have hb := Nat.mod_lt (orb w p / 2 ^ (ps[k]'hk)) (show 0 < 2 by decide)
        by_cases z : orb w p / 2 ^ (ps[k]'hk) % 2 = 1
        · rcases h5.mp z with y | y
          · exact absurd y hne
          · omega
        · omega
theorem ps_code : ∀ ps : List Nat, (∀ p ∈ ps, p < 4) → ∃ code, code < 4 ^ ps.length ∧ ∀ k (h : k < ps.length), dig code k = ps[k]'h
  | [], _ => ⟨0, by simp, fun k h => absurd h (Nat.not_lt_zero k)⟩
  | p :: ps, hp => by
    obtain ⟨code, c1, c2⟩ := ps_code ps (fun q hq => hp q (List.mem_cons_of_mem _ hq))
    have hp4 := hp p (by simp)
    refine ⟨p + 4 * code, ?_, fun k hk => ?_⟩
    · rw [List.length_cons, Nat.pow_succ]
      omega
    · cases k with
      | zero =>
        unfold dig
        simp only [List.getElem_cons_zero, Nat.pow_zero, Nat.div_one]
        omega
      | succ k =>
        simp only [List.getElem_cons_succ]
        rw [← c2 k (by simpa using hk)]
        unfold dig
        rw [Nat.pow_succ, Nat.mul_comm (4 ^ k) 4, ← Nat.div_div_eq_div_mul]
        congr 1
        congr 1
        omega
end
section
/-! alike: broken -/
theorem wsL_R {σ : kS} {c : Nat} : ∀ m s, wsL σ c s ++ wsR (mWt σ c) m s = wsL σ c (s + m)
  | 0, s => by
    unfold wsR
    rw [List.append_nil, Nat.add_zero]
  | m + 1, s => by
    have e : wsL σ c (s + 1) = cit (mWt σ c s) (wsL σ c s ++ [s]) (wsL σ c s) := rfl
    have e2 : wsR (mWt σ c) (m + 1) s = cit (mWt σ c s) (s :: wsR (mWt σ c) m (s + 1)) (wsR (mWt σ c) m (s + 1)) := rfl
    rw [show s + (m + 1) = s + 1 + m by omega, ← wsL_R m (s + 1), e, e2]
    by_cases h : mWt σ c s
    · rw [cit_T h, cit_T h, List.append_assoc]
      rfl
    · rw [cit_F h, cit_F h]
theorem wsR_congr {W W' : Nat → Prop} : ∀ m s, (∀ u, s ≤ u → u < s + m → (W u ↔ W' u)) → wsR W m s = wsR W' m s
  | 0, s, _ => rfl
  | m + 1, s, h => by
    unfold wsR
    rw [wsR_congr m (s + 1) (fun u h1 h2 => h u (by omega) (by omega)), cit_iff (h s (Nat.le_refl _) (by omega))]
theorem wsR_lt {W : Nat → Prop} : ∀ m s, ∀ u ∈ wsR W m s, s ≤ u ∧ u < s + m
  | 0, s, u, hu => absurd hu List.not_mem_nil
  | m + 1, s, u, hu => by
    unfold wsR at hu
    by_cases h : W s
    · rw [cit_T h] at hu
      rcases List.mem_cons.mp hu with e | e
      · omega
      · have := wsR_lt m (s + 1) u e
        omega
    · rw [cit_F h] at hu
      have := wsR_lt m (s + 1) u hu
      omega
theorem cPl_congr {F F' : Nat → Nat → Prop} {S : Nat} : ∀ (ws : List Nat) (w : Nat), (∀ s ∈ ws, ∀ p, p < S → p ≠ s → (F s p ↔ F' s p)) → (cPl F S ws w ↔ cPl F' S ws w)
  | [], _, _ => Iff.rfl
  | s :: ws, w, h => by
    unfold cPl
    refine exists_congr (fun p => and_congr_right (fun h1 => and_congr_right (fun h2 => and_congr_right (fun _ => and_congr (h s (by simp) p h1 h2) ?_))))
    exact cPl_congr ws (orb w p) (fun s hs => h s (List.mem_cons_of_mem _ hs))
/-- partners, counted through -/
theorem cPl_code {σ : kS} {c S : Nat} (hS : S ≤ 4) (ws : List Nat) : cPl (mFit σ c) S ws 0 ↔ ∃ code, code < 4 ^ ws.length ∧ mOkc σ c S ws code := by
  rw [cPl_ps hS ws 0 (by decide)]
  refine ⟨fun ⟨ps, h1, h2, h3⟩ => ?_, fun ⟨code, c1, c2⟩ => ?_⟩
  · obtain ⟨code, c1, c2⟩ := ps_code ps (fun p hp => by
      obtain ⟨k, hk, rfl⟩ := List.getElem_of_mem hp
      have := (h3 k hk (by omega)).1
      omega)
    refine ⟨code, h1 ▸ c1, fun k hk => ?_⟩
    have hk' : k < ps.length := by omega
    obtain ⟨a1, -, -, a4⟩ := h3 k hk' hk
    unfold mP1
    rw [c2 k hk']
    refine ⟨a1, fun i hi => ?_, ?_⟩
    · rw [c2 i (by omega)]
      exact (List.pairwise_iff_getElem.mp h2) i k (by omega) hk' hi
    · rw [List.getD_eq_getElem?_getD, List.getElem?_eq_getElem hk]
      exact a4
  · refine ⟨(List.range ws.length).map (dig code), by simp, ?_, fun k hk hk' => ?_⟩
    · rw [List.pairwise_iff_getElem]
      intro i j hi hj hij
      simp only [List.length_map, List.length_range] at hi hj
      simp only [List.getElem_map, List.getElem_range]
      exact (c2 j hj).2.1 i hij
    · simp only [List.getElem_map, List.getElem_range]
      obtain ⟨a1, -, a3⟩ := c2 k hk'
      rw [List.getD_eq_getElem?_getD, List.getElem?_eq_getElem hk'] at a3
      exact ⟨a1, fun e => a3.1.1 e.symm, by rw [Nat.zero_div], a3⟩
theorem cPn_code {σ : kS} {c S : Nat} (hS : S ≤ 4) : cPn (mWt σ c) (mFit σ c) S S 0 0 ↔ ∃ code, code < 4 ^ (wsL σ c S).length ∧ mOkc σ c S (wsL σ c S) code := by
  have e : wsR (mWt σ c) S 0 = wsL σ c S := by
    have := wsL_R (σ := σ) (c := c) S 0
    rw [Nat.zero_add] at this
    exact this
  rw [cPn_l, e]
  exact cPl_code hS _
theorem cPn_congr {W W' : Nat → Prop} {F F' : Nat → Nat → Prop} {S : Nat} (hW : ∀ s, s < S → (W s ↔ W' s)) (hF : ∀ s p, s < S → p < S → p ≠ s → (F s p ↔ F' s p)) : cPn W F S S 0 0 ↔ cPn W' F' S S 0 0 := by
  rw [cPn_l, cPn_l, wsR_congr S 0 (fun u _ h2 => hW u (by omega))]
  exact cPl_congr _ _ (fun s hs p h1 h2 => hF s p (by have := wsR_lt S 0 s hs; omega) h1 h2)
/-- the cells A from base on hold the reference's state -/
def staV (σ : kS) (A base S : Nat) : Prop := ∀ s, s < S → σ A (base + 7 * s) = σ 264 s ∧ ∀ k, k < 6 → nnI (σ A (base + 7 * s + 1 + k)) = σ 265 (6 * s + k)
/-- the claim c is broken over the row tr -/
def mBt (σ : kS) (tr : trT) (c S : Nat) : Prop := (σ 257 c ≠ 0 ∧ ∃ s, s < S ∧ σ 255 s = σ 258 c ∧ ¬ σ 265 (6 * s + fN (σ 259 c)) < 0 ∧ mHo σ s ∧ trM σ tr (tvl (σ 233) (σ 234) (σ 235) (fN (σ 265 (6 * s + fN (σ 259 c)))))) ∨ (σ 257 c = 0 ∧ ¬ cPn (mWt σ c) (mFit σ c) S S 0 0)
theorem mSv_val {σ : kS} {n R S s k : Nat} (h : mSv σ n R S) (hs : s < S) (hk : k < 6) : σ 265 (6 * s + k) = -6 ∨ ∃ z, z < n ∧ σ 265 (6 * s + k) = nI z ∧ tgd (σ 233) (σ 234) (σ 235) z = true := by
  obtain ⟨r, -, -, -, -, h5, -⟩ := h.2 s hs
  rcases h5 k hk with q | ⟨z, z1, z2, z3, -⟩
  · exact Or.inl q.1
  · exact Or.inr ⟨z, z1, z2, z3⟩
theorem mBk_tr {σ τ : kS} {n b R S C c : Nat} {l : rwT} (h : mTb σ n b) (hF : mFr σ τ n) (hR : mRo σ n R) (hC : mCl σ R C) (hc : c < C) (hS4 : S ≤ 4) (hS : mSv σ n R S) : mBk τ l c S ↔ mBt σ (rwM τ l) c S := by
  have e := eqC_of (σ := σ) (ω := τ) hF.1 [255, 258, 259, 260, 264, 247, 265, 238, 246, 244, 257, 261, 262, 263] (by decide)
  have hn := h.1
  have hmH : mHo τ = mHo σ := by
    funext s
    unfold mHo
    rw [e 244 (by decide), e 255 (by decide), e 246 (by decide), e 238 (by decide), e 265 (by decide)]
  have hmW : mWt τ c = mWt σ c := by
    funext s
    unfold mWt
    rw [hmH, e 255 (by decide), e 258 (by decide), e 264 (by decide), e 247 (by decide)]
  have hmF : mFit τ c = mFit σ c := by
    funext s o
    unfold mFit mJn
    rw [e 255 (by decide), e 259 (by decide), e 260 (by decide), e 264 (by decide), e 265 (by decide), e 261 (by decide), e 263 (by decide), e 262 (by decide)]
  unfold mBk mBt
  rw [← cPn_code hS4, hmW, hmF, e 257 (by decide)]
  refine or_congr (and_congr_right (fun hsec => exists_congr (fun s => and_congr_right (fun hs => ?_)))) Iff.rfl
  unfold mLs
  rw [hmH, e 255 (by decide), e 258 (by decide), e 265 (by decide), e 259 (by decide)]
  refine and_congr_right (fun _ => and_congr_right (fun hv => and_congr_right (fun _ => ?_)))
  obtain ⟨bb, aa, nn, j, x1, x2, x3, x4, -⟩ := hC.2.2 c hc
  obtain ⟨⟨vv, vv6, vv2⟩, -⟩ := hR.2.2.1 bb x1
  have ha6 : aa < 6 := by
    have := x4 hsec
    rw [vv2, fN_nI (by omega)] at this
    omega
  have hfa : fN (σ 259 c) = aa := by rw [x3]; exact fN_nI (by omega)
  rw [hfa] at hv ⊢
  rcases mSv_val hS hs ha6 with q | ⟨z, z1, z2, z3⟩
  · rw [q] at hv
    exact absurd (by decide) hv
  · rw [z2, fN_nI (by omega), mMk_tr h hF z1]
    exact ⟨fun y => y.2, fun y => ⟨z3, y⟩⟩
/-- both sides break alike -/
theorem cBk_tr {σ : kS} {n b R S C c A base u m K st : Nat} {l : rwT} (h : mTb σ n b) (hR : mRo σ n R) (hSe : mSe σ n R S) (hC : mCl σ R C) (hc : c < C) (hS : mSv σ n R S) (aR' : aR σ R) (aS' : aS σ S) (aC' : aC σ C) (hA1 : ∀ t, t < n → aT1 σ t) (hv : staV σ A base S) (hV : ∀ s k, s < S → k < 6 → σ A (base + 7 * s + 1 + k) = -1 ∨ ∃ z, z < n ∧ σ A (base + 7 * s + 1 + k) = nI z ∧ kGd σ z) (hH : ∀ s, s < S → (mHo σ s ↔ hoF σ s)) (hE : iE σ K st n u m l) : cBk σ A base c n S l ↔ mBt σ (kTr σ l) c S := by
  have hn := h.1
  have hS4 := hSe.1
  have hR4 := hR.1
  have hcl := aC' c hc
  obtain ⟨bb, aa, nn, j, x1, x2, x3, x4, x5, x6, x7, x8, x9, x10⟩ := hC.2.2 c hc
  have hval : ∀ s k, s < S → k < 6 → (σ A (base + 7 * s + 1 + k) = -1 ∧ σ 265 (6 * s + k) = -6) ∨ ∃ z, z < n ∧ σ A (base + 7 * s + 1 + k) = nI z ∧ σ 265 (6 * s + k) = nI z := fun s k hs hk => by
    have e := (hv s hs).2 k hk
    rcases hV s k hs hk with q | ⟨z, z1, z2, -⟩
    · rw [q] at e
      exact Or.inl ⟨q, e.symm⟩
    · rw [z2, nnI_nI (by omega)] at e
      exact Or.inr ⟨z, z1, z2, e.symm⟩
  have hn6 : ∀ z : Nat, z < n → nI z ≠ -6 := fun z hz e => absurd (show nI z < 0 by rw [e]; decide) (nI_pos (by omega))
  have hsr : ∀ s, s < S → (σ 15 s = σ (163 + 3 * c) 1 ↔ σ 255 s = σ 258 c) := fun s hs => by
    rw [(aS' s hs).1, hcl.2.1]
  have hho : ∀ s, s < S → (σ 16 s ≠ 0 ↔ mHo σ s) := fun s hs => by
    rw [hH s hs]
    exact (aS' s hs).2.2.2
  unfold cBk mBt
  refine or_congr ?_ ?_
  · rw [hcl.1]
    refine and_congr_right (fun hsec => exists_congr (fun s => and_congr_right (fun hs => ?_)))
    obtain ⟨⟨vv, vv6, vv2⟩, -⟩ := hR.2.2.1 bb x1
    have ha6 : aa < 6 := by
      have := x4 hsec
      rw [vv2, fN_nI (by omega)] at this
      omega
    have hfa : fN (σ 259 c) = aa := by rw [x3]; exact fN_nI (by omega)
    have hfc : fN (σ (163 + 3 * c) 3) = aa := by rw [hcl.2.2.1 hsec]; exact hfa
    unfold cLs
    rw [hsr s hs, hho s hs, hfa, hfc]
    rcases hval s aa hs ha6 with ⟨q1, q2⟩ | ⟨z, z1, z2, z3⟩
    · refine ⟨fun ⟨_, z, z1, z2, _⟩ => ?_, fun ⟨_, y, _⟩ => ?_⟩
      · rw [q1] at z2
        exact absurd z2.symm (nI_m1 (by omega))
      · rw [q2] at y
        exact absurd (by decide) y
    · have hkm : kMk σ l z ↔ trM σ (kTr σ l) (tvl (σ 233) (σ 234) (σ 235) z) := by
        unfold kMk trM
        rw [aT_tv h hA1 z1, kTr_I]
      rw [z3, fN_nI (by omega)]
      refine ⟨fun ⟨y, w, w1, w2, w3⟩ => ?_, fun ⟨y1, _, y2, y3⟩ => ⟨⟨y1, y2⟩, z, z1, z2, hkm.mpr y3⟩⟩
      obtain rfl : z = w := nI_inj (z2.symm.trans w2)
      exact ⟨y.1, nI_pos (by omega), y.2, hkm.mp w3⟩
  · have hsz : σ (163 + 3 * c) 0 = 0 ↔ σ 257 c = 0 := by
      have := not_congr hcl.1
      simpa using this
    rw [hsz]
    refine and_congr_right (fun hsec => not_congr (cPn_congr (fun s hs => ?_) (fun s p hs hp hps => ?_)))
    · unfold cWn mWt
      rw [hsr s hs, hho s hs]
      refine ⟨fun ⟨⟨y1, y2⟩, y3⟩ => ⟨y1, ?_, y2⟩, fun ⟨y1, y2, y3⟩ => ⟨⟨y1, y3⟩, ?_⟩⟩
      · obtain ⟨r, r1, r2, r3, r4, -⟩ := hS.2 s hs
        have hrb : r = bb := nI_inj (r2.symm.trans (y1.trans x2))
        subst hrb
        obtain ⟨-, ev, ev6, ev2⟩ := hR.2.2.1 r r1
        unfold cHd at y3
        rw [(aS' s hs).1, r2, fN_nI (by omega), (aR' r r1).2.1, (hv s hs).1, r3, ev2] at y3
        rw [ev2, fN_nI (by omega)] at r4
        rw [x2, fN_nI (by omega), ev2, r3]
        have : ¬ fN (σ 264 s) < ev := fun z => y3 (by rw [Int32.lt_iff_toInt_lt, nI_toInt (by omega), nI_toInt (by omega)]; omega)
        congr 1
        omega
      · obtain ⟨r, r1, r2, r3, r4, -⟩ := hS.2 s hs
        have hrb : r = bb := nI_inj (r2.symm.trans (y1.trans x2))
        subst hrb
        unfold cHd
        rw [(aS' s hs).1, r2, fN_nI (by omega), (aR' r r1).2.1, (hv s hs).1, y2, x2, fN_nI (by omega)]
        exact fun z => Int32.lt_irrefl z
    · have hag := hcl.2.2.2.1 hsec
      have haR := x5 hsec
      unfold cFt mFit
      rw [(aS' p hp).1, hag.1, hag.2, (hv p hp).1, hcl.2.2.2.2.1, x9, fN_nI (by omega)]
      refine and_congr ⟨fun y => ⟨fun e => hps e.symm, y.1, Int32.not_lt.mp y.2⟩, fun y => ⟨y.2.1, Int32.not_lt.mpr y.2.2⟩⟩ (forall_congr' (fun k => forall_congr' (fun hk => ?_)))
      obtain ⟨bx, ay, q1, q2, q3, q4, q5⟩ := x10 k hk
      have hcj := hcl.2.2.2.2.2 k (by rw [x9, fN_nI (by omega)]; exact hk)
      obtain ⟨⟨v1, v16, v12⟩, -⟩ := hR.2.2.1 bb x1
      obtain ⟨⟨v2, v26, v22⟩, -⟩ := hR.2.2.1 aa haR
      rw [v12, fN_nI (by omega)] at q1
      rw [v22, fN_nI (by omega)] at q2
      unfold mJn
      rw [hcj.1, hcj.2, q4, q5, fN_nI (by omega), fN_nI (by omega)]
      rcases hval s bx hs (by omega) with ⟨a1, a2⟩ | ⟨z, z1, z2, z3⟩
      · rw [a1, a2]
        exact ⟨fun y => absurd rfl y.1, fun y => absurd (by decide) y.1⟩
      · rw [z2, z3]
        refine and_congr ⟨fun _ => nI_pos (by omega), fun _ => nI_m1 (by omega)⟩ ?_
        rcases hval p ay hp (by omega) with ⟨b1, b2⟩ | ⟨w, w1, w2, w3⟩
        · rw [b1, b2]
          exact ⟨fun y => absurd y (nI_m1 (by omega)), fun y => absurd y (hn6 z z1)⟩
        · rw [w2, w3]
end
section
/-! alike: broken -/
theorem mBt_hi {σ τ : kS} {tr : trT} {c S : Nat} (h : ∀ c, 232 ≤ c → τ c = σ c) : mBt τ tr c S = mBt σ tr c S := by
  have e := eqC_of h [255, 258, 259, 260, 264, 247, 265, 238, 246, 244, 257, 261, 262, 263, 233, 234, 235] (by decide)
  have hmH : mHo τ = mHo σ := by
    funext s
    unfold mHo
    rw [e 244 (by decide), e 255 (by decide), e 246 (by decide), e 238 (by decide), e 265 (by decide)]
  have hmW : mWt τ c = mWt σ c := by
    funext s
    unfold mWt
    rw [hmH, e 255 (by decide), e 258 (by decide), e 264 (by decide), e 247 (by decide)]
  have hmF : mFit τ c = mFit σ c := by
    funext s o
    unfold mFit mJn
    rw [e 255 (by decide), e 259 (by decide), e 260 (by decide), e 264 (by decide), e 265 (by decide), e 261 (by decide), e 263 (by decide), e 262 (by decide)]
  unfold mBt trM mA
  rw [hmH, hmW, hmF, e 255 (by decide), e 258 (by decide), e 259 (by decide), e 265 (by decide), e 257 (by decide), e 233 (by decide), e 234 (by decide), e 235 (by decide), e 238 (by decide)]
/-- HONEST at first and in the RUN -/
theorem aU_ho {σ : kS} {n b R S C m : Nat} {kl : List Nat} (h : aJ σ n b R S C kl m) (hr0 : σ 232 52 ≠ 0) : ∀ s, s < S → (mHo σ s ↔ hoF σ s) := by
  intro s hs
  obtain ⟨-, -, uv, uo, -⟩ := h.2.2.2.2.2.2.2.1.2 hr0
  obtain ⟨r, r1, r2, -, e3⟩ := h.1.2.2.1.2.2 s hs
  have hR4 := h.1.2.1.1
  have hn := h.1.1.1
  have hfr : fN (σ 255 s) = r := by rw [r2]; exact fN_nI (by omega)
  obtain ⟨⟨v, v6, v2⟩, -⟩ := h.1.2.1.2.2.1 r r1
  have hfv : fN (σ 244 r) = v := by rw [v2]; exact fN_nI (by omega)
  have key : ∀ k, k < fN (σ 244 r) → σ 246 (6 * r + k) = 0 → σ 265 (6 * s + k) = σ 256 (6 * s + k) := fun k hk h0 => by
    have hk6 : k < 6 := by omega
    obtain ⟨as, a1, a2⟩ := e3 k hk
    have ha := (h.2.2.2.2.1 s hs).2.2.1 k hk6
    rw [hfr, if_pos hk] at ha
    rcases a2 with ⟨a2, -⟩ | ⟨a2, z, z1, z2, -⟩
    · subst a2
      rw [a1] at h0
      exact absurd h0 (by decide)
    · rw [z2] at ha ⊢
      have hop : σ 17 (7 * s + 1 + k) = nI z := by
        unfold nnI at ha
        split at ha
        · exact absurd (show nI z < 0 by rw [← ha]; decide) (nI_pos (by omega))
        · exact ha
      have hat := uo s hs k hk6 (by rw [hop]; exact nI_m1 (by omega))
      have := (uv s hs).2 k hk6
      rw [hat, hop, nnI_nI (by omega)] at this
      exact this.symm
  unfold mHo hoF
  rw [hfr]
  exact forall_congr' (fun k => forall_congr' (fun hk => forall_congr' (fun h0 => by rw [key k hk h0])))
set_option maxRecDepth 100000 in
set_option maxHeartbeats 4000000 in
theorem mg_broken (L : Nat) (xs : Nat → Int32) (d : Nat) (σ : kS) (n b R S C : Nat) (kl : List Nat) (x : Int32) (Q : Option Value → kS → Prop) (h : mI σ n b R S C kl) (hN : ¬ isN x C → Q (some (.int (-1))) σ) (hS : isN x C → σ 232 52 = 0 → Q (some (.int (-3))) σ)
    (hM : ∀ c ds b' σ', c < C → x = nI c → σ 232 52 = 1 → mRn σ n R S ds → mFr σ σ' n → mI σ' n b' R S C kl → Q (some (.int (isB (mBt σ (trRun σ kl ds) c S)))) σ') : kXM kT L xs (d + 8) 207 [.ref 232, .int x] σ Q := by
  have h0 := h
  obtain ⟨h1, h2, h3, h4, h5, h6, h7⟩ := h
  have hC6 := h5.1
  unfold kXM
  repeat refine kX_one rfl ?_
  refine kX_cal (mr_in L xs (d + 7) σ _ _ _) rfl (Or.inr rfl) rfl rfl rfl (fun r1 σ1 q1 => ?_)
  obtain ⟨rfl, rfl⟩ := q1
  repeat refine kX_one rfl ?_
  refine kX_if (fun q => ?_) (fun q => ?_)
  · have q := (bI_ne _).mp (qne q)
    have q := of_decide_eq_true q
    obtain ⟨c, hc, rfl⟩ : isN x C := (in_N (by omega)).mp (by rw [← h5.2.1]; exact q)
    rcases h6 with h6 | ⟨h6, ds, g1, g2, g3⟩
    · iterate 2 (refine kX_one rfl ?_)
      refine kX_top (h6) ?_
      repeat refine kX_one rfl ?_
      refine kX_ret (i := .ireturn) (len := 1) rfl (Or.inr rfl) rfl (hS ⟨c, hc, rfl⟩ h6)
    · iterate 2 (refine kX_one rfl ?_)
      refine kX_top (h6) ?_
      repeat refine kX_one rfl ?_
      refine kX_cal (mr_row L xs d σ n b R S C kl ds h0 h6 g1 g2 g3) rfl (Or.inr rfl) rfl rfl rfl (fun r1 σ1 q1 => ?_)
      obtain ⟨rfl, f1, f2, b', l, f3, f4, f5, f6, f7⟩ := q1
      have hI1 := mI_there h0 h6 g1 g2 f1 f2 f3 f4 f5 f6 f7
      have hbk := mBk_tr (l := l) h1 f1 h2 h5 hc h3.1 (mRn_Sv h2 h3.2.1 g1)
      rw [f7] at hbk
      repeat refine kX_one rfl ?_
      refine kX_cal (mr_isBroken L xs (d + 1) σ1 n b' R S C c l f4 hI1.1.2.1 h3.1 (mRn_Sv hI1.1.2.1 hI1.1.2.2.1.2.1 hI1.2.1) hI1.1.2.2.2.2.1 hc f5 f6) rfl (Or.inr rfl) rfl rfl rfl (fun r1 σ2 q1 => ?_)
      obtain ⟨rfl, k1, k2⟩ := q1
      have hF2 := mFr_trans f1 k1.1
      have fin := (mI_there h0 h6 g1 g2 hF2 ((k2 _ (by decide) (by decide) (by decide)).trans f2) f3 k1.2.1 k1.2.2.1 k1.2.2.2.1 (by rw [k1.2.2.2.2]; exact f7)).1
      have key := hM c ds b' σ2 hc rfl h6 g1 hF2 fin
      repeat refine kX_one rfl ?_
      refine kX_if (fun q3 => ?_) (fun q3 => ?_)
      · have q3 : ¬ mBk σ1 l c S := fun z => isB_ne.mpr z (qeq q3)
        rw [isB_F (fun z => q3 (hbk.mpr z))] at key
        repeat refine kX_one rfl ?_
        refine kX_ret (i := .ireturn) (len := 1) rfl (Or.inr rfl) rfl (key)
      · have q3 : mBk σ1 l c S := isB_ne.mp (qeqF q3)
        rw [isB_T (hbk.mp q3)] at key
        repeat refine kX_one rfl ?_
        refine kX_ret (i := .ireturn) (len := 1) rfl (Or.inr rfl) rfl (key)
  · have q : ¬ isN x C := fun z => by
      have := (in_N (by omega)).mpr z
      rw [← h5.2.1] at this
      exact (bI_ne _).mpr (decide_eq_true this) (qneF q)
    repeat refine kX_one rfl ?_
    refine kX_ret (i := .ireturn) (len := 1) rfl (Or.inr rfl) rfl (hN q)
set_option maxRecDepth 100000 in
set_option maxHeartbeats 4000000 in
theorem bo_broken (L : Nat) (xs : Nat → Int32) (d d' m : Nat) (σ : kS) (x : Int32) (hm : m < 2147483646) (h : bJ m σ) : kXM kT L xs (d + 56) 130 [.ref 0, .int x] σ (fun r τ => ∃ z, r = some (.int z) ∧ kXM kT L xs (d' + 8) 207 [.ref 232, .int x] τ (fun r' ω => r' = some (.int z) ∧ bJ (m + 1) ω)) := by
  have hb := bJ_up (Nat.le_succ m) h
  obtain ⟨n, b, R, S, C, kl, h⟩ := h
  have hcl := h.2.1.2.2.2.1
  have hU := h.2.2.2.2.2.2.2.1
  have hT := h.1.1
  have hn := hT.1
  unfold kXM
  iterate 3 (refine kX_one rfl ?_)
  refine kX_cal (mc_hasClaim L xs (d + 54) σ C x hcl.1 hcl.2.1) rfl (Or.inr rfl) rfl rfl rfl (fun r1 σ1 q1 => ?_)
  obtain ⟨rfl, rfl⟩ := q1
  repeat refine kX_one rfl ?_
  refine kX_if (fun q => ?_) (fun q => ?_)
  · obtain ⟨c, hc, rfl⟩ := isB_ne.mp (qne q)
    repeat refine kX_one rfl ?_
    refine kX_if (fun q2 => ?_) (fun q2 => ?_)
    · have q2 : σ 181 8 = 0 := qeq q2
      have hr0 : σ 232 52 = 0 := Classical.byContradiction fun z => hU.1.mpr z q2
      repeat refine kX_one rfl ?_
      refine kX_ret (i := .ireturn) (len := 1) rfl (Or.inr rfl) rfl (⟨_, rfl, ?_⟩)
      exact mg_broken L xs d' σ n b R S C kl _ _ h.1 (fun z => absurd ⟨c, hc, rfl⟩ z) (fun _ _ => ⟨rfl, hb⟩) (fun _ _ _ _ _ _ z _ _ _ => absurd (z.symm.trans hr0) (by decide))
    · have hon : σ 181 8 ≠ 0 := qeqF q2
      have hr0 : σ 232 52 ≠ 0 := hU.1.mp hon
      obtain ⟨hr1, ds, hD, -⟩ := mI_ds h.1 hr0
      iterate 9 (refine kX_one rfl ?_)
      refine kX_cal (mf_intruder L xs d σ σ n b R S C m kl ds (vw_refl σ) h hm hr0 hD) rfl (Or.inr rfl) rfl rfl rfl (fun r1 τ q1 => ?_)
      obtain ⟨rfl, u, m', l, hm', hQ⟩ := q1
      have hJ2 := inQ_J h hr0 hD hQ hm'
      have hE := hQ.2.2.2.1
      have e0 : ∀ c, 232 ≤ c → τ c = σ c := fun c hc => inQ_cell hQ (by omega) (by omega) (by omega) (by omega)
      have hr2 : τ 232 52 ≠ 0 := by rw [e0 232 (by decide)]; exact hr0
      have hV : ∀ s k, s < S → k < 6 → τ 182 (0 + 7 * s + 1 + k) = -1 ∨ ∃ z, z < n ∧ τ 182 (0 + 7 * s + 1 + k) = nI z ∧ kGd τ z := fun s k hs hk => by
        rcases hJ2.2.1.2.2.2.2.2.2.2.2.1 with z | ⟨-, -, hcV, -⟩
        · exact absurd z (fun z => hJ2.2.2.2.2.2.2.2.1.1.mpr hr2 z)
        · rcases hcV s k hs hk with q | ⟨z, z1, z2, z3⟩
          · exact Or.inl q
          · refine Or.inr ⟨z, z1, z2, ?_⟩
            have := hQ.2.2.2.2.2.1 z z1
            rw [z3] at this
            exact isB_1.mp this.symm
      refine kX_cal (mf_breaks L xs (d + 1) τ n R S C 182 28 0 c 186 200 u m' l (fun _ => 0) (cB_of hJ2.2.1) hc rfl (by decide) (by decide) (by decide) hE hV) rfl (Or.inr rfl) rfl rfl rfl (fun r1 ω q1 => ?_)
      obtain ⟨rfl, M, rfl, hE2⟩ := q1
      have hQ2 := inQ_mk hQ hE2
      have hJ3 := inQ_J h hr0 hD hQ2 hm'
      have e : ∀ c, 232 ≤ c → va_up τ 192 M c = σ c := fun c hc => inQ_cell hQ2 (by omega) (by omega) (by omega) (by omega)
      have hst : staV τ 182 0 S := fun s hs => by
        have := (hJ2.2.2.2.2.2.2.2.1.2 hr2).2.2.1 s hs
        rw [Nat.zero_add]
        exact this
      have hkk := cBk_tr hJ2.1.1 hJ2.1.2.1 hJ2.1.2.2.1 hJ2.1.2.2.2.2.1 hc (mRn_Sv hJ2.1.2.1 hJ2.1.2.2.1.2.1 (mRn_hi e0 hD)) hJ2.2.2.2.1 hJ2.2.2.2.2.1 hJ2.2.2.2.2.2.1 hJ2.2.2.1.1 hst hV (aU_ho hJ2 hr2) hE
      rw [hQ.2.2.2.2.2.2.2, mBt_hi e0] at hkk
      have fin : kXM kT L xs (d' + 8) 207 [.ref 232, .int (nI c)] (va_up τ 192 M) (fun r' ω => r' = some (.int (isB (isB (cBk τ 182 0 c n S l) ≠ 0))) ∧ bJ (m + 1) ω) := by
        refine mg_broken L xs d' _ n b R S C kl _ _ hJ3.1 (fun z => absurd ⟨c, hc, rfl⟩ z) (fun _ z => absurd ((congrFun (e 232 (by decide)) _).symm.trans z) hr0) (fun c' ds' b' ω hc' et _ hD' hF hI => ?_)
        have hC6 := hcl.1
        obtain rfl : c = c' := nI_inj et
        obtain rfl : ds = ds' := mRn_u hJ3.1.2.1 hJ3.1.2.2.1.1 (mRn_hi e hD) hD'
        refine ⟨?_, bJ_fr hJ3 (mLow_fr hF) hF hI⟩
        rw [isB_iff (isB_ne.trans hkk), trRun_hi e, mBt_hi e]
      refine kX_cal (mc_asNumber L xs (d + 54) (va_up τ 192 M) _) rfl (Or.inr rfl) rfl rfl rfl (fun r1 σ1 q1 => ?_)
      obtain ⟨rfl, rfl⟩ := q1
      repeat refine kX_one rfl ?_
      refine kX_ret (i := .ireturn) (len := 1) rfl (Or.inr rfl) rfl (⟨_, rfl, fin⟩)
  · have q : ¬ isN x C := fun z => isB_ne.mpr z (qneF q)
    repeat refine kX_one rfl ?_
    refine kX_ret (i := .ireturn) (len := 1) rfl (Or.inr rfl) rfl (⟨_, rfl, ?_⟩)
    exact mg_broken L xs d' σ n b R S C kl _ _ h.1 (fun _ => ⟨rfl, hb⟩) (fun z => absurd z q) (fun c _ _ _ hc ec _ _ _ _ => absurd ⟨c, hc, ec⟩ q)
end
section
/-! alike: matches -/
/-- what stands for a VARIABLE in the class, in the reference -/
def trR (n : Nat) (x y : Int32) : Prop := (x = -1 ∧ y = -6) ∨ ∃ z, z < n ∧ x = nI z ∧ y = nI z
theorem mtF_c {σ τ : kS} (e : eqC σ τ [233, 234, 235, 241, 240]) : ∀ f p t a, mtF τ f p t a = mtF σ f p t a := by
  intro f
  induction f with
  | zero => intro p t a; rfl
  | succ f ih =>
    intro p t a
    unfold mtF
    rw [e 233 (by decide), e 234 (by decide), e 235 (by decide), e 241 (by decide), e 240 (by decide)]
    simp only [ih]
def mtQ (σ : kS) (n : Nat) (res : Option (Nat → Int32)) (q : Option Value) (σ' : kS) : Prop := (∀ c, c ≠ 185 → σ' c = σ c) ∧ ((res = none ∧ q = some (.int 0)) ∨ ∃ a', res = some a' ∧ q = some (.int 1) ∧ ∀ k, k < 6 → trR n (σ' 185 k) (a' k))
set_option maxRecDepth 100000 in
set_option maxHeartbeats 4000000 in
theorem mf_mayStand (L : Nat) (xs : Nat → Int32) (d : Nat) (σ : kS) (n b p v : Nat) (a : Nat → Int32) (hT : cT σ n) (hM : mTb σ n b) (hA : ∀ t, t < n → aT1 σ t) (hp : p < n) (hv : v < n) (hk : σ 233 p = nI 3) (ht : ∀ k, k < 6 → trR n (σ 185 k) (a k)) : kXM kT L xs (d + 1) 75 [.ref 181, .int (nI p), .int (nI v)] σ (mtQ σ n (mtF σ (p + 1) p v a)) := by
  have hn := hT.1
  obtain ⟨y1, -, -, -, -, -, y7⟩ := hA p hp
  obtain ⟨-, y8, y9⟩ := y7 hk
  obtain ⟨-, pl, hpl, hpl2⟩ := (hT.2.2.2 p hp).2.2.2.2.1 (y1.trans hk)
  have hof : fN (σ 241 p) = pl := by rw [← y9, hpl2]; exact fN_nI (by omega)
  have hgp : ¬ tgd (σ 233) (σ 234) (σ 235) p = true := by
    rw [tgd_0 hk (by decide)]
    exact fun z => absurd rfl (of_decide_eq_true z)
  have hres : mtF σ (p + 1) p v a = (if ¬ a pl < 0 then (if a pl = nI v then some a else none) else (if σ 240 p ≠ nI 3 ∧ σ 233 v ≠ σ 240 p then none else some (upd a pl (nI v)))) := by
    unfold mtF
    rw [if_neg hgp, if_pos hk, hof]
  rw [hres]
  unfold kXM
  iterate 4 (refine kX_one rfl ?_)
  refine kX_ialdV rfl rfl (by decide) (p) (by first | rfl | decide) (by omega) (hpl2) ?_
  iterate 5 (refine kX_one rfl ?_)
  refine kX_ialdV rfl rfl (by decide) (p) (by first | rfl | decide) (by omega) (y8) ?_
  have k69 : a pl < 0 → ¬ (σ 240 p ≠ nI 3 ∧ σ 233 v ≠ σ 240 p) → kX kT L xs (d + 1) 75 69 [(3, .int (nI pl)), (0, .ref 181), (1, .int (nI p)), (2, .int (nI v))] [] σ (mtQ σ n (if ¬ a pl < 0 then (if a pl = nI v then some a else none) else (if σ 240 p ≠ nI 3 ∧ σ 233 v ≠ σ 240 p then none else some (upd a pl (nI v))))) := by
    intro h1 h2
    rw [if_neg (fun z => z h1), if_neg h2]
    iterate 4 (refine kX_one rfl ?_)
    refine kX_iastN rfl rfl (by decide) (pl) (by first | rfl | decide) (hpl) ?_
    repeat refine kX_one rfl ?_
    refine kX_ret (i := .ireturn) (len := 1) rfl (Or.inr rfl) rfl ⟨fun c hc => up_ne hc, Or.inr ⟨_, rfl, rfl, fun k hk => ?_⟩⟩
    rw [up_eq]
    by_cases e : k = pl
    · subst e
      rw [pk_us, pk_us]
      exact Or.inr ⟨v, hv, rfl, rfl⟩
    · rw [pk_un e, pk_un e]
      exact ht k hk
  iterate 4 (refine kX_one rfl ?_)
  refine kX_ialdN rfl rfl (by decide) (pl) (by first | rfl | decide) (hpl) ?_
  repeat refine kX_one rfl ?_
  refine kX_if (fun q => ?_) (fun q => ?_)
  · have q : σ 185 pl = -1 := qeq q
    have hneg : a pl < 0 := by
      rcases ht pl hpl with z | ⟨z, z1, z2, -⟩
      · rw [z.2]
        decide
      · exact absurd (z2.symm.trans q) (nI_m1 (by omega))
    repeat refine kX_one rfl ?_
    refine kX_if (fun q2 => ?_) (fun q2 => ?_)
    · have q2 : σ 240 p = nI 3 := qeq q2
      exact kX_lv _ rfl rfl rfl (k69 hneg (fun z => z.1 q2))
    · have q2 : σ 240 p ≠ nI 3 := qeqF q2
      iterate 4 (refine kX_one rfl ?_)
      refine kX_ialdV rfl rfl (by decide) (v) (by first | rfl | decide) (by omega) ((hA v hv).1) ?_
      repeat refine kX_one rfl ?_
      refine kX_if (fun q3 => ?_) (fun q3 => ?_)
      · have q3 : σ 233 v = σ 240 p := qeq q3
        exact kX_lv _ rfl rfl rfl (k69 hneg (fun z => z.2 q3))
      · have q3 : σ 233 v ≠ σ 240 p := qeqF q3
        rw [if_neg (fun z => z hneg), if_pos ⟨q2, q3⟩]
        repeat refine kX_one rfl ?_
        refine kX_ret (i := .ireturn) (len := 1) rfl (Or.inr rfl) rfl (⟨fun _ _ => rfl, Or.inl ⟨rfl, rfl⟩⟩)
  · have q : σ 185 pl ≠ -1 := qeqF q
    obtain ⟨z, z1, z2, z3⟩ : ∃ z, z < n ∧ σ 185 pl = nI z ∧ a pl = nI z := by
      rcases ht pl hpl with z | z
      · exact absurd z.1 q
      · exact z
    rw [if_pos (by rw [z3]; exact nI_pos (by omega)), z3]
    iterate 3 (refine kX_one rfl ?_)
    refine kX_ialdV rfl rfl (by decide) (pl) (by first | rfl | decide) (hpl) (z2) ?_
    repeat refine kX_one rfl ?_
    refine kX_if (fun q2 => ?_) (fun q2 => ?_)
    · have q2 : nI z ≠ nI v := qne q2
      rw [if_neg q2]
      repeat refine kX_one rfl ?_
      refine kX_ret (i := .ireturn) (len := 1) rfl (Or.inr rfl) rfl (⟨fun _ _ => rfl, Or.inl ⟨rfl, rfl⟩⟩)
    · have q2 : nI z = nI v := qneF q2
      rw [if_pos q2]
      repeat refine kX_one rfl ?_
      refine kX_ret (i := .ireturn) (len := 1) rfl (Or.inr rfl) rfl (⟨fun _ _ => rfl, Or.inr ⟨a, rfl, rfl, ht⟩⟩)
set_option maxRecDepth 100000 in
set_option maxHeartbeats 4000000 in
theorem mf_matches (L : Nat) (xs : Nat → Int32) (n b : Nat) : ∀ (f d dd : Nat) (σ : kS) (p v : Nat) (a : Nat → Int32), dd + f = 49 → kDp σ p + dd ≤ 48 → cT σ n → mTb σ n b → (∀ t, t < n → aT1 σ t) → p < n → v < n → tgd (σ 233) (σ 234) (σ 235) v = true → (∀ k, k < 6 → trR n (σ 185 k) (a k)) → kXM kT L xs (d + f + 2) 74 [.ref 181, .int (nI p), .int (nI v), .int (nI dd)] σ (mtQ σ n (mtF σ (p + 1) p v a)) := by
  intro f
  induction f with
  | zero =>
    intro d dd σ p v a hdd hdp
    omega
  | succ f IH =>
    intro d dd σ p v a hdd hdp hT hM hA hp hv hgv ht
    have hn := hT.1
    have hVr := mTb_num hM
    unfold kXM
    iterate 3 (refine kX_one rfl ?_)
    refine kX_cal (mc_has L xs (d + f + 1) σ n (nI p) hn hT.2.1) rfl (Or.inr rfl) rfl rfl rfl (fun r1 σ1 q1 => ?_)
    obtain ⟨rfl, rfl⟩ := q1
    repeat refine kX_one rfl ?_
    refine kX_ifF (decide_eq_false (isB_ne.mpr ⟨p, hp, rfl⟩)) ?_
    iterate 3 (refine kX_one rfl ?_)
    refine kX_cal (mc_has L xs (d + f + 1) σ n (nI v) hn hT.2.1) rfl (Or.inr rfl) rfl rfl rfl (fun r1 σ1 q1 => ?_)
    obtain ⟨rfl, rfl⟩ := q1
    repeat refine kX_one rfl ?_
    refine kX_ifF (decide_eq_false (isB_ne.mpr ⟨v, hv, rfl⟩)) ?_
    repeat refine kX_one rfl ?_
    refine kX_if (fun q3 => ?_) (fun q3 => ?_)
    rotate_left
    · have q3 := qleF q3 dd 48
      omega
    · iterate 4 (refine kX_one rfl ?_)
      refine kX_baldV rfl rfl (by decide) (p) (by first | rfl | decide) (by omega) ((hA p hp).2.2.2.2.1.trans (hM.2.2.2.2.2.2.1 p (Or.inl hp))) ?_
      repeat refine kX_one rfl ?_
      refine kX_if (fun q4 => ?_) (fun q4 => ?_)
      · have q4 : tgd (σ 233) (σ 234) (σ 235) p = false := (bI_eq _).mp (qeq q4)
        have q4' : ¬ tgd (σ 233) (σ 234) (σ 235) p = true := by rw [q4]; decide
        iterate 4 (refine kX_one rfl ?_)
        refine kX_ialdV rfl rfl (by decide) (p) (by first | rfl | decide) (by omega) ((hA p hp).1) ?_
        repeat refine kX_one rfl ?_
        refine kX_if (fun q5 => ?_) (fun q5 => ?_)
        · have q5 : σ 233 p ≠ nI 3 := qne q5
          iterate 4 (refine kX_one rfl ?_)
          refine kX_ialdV rfl rfl (by decide) (p) (by first | rfl | decide) (by omega) ((hA p hp).1) ?_
          iterate 4 (refine kX_one rfl ?_)
          refine kX_ialdV rfl rfl (by decide) (v) (by first | rfl | decide) (by omega) ((hA v hv).1) ?_
          repeat refine kX_one rfl ?_
          refine kX_if (fun q6 => ?_) (fun q6 => ?_)
          · have q6 : σ 233 p = σ 233 v := qeq q6
            rcases (hVr p hp).2 with ⟨k, h3, hk, -, -⟩ | ⟨k, x, y, h3, hk, hx, hy, h4, h5, h6, h7⟩ | ⟨k, x, h3, hk, hx, hy, h4, h6⟩
            · refine absurd ?_ q4'
              rw [tgd_0 hk h3]
              exact decide_eq_true (fun e => q5 (hk.trans (by rw [e])))
            · obtain ⟨x', y', hx', hy', h4', h5', h6', h7'⟩ : ∃ x' y', σ 234 v = nI x' ∧ σ 235 v = nI y' ∧ x' < v ∧ y' < v ∧ x' < n ∧ y' < n := by
                rcases (hVr v hv).2 with ⟨k', z3, zk, -, -⟩ | ⟨k', x', y', z3, zk, zx, zy, z4, z5, z6, z7⟩ | ⟨k', x', z3, zk, zx, zy, z4, z6⟩
                · have := nI_inj (hk.symm.trans (q6.trans zk))
                  omega
                · exact ⟨x', y', zx, zy, z4, z5, z6, z7⟩
                · have := nI_inj (hk.symm.trans (q6.trans zk))
                  omega
              have hkv : σ 233 v = nI k := q6.symm.trans hk
              have hgv2 := hgv
              rw [tgd_2 hVr hkv hx' hy' (by omega) (by omega) h4' h5' h6' h7', Bool.and_eq_true] at hgv2
              have hres : mtF σ (p + 1) p v a = (mtF σ (x + 1) x x' a).bind (fun a' => mtF σ (y + 1) y y' a') := by
                rw [mtF, if_neg q4', if_neg q5, if_neg (fun z => z q6), hx, hx', hy, hy', fN_nI (by omega), fN_nI (by omega), fN_nI (by omega), fN_nI (by omega), mtF_fuel hM p (x + 1) x x' a h6 h4 (by omega)]
                congr 1
                funext a'
                rw [if_neg (nI_m1 (by omega)), mtF_fuel hM p (y + 1) y y' a' h7 h5 (by omega)]
              have hdt : kDp σ p = 1 + max (kDp σ x) (kDp σ y) := by
                have e : ∀ z, z < n → kDp σ z = tdp (σ 233) (σ 234) (σ 235) z := fun z hz => aT_A hM hA (fun _ _ => rfl) hz
                rw [e p hp, e x h6, e y h7]
                exact tdp_2 hVr hk hx hy (by omega) (by omega) h4 h5 h6 h7
              rw [hres]
              iterate 5 (refine kX_one rfl ?_)
              refine kX_ialdV rfl rfl (by decide) (p) (by first | rfl | decide) (by omega) ((hA p hp).2.1.trans hx) ?_
              iterate 4 (refine kX_one rfl ?_)
              refine kX_ialdV rfl rfl (by decide) (v) (by first | rfl | decide) (by omega) ((hA v hv).2.1.trans hx') ?_
              iterate 3 (refine kX_one rfl ?_)
              refine kX_top (y := nI (dd + 1)) (nI_1 dd) ?_
              refine kX_cal (IH d (dd + 1) σ x x' a (by omega) (by omega) hT hM hA h6 h6' hgv2.1 ht) rfl (Or.inr rfl) rfl rfl rfl (fun r1 τ q1 => ?_)
              obtain ⟨hP, hq⟩ := q1
              rcases hq with ⟨hm, rfl⟩ | ⟨a', hm, rfl, hta⟩
              · rw [hm]
                repeat refine kX_one rfl ?_
                refine kX_ret (i := .ireturn) (len := 1) rfl (Or.inr rfl) rfl (⟨hP, Or.inl ⟨rfl, rfl⟩⟩)
              · rw [hm]
                have eT : ∀ z, z < n → τ 4 z = σ 235 z := fun z hz => by rw [hP 4 (by decide)]; exact (hA z hz).2.2.1
                iterate 5 (refine kX_one rfl ?_)
                refine kX_ialdV rfl rfl (by decide) (p) (by first | rfl | decide) (by omega) ((eT p hp).trans hy) ?_
                repeat refine kX_one rfl ?_
                refine kX_ifF (decide_eq_false (nI_m1 (by omega))) ?_
                iterate 5 (refine kX_one rfl ?_)
                refine kX_ialdV rfl rfl (by decide) (p) (by first | rfl | decide) (by omega) ((eT p hp).trans hy) ?_
                iterate 4 (refine kX_one rfl ?_)
                refine kX_ialdV rfl rfl (by decide) (v) (by first | rfl | decide) (by omega) ((eT v hv).trans hy') ?_
                iterate 3 (refine kX_one rfl ?_)
                refine kX_top (y := nI (dd + 1)) (nI_1 dd) ?_
                have hP' : ∀ c, c ≠ 185 → τ c = σ c := hP
                have hTt : cT τ n := cT_eq (by rw [hP 1 (by decide)]) (hP _ (by decide)) (fun u _ => ⟨by rw [hP 2 (by decide)], by rw [hP 3 (by decide)], by rw [hP 4 (by decide)], by rw [hP 8 (by decide)], by rw [hP 12 (by decide)], by rw [hP 6 (by decide)]⟩) hT
                have hAt : ∀ t, t < n → aT1 τ t := fun t htn => by
                  have := hA t htn
                  unfold aT1 at this ⊢
                  simp only [hP 2 (by decide), hP 3 (by decide), hP 4 (by decide), hP 5 (by decide), hP 8 (by decide), hP 9 (by decide), hP 10 (by decide), hP 11 (by decide), hP 12 (by decide), hP 233 (by decide), hP 234 (by decide), hP 235 (by decide), hP 236 (by decide), hP 237 (by decide), hP 238 (by decide), hP 239 (by decide), hP 240 (by decide), hP 241 (by decide)]
                  exact this
                have hMt : mTb τ n b := by
                  unfold mTb mAG mpt at hM ⊢
                  simp only [hP 232 (by decide), hP 233 (by decide), hP 234 (by decide), hP 235 (by decide), hP 236 (by decide), hP 237 (by decide), hP 240 (by decide), hP 242 (by decide), hP 243 (by decide)]
                  exact hM
                have hdy : kDp τ y = kDp σ y := by
                  unfold kDp
                  rw [hP 2 (by decide), hP 3 (by decide), hP 4 (by decide)]
                refine kX_cal (IH d (dd + 1) τ y y' a' (by omega) (by omega) hTt hMt hAt h7 h7' (by rw [hP 233 (by decide), hP 234 (by decide), hP 235 (by decide)]; exact hgv2.2) hta) rfl (Or.inr rfl) rfl rfl rfl (fun r1 ω q1 => ?_)
                obtain ⟨hP2, hq⟩ := q1
                rw [mtF_c (fun c hc => hP c (by have := of_decide_eq_true (List.all_eq_true.mp (show ([233, 234, 235, 241, 240] : List Nat).all (fun c => decide (232 ≤ c)) = true by decide) c hc); omega))] at hq
                have hP3 : ∀ c, c ≠ 185 → ω c = σ c := fun c hc => (hP2 c hc).trans (hP c hc)
                rcases hq with ⟨hm2, rfl⟩ | ⟨a2, hm2, rfl, hta2⟩
                · repeat refine kX_one rfl ?_
                  refine kX_ret (i := .ireturn) (len := 1) rfl (Or.inr rfl) rfl (⟨hP3, Or.inl ⟨hm2, rfl⟩⟩)
                · repeat refine kX_one rfl ?_
                  refine kX_ret (i := .ireturn) (len := 1) rfl (Or.inr rfl) rfl (⟨hP3, Or.inr ⟨a2, hm2, rfl, hta2⟩⟩)
            · obtain ⟨x', hx', h4', h6'⟩ : ∃ x', σ 234 v = nI x' ∧ x' < v ∧ x' < n := by
                rcases (hVr v hv).2 with ⟨k', z3, zk, -, -⟩ | ⟨k', x', y', z3, zk, zx, zy, z4, z5, z6, z7⟩ | ⟨k', x', z3, zk, zx, zy, z4, z6⟩
                · have := nI_inj (hk.symm.trans (q6.trans zk))
                  omega
                · have := nI_inj (hk.symm.trans (q6.trans zk))
                  omega
                · exact ⟨x', zx, z4, z6⟩
              have hkv : σ 233 v = nI k := q6.symm.trans hk
              have hyv : σ 235 v = -1 := by
                rcases (hVr v hv).2 with ⟨k', z3, zk, -, -⟩ | ⟨k', x', y', z3, zk, zx, zy, z4, z5, z6, z7⟩ | ⟨k', x', z3, zk, zx, zy, z4, z6⟩
                · have := nI_inj (hk.symm.trans (q6.trans zk))
                  omega
                · have := nI_inj (hk.symm.trans (q6.trans zk))
                  omega
                · exact zy
              have hgv2 := hgv
              rw [tgd_1 hVr hkv hx' hyv (by omega) (by omega) h4' h6'] at hgv2
              have hres : mtF σ (p + 1) p v a = (mtF σ (x + 1) x x' a).bind (fun a' => some a') := by
                rw [mtF, if_neg q4', if_neg q5, if_neg (fun z => z q6), hx, hx', hy, fN_nI (by omega), fN_nI (by omega), mtF_fuel hM p (x + 1) x x' a h6 h4 (by omega)]
                congr 1
              have hdt : kDp σ p = 1 + max (kDp σ x) 0 := by
                have e : ∀ z, z < n → kDp σ z = tdp (σ 233) (σ 234) (σ 235) z := fun z hz => aT_A hM hA (fun _ _ => rfl) hz
                rw [e p hp, e x h6]
                exact tdp_1 hVr hk hx hy (by omega) (by omega) h4 h6
              rw [hres]
              iterate 5 (refine kX_one rfl ?_)
              refine kX_ialdV rfl rfl (by decide) (p) (by first | rfl | decide) (by omega) ((hA p hp).2.1.trans hx) ?_
              iterate 4 (refine kX_one rfl ?_)
              refine kX_ialdV rfl rfl (by decide) (v) (by first | rfl | decide) (by omega) ((hA v hv).2.1.trans hx') ?_
              iterate 3 (refine kX_one rfl ?_)
              refine kX_top (y := nI (dd + 1)) (nI_1 dd) ?_
              refine kX_cal (IH d (dd + 1) σ x x' a (by omega) (by omega) hT hM hA h6 h6' hgv2 ht) rfl (Or.inr rfl) rfl rfl rfl (fun r1 τ q1 => ?_)
              obtain ⟨hP, hq⟩ := q1
              rcases hq with ⟨hm, rfl⟩ | ⟨a', hm, rfl, hta⟩
              · rw [hm]
                repeat refine kX_one rfl ?_
                refine kX_ret (i := .ireturn) (len := 1) rfl (Or.inr rfl) rfl (⟨hP, Or.inl ⟨rfl, rfl⟩⟩)
              · rw [hm]
                have eT : τ 4 p = -1 := by rw [hP 4 (by decide)]; exact (hA p hp).2.2.1.trans hy
                iterate 5 (refine kX_one rfl ?_)
                refine kX_ialdV rfl rfl (by decide) (p) (by first | rfl | decide) (by omega) (eT) ?_
                repeat refine kX_one rfl ?_
                refine kX_ret (i := .ireturn) (len := 1) rfl (Or.inr rfl) rfl (⟨hP, Or.inr ⟨a', rfl, rfl, hta⟩⟩)
          · have q6 : σ 233 p ≠ σ 233 v := qeqF q6
            rw [mtF, if_neg q4', if_neg q5, if_pos q6]
            repeat refine kX_one rfl ?_
            refine kX_ret (i := .ireturn) (len := 1) rfl (Or.inr rfl) rfl (⟨fun _ _ => rfl, Or.inl ⟨rfl, rfl⟩⟩)
        · have q5 : σ 233 p = nI 3 := qneF q5
          iterate 3 (refine kX_one rfl ?_)
          refine kX_cal (mf_mayStand L xs (d + f + 1) σ n b p v a hT hM hA hp hv q5 ht) rfl (Or.inr rfl) rfl rfl rfl (fun r1 τ q1 => ?_)
          obtain ⟨hP, hq⟩ := q1
          rcases hq with ⟨hm, rfl⟩ | ⟨a', hm, rfl, hta⟩
          · refine kX_ret (i := .ireturn) (len := 1) rfl (Or.inr rfl) rfl (⟨hP, Or.inl ⟨hm, rfl⟩⟩)
          · refine kX_ret (i := .ireturn) (len := 1) rfl (Or.inr rfl) rfl (⟨hP, Or.inr ⟨a', hm, rfl, hta⟩⟩)
      · have q4 : tgd (σ 233) (σ 234) (σ 235) p = true := (bI_ne _).mp (qeqF q4)
        rw [mtF, if_pos q4]
        repeat refine kX_one rfl ?_
        refine kX_if (fun q5 => ?_) (fun q5 => ?_)
        · have q5 : p ≠ v := fun e => qne q5 (by rw [e])
          rw [if_neg q5]
          repeat refine kX_one rfl ?_
          refine kX_ret (i := .ireturn) (len := 1) rfl (Or.inr rfl) rfl (⟨fun _ _ => rfl, Or.inl ⟨rfl, rfl⟩⟩)
        · have q5 : p = v := nI_inj (qneF q5)
          rw [if_pos q5]
          repeat refine kX_one rfl ?_
          refine kX_ret (i := .ireturn) (len := 1) rfl (Or.inr rfl) rfl (⟨fun _ _ => rfl, Or.inr ⟨a, rfl, rfl, ht⟩⟩)
end
