/-! alike: send -/
/-- the reference's step that binds nothing -/
def sdS (σ : kS) (s k dn : Nat) : kS := va_up (stS σ (σ 265) s k dn (nI 0)) 232 (upd (stS σ (σ 265) s k dn (nI 0) 232) 47 0)
theorem sdS_vw (σ : kS) (s k dn : Nat) : vw σ (sdS σ s k dn) := by
  refine ⟨fun c c1 c2 c3 c4 c5 => ?_, fun j j1 j2 j3 => ?_⟩
  · unfold sdS stS
    rw [up_ne c1, up_ne c2, up_ne c1, up_ne c5, up_ne c4, up_ne c3]
  · show upd (upd (σ 232) 55 (nI (k + 1))) 47 0 j = _
    rw [pk_un j3, pk_un j2]
theorem sdS_hi {σ τ : kS} {s k dn : Nat} (e : ∀ c, 232 ≤ c → τ c = σ c) : ∀ c, 232 ≤ c → sdS τ s k dn c = sdS σ s k dn c := by
  intro c hc
  by_cases c1 : c = 232
  · subst c1
    show upd (upd (τ 232) 55 (nI (k + 1))) 47 0 = upd (upd (σ 232) 55 (nI (k + 1))) 47 0
    rw [e 232 (by decide)]
  by_cases c2 : c = 264
  · subst c2
    show upd (τ 264) s (nI (dn + 1)) = upd (σ 264) s (nI (dn + 1))
    rw [e 264 (by decide)]
  by_cases c3 : c = 265
  · subst c3
    exact e 265 (by decide)
  by_cases c4 : c = 274
  · subst c4
    show upd (τ 274) k (nI s) = upd (σ 274) k (nI s)
    rw [e 274 (by decide)]
  by_cases c5 : c = 275
  · subst c5
    show upd (τ 275) k (nI 0) = upd (σ 275) k (nI 0)
    rw [e 275 (by decide)]
  rw [(sdS_vw τ s k dn).1 c c1 c2 c3 c4 c5, (sdS_vw σ s k dn).1 c c1 c2 c3 c4 c5]
  exact e c hc
set_option maxRecDepth 100000 in
set_option maxHeartbeats 4000000 in
theorem mg_send (L : Nat) (xs : Nat → Int32) (d : Nat) (σ : kS) (n b R S C : Nat) (kl : List Nat) (x : Int32) (Q : Option Value → kS → Prop) (h : mI σ n b R S C kl) (hN : ¬ isN x S → Q (some (.int (-1))) σ) (hS : isN x S → σ 232 52 = 0 → Q (some (.int (-3))) σ)
    (hO : ∀ s ds r, s < S → x = nI s → σ 232 52 = 1 → mRn σ n R S ds → r < R → σ 255 s = nI r → ¬ (ds.count s < fN (σ 247 r) ∧ σ 249 (6 * r + ds.count s) ≠ 0) → Q (some (.int (-5))) σ)
    (hM : ∀ s ds r b' σ', s < S → x = nI s → σ 232 52 = 1 → mRn σ n R S ds → r < R → σ 255 s = nI r → ds.count s < fN (σ 247 r) → σ 249 (6 * r + ds.count s) ≠ 0 → ds.length < 24 → mRn (sdS σ s ds.length (ds.count s)) n R S (ds ++ [s]) → mI (sdS σ s ds.length (ds.count s)) n b R S C kl → mFr (sdS σ s ds.length (ds.count s)) σ' n → mI σ' n b' R S C kl → Q (some (.int (nI (trRun (sdS σ s ds.length (ds.count s)) kl (ds ++ [s])).length))) σ') : kXM kT L xs (d + 8) 195 [.ref 232, .int x] σ Q := by
  have h0 := h
  obtain ⟨h1, h2, h3, h4, h5, h6, h7⟩ := h
  have hS4 := h3.1
  have hR4 := h2.1
  unfold kXM
  repeat refine kX_one rfl ?_
  refine kX_cal (mr_isSession L xs (d + 6) σ S x h3.2.1 (by omega)) rfl (Or.inr rfl) rfl rfl rfl (fun r1 σ1 q1 => ?_)
  obtain ⟨rfl, rfl⟩ := q1
  repeat refine kX_one rfl ?_
  refine kX_if (fun q => ?_) (fun q => ?_)
  · obtain ⟨s, hs, rfl⟩ := isB_ne.mp (qne q)
    rcases h6 with h6 | ⟨h6, ds, g1, g2, g3⟩
    · iterate 2 (refine kX_one rfl ?_)
      refine kX_top (h6) ?_
      repeat refine kX_one rfl ?_
      refine kX_ret (i := .ireturn) (len := 1) rfl (Or.inr rfl) rfl (hS ⟨s, hs, rfl⟩ h6)
    · obtain ⟨r, r1, r2, r3, r4, r5, r6⟩ := g1.2.2.2 s hs
      obtain ⟨b1, b2, b3⟩ := mSn_iff h1 h2 (g1.2.2.2 s hs) r2 r1
      obtain ⟨-, ev, he6, hev⟩ := h2.2.2.1 r r1
      have hfe : fN (σ 247 r) = ev := by rw [hev]; exact fN_nI (by omega)
      iterate 2 (refine kX_one rfl ?_)
      refine kX_top (h6) ?_
      repeat refine kX_one rfl ?_
      refine kX_cal (mr_nextEvent L xs (d + 6) σ n R s r (ds.count s) h2 (by omega) r1 r2 r3 (by omega)) rfl (Or.inr rfl) rfl rfl rfl (fun r1 σ1 q1 => ?_)
      obtain ⟨rfl, rfl⟩ := q1
      by_cases hlt : ds.count s < fN (σ 247 r)
      · rw [if_pos hlt]
        repeat refine kX_one rfl ?_
        refine kX_ifF (decide_eq_false (nI_pos (by omega))) ?_
        repeat refine kX_one rfl ?_
        refine kX_baldN rfl rfl (by decide) (6 * r + ds.count s) (by first | rfl | decide) (by omega) ?_
        repeat refine kX_one rfl ?_
        refine kX_if (fun q2 => ?_) (fun q2 => ?_)
        · have q2 : σ 249 (6 * r + ds.count s) ≠ 0 := qne q2
          have hlen := mRn_len h2 hS4 g1
          have hp := mRn_push (V := σ 265) (m := 0) (bd := nI 0) h1 h2 hS4 g1 g2 hs r1 r2 hlt (fun _ _ => rfl) (fun k hk => by
            have e : bdv σ r (ds.count s + 1) k ↔ bdv σ r (ds.count s) k := ⟨fun hb => ⟨hb.1, hb.2.elim Or.inl (fun ⟨e, e1, e2, e3⟩ => Or.inr ⟨e, by
              have : e ≠ ds.count s := fun ee => q2 (by rw [← ee]; exact e2)
              omega, e2, e3⟩)⟩, bdv_mono (by omega)⟩
            rw [e]
            exact b3 k hk) (by decide) rfl (fun p hp => by
            rw [Nat.zero_div]
            refine ⟨fun z => absurd z (by decide), fun z => absurd ?_ z.2⟩
            exact ⟨z.1.1, z.1.2.elim Or.inl (fun ⟨e, e1, e2, e3⟩ => Or.inr ⟨e, by
              have : e ≠ ds.count s := fun ee => q2 (by rw [← ee]; exact e2)
              omega, e2, e3⟩)⟩)
          have hlen' : ds.length < 24 := by
            have := mRn_len (σ := stS σ (σ 265) s ds.length (ds.count s) (nI 0)) h2 hS4 hp.1
            rw [List.length_append] at this
            simp at this
            omega
          repeat refine kX_one rfl ?_
          refine kX_cal (mr_does L xs (d + 6) σ s ds.length (ds.count s) (nI 0) (by omega) g1.1 hlen' r3) rfl (Or.inr rfl) rfl rfl rfl (fun r1' σ1 q1 => ?_)
          obtain ⟨rfl, rfl⟩ := q1
          have e0 : va_up (va_up (va_up (va_up σ 274 (upd (σ 274) ds.length (nI s))) 275 (upd (σ 275) ds.length (nI 0))) 232 (upd (σ 232) 55 (nI (ds.length + 1)))) 264 (upd (σ 264) s (nI (ds.count s + 1))) = stS σ (σ 265) s ds.length (ds.count s) (nI 0) := by
            unfold stS
            rw [kup_self]
          rw [e0]
          iterate 4 (refine kX_one rfl ?_)
          refine kX_st (sdS σ s ds.length (ds.count s)) rfl ?_
          have hI : mI (sdS σ s ds.length (ds.count s)) n b R S C kl := ⟨h1, h2, h3, h4, h5, Or.inr ⟨h6, ds ++ [s], hp.1, hp.2, Or.inl rfl⟩, h7⟩
          refine kX_cal (mr_row L xs d _ n b R S C kl (ds ++ [s]) hI h6 hp.1 hp.2 (Or.inl rfl)) rfl (Or.inr rfl) rfl rfl rfl (fun r1' σ1 q1 => ?_)
          obtain ⟨rfl, f1, f2, b', l, f3, f4, f5, f6, f7⟩ := q1
          have fin := (mI_there hI h6 hp.1 hp.2 f1 f2 f3 f4 f5 f6 f7).1
          have key := hM s ds r b' σ1 hs rfl h6 g1 r1 r2 hlt q2 hlen' hp.1 hI f1 fin
          rw [← f7, rwM_len, ← f5.1] at key
          repeat refine kX_one rfl ?_
          refine kX_ret (i := .ireturn) (len := 1) rfl (Or.inr rfl) rfl (key)
        · have q2 : ¬ σ 249 (6 * r + ds.count s) ≠ 0 := fun z => z (qneF q2)
          repeat refine kX_one rfl ?_
          refine kX_ret (i := .ireturn) (len := 1) rfl (Or.inr rfl) rfl (hO s ds r hs rfl h6 g1 r1 r2 (fun z => q2 z.2))
      · rw [if_neg hlt]
        repeat refine kX_one rfl ?_
        refine kX_ret (i := .ireturn) (len := 1) rfl (Or.inr rfl) rfl (hO s ds r hs rfl h6 g1 r1 r2 (fun z => hlt z.1))
  · have q : ¬ isN x S := fun z => isB_ne.mpr z (qneF q)
    repeat refine kX_one rfl ?_
    refine kX_ret (i := .ireturn) (len := 1) rfl (Or.inr rfl) rfl (hN q)
set_option maxRecDepth 100000 in
set_option maxHeartbeats 4000000 in
theorem bo_send (L : Nat) (xs : Nat → Int32) (d d' m : Nat) (σ : kS) (x : Int32) (hm : m < 2147483646) (h : bJ m σ) : kXM kT L xs (d + 56) 124 [.ref 0, .int x] σ (fun r τ => ∃ z, r = some (.int z) ∧ kXM kT L xs (d' + 8) 195 [.ref 232, .int x] τ (fun r' ω => r' = some (.int z) ∧ bJ (m + 1) ω)) := by
  have hb := bJ_up (Nat.le_succ m) h
  obtain ⟨n, b, R, S, C, kl, h⟩ := h
  have hcS := h.2.1.2.2.1
  have hS4 := hcS.1
  have hU := h.2.2.2.2.2.2.2.1
  have hRo := h.1.2.1
  have hR4 := hRo.1
  unfold kXM
  iterate 3 (refine kX_one rfl ?_)
  refine kX_cal (mc_hasSession L xs (d + 54) σ S x hS4 hcS.2.1) rfl (Or.inr rfl) rfl rfl rfl (fun r1 σ1 q1 => ?_)
  obtain ⟨rfl, rfl⟩ := q1
  repeat refine kX_one rfl ?_
  refine kX_if (fun q => ?_) (fun q => ?_)
  · obtain ⟨s, hs, rfl⟩ := isB_ne.mp (qne q)
    repeat refine kX_one rfl ?_
    refine kX_if (fun q2 => ?_) (fun q2 => ?_)
    · have hon : σ 181 8 ≠ 0 := qne q2
      have hr0 : σ 232 52 ≠ 0 := hU.1.mp hon
      obtain ⟨hr1, ds, hD, hBi, -⟩ := mI_ds h.1 hr0
      obtain ⟨uc, um, uv, uo, -⟩ := hU.2 hr0
      obtain ⟨r, r1, r2, r3, r4, -⟩ := hD.2.2.2 s hs
      obtain ⟨-, ev, ev1, ev2⟩ := hRo.2.2.1 r r1
      have hfe : fN (σ 247 r) = ev := by rw [ev2]; exact fN_nI (by omega)
      have hR1 := h.2.2.2.1 r r1
      have hr4 : r < 4 := by omega
      have hat : σ 182 (0 + 7 * s) = nI (ds.count s) := by rw [Nat.zero_add]; exact (uv s hs).1.trans r3
      have hno : ¬ (ds.count s < fN (σ 247 r) ∧ σ 249 (6 * r + ds.count s) ≠ 0) → kXM kT L xs (d' + 8) 195 [.ref 232, .int (nI s)] σ (fun r' ω => r' = some (.int (-5)) ∧ bJ (m + 1) ω) := fun hz => by
        refine mg_send L xs d' σ n b R S C kl _ _ h.1 (fun z => absurd ⟨s, hs, rfl⟩ z) (fun _ z => absurd z hr0) (fun _ _ _ _ _ _ _ _ _ _ => ⟨rfl, hb⟩) (fun s' ds' r' _ _ hs' es _ hD' _ er hlt hsd _ _ _ _ _ => ?_)
        obtain rfl : s = s' := nI_inj es
        obtain rfl : ds = ds' := mRn_u hRo hS4 hD hD'
        obtain rfl : r = r' := nI_inj (r2.symm.trans er)
        exact absurd ⟨hlt, hsd⟩ hz
      iterate 7 (refine kX_one rfl ?_)
      refine kX_cal (mf_due L xs (d + 53) σ n R S 182 28 0 s r ev (fun _ => 0) h.2.1.2.1 hS4 r1 ((h.2.2.2.2.1 s hs).1.trans r2) (hR1.2.1.trans ev2) hs ev1 rfl (by decide) (by decide)) rfl (Or.inr rfl) rfl rfl rfl (fun r1' σ1 q1 => ?_)
      obtain ⟨hq, rfl⟩ := q1
      rcases hq with ⟨rfl, hn0⟩ | ⟨k, k1, k2, rfl, -⟩
      · repeat refine kX_one rfl ?_
        refine kX_ret (i := .ireturn) (len := 1) rfl (Or.inr rfl) rfl (⟨_, rfl, hno (fun z => hn0 (ds.count s) (by rw [← hfe]; exact z.1) hat)⟩)
      · have hlenD := mRn_len hRo hS4 hD
        obtain rfl : k = ds.count s := nI_inj (k2.symm.trans hat)
        have hk6 : ds.count s < 6 := by omega
        have hE := hR1.2.2.2.2 (ds.count s) (by rw [hfe]; exact k1)
        iterate 4 (refine kX_one rfl ?_)
        refine kX_getN rfl rfl (kT_ev hr4 hk6) rfl ?_
        repeat refine kX_one rfl ?_
        refine kX_if (fun q3 => ?_) (fun q3 => ?_)
        · have hsd : σ 249 (6 * r + ds.count s) ≠ 0 := hE.2.1.mp (qne q3)
          have hlt : ds.count s < fN (σ 247 r) := by rw [hfe]; exact k1
          obtain ⟨b1, b2, b3⟩ := mSn_iff h.1.1 hRo (hD.2.2.2 s hs) r2 r1
          have hp := mRn_push (V := σ 265) (m := 0) (bd := nI 0) h.1.1 hRo hS4 hD hBi hs r1 r2 hlt (fun _ _ => rfl) (fun k hk => by
            have e : bdv σ r (ds.count s + 1) k ↔ bdv σ r (ds.count s) k := ⟨fun hb => ⟨hb.1, hb.2.elim Or.inl (fun ⟨e, e1, e2, e3⟩ => Or.inr ⟨e, by
              have : e ≠ ds.count s := fun ee => hsd (by rw [← ee]; exact e2)
              omega, e2, e3⟩)⟩, bdv_mono (by omega)⟩
            rw [e]
            exact b3 k hk) (by decide) rfl (fun p hp => by
            rw [Nat.zero_div]
            refine ⟨fun z => absurd z (by decide), fun z => absurd ?_ z.2⟩
            exact ⟨z.1.1, z.1.2.elim Or.inl (fun ⟨e, e1, e2, e3⟩ => Or.inr ⟨e, by
              have : e ≠ ds.count s := fun ee => hsd (by rw [← ee]; exact e2)
              omega, e2, e3⟩)⟩)
          have hlen' : ds.length < 24 := by
            have := mRn_len (σ := stS σ (σ 265) s ds.length (ds.count s) (nI 0)) hRo hS4 hp.1
            rw [List.length_append] at this
            simp at this
            omega
          have hIs : mI (sdS σ s ds.length (ds.count s)) n b R S C kl := ⟨h.1.1, hRo, h.1.2.2.1, h.1.2.2.2.1, h.1.2.2.2.2.1, Or.inr ⟨hr1, ds ++ [s], hp.1, hp.2, Or.inl rfl⟩, h.1.2.2.2.2.2.2⟩
          iterate 3 (refine kX_one rfl ?_)
          refine kX_cal (mf_step L xs (d + 54) σ n R S C s ds.length h.2.1 hon hs hlen' (uc.trans hD.1)) rfl (Or.inr rfl) rfl rfl rfl (fun r1' σ1 q1 => ?_)
          obtain ⟨rfl, e1, hJ1⟩ := q1
          have ehi : ∀ c, 232 ≤ c → σ1 c = σ c := fun c hc => by
            rw [e1]
            unfold spS
            rw [up_ne (by omega), up_ne (by omega), up_ne (by omega)]
          have elo : ∀ c, c ≠ 181 → c ≠ 182 → c ≠ 183 → σ1 c = σ c := fun c c1 c2 c3 => by
            rw [e1]
            unfold spS
            rw [up_ne c1, up_ne c2, up_ne c3]
          have e181 : σ1 181 = upd (upd (σ 181) 7 (nI (ds.length + 1))) 9 (-1) := by rw [e1]; exact up_eq
          have eat : σ1 182 = upd (σ 182) (7 * s) (nI (ds.count s + 1)) := by
            rw [e1]
            show upd (σ 182) (7 * s) (σ 182 (7 * s) + Int32.ofInt 1) = _
            rw [(uv s hs).1, r3, ← nI_1]
            rfl
          have emv : σ1 183 = upd (σ 183) ds.length (nI s) := by rw [e1]; rfl
          have hvw := sdS_vw σ1 s ds.length (ds.count s)
          have hhi := sdS_hi (s := s) (k := ds.length) (dn := ds.count s) ehi
          have hUu : aU (sdS σ1 s ds.length (ds.count s)) n S kl := by
            have ul : ∀ c, c < 232 → sdS σ1 s ds.length (ds.count s) c = σ1 c := fun c hc => vw_low hvw hc
            have u232 : sdS σ1 s ds.length (ds.count s) 232 = upd (upd (σ 232) 55 (nI (ds.length + 1))) 47 0 := hhi 232 (by decide)
            have ud : sdS σ1 s ds.length (ds.count s) 264 = upd (σ 264) s (nI (ds.count s + 1)) := hhi _ (by decide)
            have uva : sdS σ1 s ds.length (ds.count s) 265 = σ 265 := hhi _ (by decide)
            have uds : sdS σ1 s ds.length (ds.count s) 274 = upd (σ 274) ds.length (nI s) := hhi _ (by decide)
            unfold aU
            rw [ul 181 (by decide), ul 17 (by decide), elo 17 (by decide) (by decide) (by decide), ul 183 (by decide), ul 182 (by decide), u232, ud, uva, uds, e181, eat, emv]
            refine ⟨hU.1, fun _ => ⟨rfl, fun i hi => ?_, fun s' hs' => ⟨?_, fun k hk => ?_⟩, fun s' hs' k hk ho => ?_, fun z => absurd z.symm (nI_m1 (by have := h.1.1.1; omega))⟩⟩
            · by_cases e : i = ds.length
              · subst e
                rw [pk_us, pk_us]
              · rw [pk_un e, pk_un e]
                refine um i ?_
                have : fN (nI (ds.length + 1)) = ds.length + 1 := fN_nI (by omega)
                have hi' : i < fN (nI (ds.length + 1)) := hi
                rw [this] at hi'
                rw [hD.1, fN_nI (by omega)]
                omega
            · by_cases e : s' = s
              · subst e
                rw [pk_us, pk_us]
              · rw [pk_un (by omega), pk_un e]
                exact (uv s' hs').1
            · rw [pk_un (by omega)]
              exact (uv s' hs').2 k hk
            · rw [pk_un (by omega)]
              exact uo s' hs' k hk ho
          have hJu : aJ (sdS σ1 s ds.length (ds.count s)) n b R S C kl m := by
            refine aJ_run h (mI_hi hhi hIs) (cJ_low (fun c hc => vw_low hvw hc) hJ1) (fun c c1 c2 c3 c4 => (vw_low hvw c1).trans (elo c c2 c3 c4)) (fun c c1 c2 c3 c4 c5 => (hvw.1 c (by omega) c2 c3 c4 c5).trans (ehi c (by omega))) (fun j j1 j2 j3 => (hvw.2 j j1 j2 j3).trans (by rw [ehi 232 (by decide)])) hUu
          have hru : sdS σ1 s ds.length (ds.count s) 232 52 ≠ 0 := by rw [hhi 232 (by decide)]; exact hr0
          have hDu : mRn (sdS σ1 s ds.length (ds.count s)) n R S (ds ++ [s]) := mRn_hi hhi hp.1
          iterate 2 (refine kX_one rfl ?_)
          refine kX_cal (mf_intruder L xs d σ1 (sdS σ1 s ds.length (ds.count s)) n b R S C m kl (ds ++ [s]) hvw hJu hm hru hDu) rfl (Or.inr rfl) rfl rfl rfl (fun r1' τ q1 => ?_)
          obtain ⟨rfl, u, m', l, hm', hQ⟩ := q1
          have eτ : ∀ c, 232 ≤ c → τ c = σ c := fun c hc => (inQ_cell hQ (by omega) (by omega) (by omega) (by omega)).trans (ehi c hc)
          have hτ2 : ∀ c, 232 ≤ c → sdS τ s ds.length (ds.count s) c = sdS σ1 s ds.length (ds.count s) c := sdS_hi (fun c hc => (eτ c hc).trans (ehi c hc).symm)
          have hQ2 := inQ_vw hQ hvw (sdS_vw τ s ds.length (ds.count s)) hτ2
          have hJ2 := inQ_J hJu hru hDu hQ2 hm'
          have hll : τ 186 7 = nI (trRun (sdS σ1 s ds.length (ds.count s)) kl (ds ++ [s])).length := by
            rw [hQ.2.2.2.1.2.2.2.2.2.2.2.1.1, ← kTr_len (σ := τ) (l := l), hQ.2.2.2.2.2.2.2]
          iterate 1 (refine kX_one rfl ?_)
          refine kX_ret (i := .ireturn) (len := 1) rfl (Or.inr rfl) rfl (⟨_, rfl, ?_⟩)
          rw [hll]
          refine mg_send L xs d' τ n b R S C kl _ _ (mI_hi eτ h.1) (fun z => absurd ⟨s, hs, rfl⟩ z) (fun _ z => absurd ((congrFun (eτ 232 (by decide)) _).symm.trans z) hr0) (fun s' ds' r' hs' es _ hD' _ er hz => ?_) (fun s' ds' r' b' ω hs' es _ hD' _ er _ _ _ _ _ hF hI => ?_)
          · obtain rfl : s = s' := nI_inj es
            obtain rfl : ds = ds' := mRn_u (mI_hi eτ h.1).2.1 hS4 (mRn_hi eτ hD) hD'
            rw [eτ 255 (by decide)] at er
            obtain rfl : r = r' := nI_inj (r2.symm.trans er)
            rw [eτ 247 (by decide), eτ 249 (by decide)] at hz
            exact absurd ⟨hlt, hsd⟩ hz
          · obtain rfl : s = s' := nI_inj es
            obtain rfl : ds = ds' := mRn_u (mI_hi eτ h.1).2.1 hS4 (mRn_hi eτ hD) hD'
            refine ⟨by rw [trRun_hi hτ2], bJ_fr hJ2 (mLow_fr hF) hF hI⟩
        · have hsd : ¬ σ 249 (6 * r + ds.count s) ≠ 0 := fun z => hE.2.1.mpr z (qneF q3)
          repeat refine kX_one rfl ?_
          refine kX_ret (i := .ireturn) (len := 1) rfl (Or.inr rfl) rfl (⟨_, rfl, hno (fun z => hsd z.2)⟩)
    · have q2 : σ 181 8 = 0 := qneF q2
      have hr0 : σ 232 52 = 0 := Classical.byContradiction fun z => hU.1.mpr z q2
      repeat refine kX_one rfl ?_
      refine kX_ret (i := .ireturn) (len := 1) rfl (Or.inr rfl) rfl (⟨_, rfl, ?_⟩)
      exact mg_send L xs d' σ n b R S C kl _ _ h.1 (fun z => absurd ⟨s, hs, rfl⟩ z) (fun _ _ => ⟨rfl, hb⟩) (fun _ _ _ _ _ z _ _ _ _ => absurd (z.symm.trans hr0) (by decide)) (fun _ _ _ _ _ _ _ z _ _ _ _ _ _ _ _ _ _ => absurd (z.symm.trans hr0) (by decide))
  · have q : ¬ isN x S := fun z => isB_ne.mpr z (qneF q)
    repeat refine kX_one rfl ?_
    refine kX_ret (i := .ireturn) (len := 1) rfl (Or.inr rfl) rfl (⟨_, rfl, ?_⟩)
    exact mg_send L xs d' σ n b R S C kl _ _ h.1 (fun _ => ⟨rfl, hb⟩) (fun z => absurd z q) (fun s _ _ hs es _ _ _ _ _ => absurd ⟨s, hs, es⟩ q) (fun s _ _ _ _ hs es _ _ _ _ _ _ _ _ _ _ _ => absurd ⟨s, hs, es⟩ q)
