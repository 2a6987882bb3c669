/-! the reference: play -/
set_option maxRecDepth 100000 in
set_option maxHeartbeats 4000000 in
theorem mr_pl_in (L : Nat) (xs : Nat → Int32) (d : Nat) (σ : kS) (s k st : Nat) (hs : s < 4) (hk : k < 24) (hst : st < 600) (hat : σ 289 k = nI st) (x y : Int32) (Q : Option Value → kS → Prop)
    (he : ∀ m V, m < 64 → (∀ p, p < 6 → (m / 2 ^ p % 2 = 1 ↔ σ 285 (24 * st + 6 * s + p) ≠ σ 265 (6 * s + p))) → (∀ p, p < 6 → V (6 * s + p) = σ 285 (24 * st + 6 * s + p)) → (∀ j, (∀ p, p < 6 → j ≠ 6 * s + p) → V j = σ 265 j) → kX kT L xs (d + 1) 223 142 [(4, .int (nI s)), (5, .int (nI m)), (0, .ref 232), (1, .int x), (2, .int y), (3, .int (nI k))] [] (va_up σ 265 V) Q) :
    ∀ q : Nat × Nat × (Nat → Int32), (q.1 ≤ 6 ∧ q.2.1 < 64 ∧ (∀ p, p < 6 → (q.2.1 / 2 ^ p % 2 = 1 ↔ p < q.1 ∧ σ 285 (24 * st + 6 * s + p) ≠ σ 265 (6 * s + p))) ∧ (∀ p, p < q.1 → q.2.2 (6 * s + p) = σ 285 (24 * st + 6 * s + p)) ∧ ∀ j, (∀ p, p < q.1 → j ≠ 6 * s + p) → q.2.2 j = σ 265 j) → kX kT L xs (d + 1) 223 57 [(6, .int (nI q.1)), (5, .int (nI q.2.1)), (4, .int (nI s)), (0, .ref 232), (1, .int x), (2, .int y), (3, .int (nI k))] [] (va_up σ 265 q.2.2) Q := by
  refine kX_while (fun q : Nat × Nat × (Nat → Int32) => [(6, .int (nI q.1)), (5, .int (nI q.2.1)), (4, .int (nI s)), (0, .ref 232), (1, .int x), (2, .int y), (3, .int (nI k))]) (fun q => va_up σ 265 q.2.2) _ (fun q => 6 - q.1) ?_
  rintro ⟨v, m, V⟩ ⟨i1, i2, i3, i4, i5⟩ ih
  dsimp only at i1 i2 i3 i4 i5 ih ⊢
  repeat refine kX_one rfl ?_
  refine kX_if (fun q => ?_) (fun q => ?_)
  · have q := qge q v 6
    obtain rfl : v = 6 := by omega
    exact kX_lv _ rfl rfl rfl (he m V i2 (fun p hp => by rw [i3 p hp]; exact ⟨fun z => z.2, fun z => ⟨hp, z⟩⟩) i4 i5)
  · have q := qgeF q v 6
    have hold : V (6 * s + v) = σ 265 (6 * s + v) := i5 _ (fun p hp => by omega)
    have k119 : ∀ m', m' < 64 → (∀ p, p < 6 → (m' / 2 ^ p % 2 = 1 ↔ p < v + 1 ∧ σ 285 (24 * st + 6 * s + p) ≠ σ 265 (6 * s + p))) → kX kT L xs (d + 1) 223 119 [(7, .int (σ 285 (24 * st + 6 * s + v))), (6, .int (nI v)), (5, .int (nI m)), (4, .int (nI s)), (0, .ref 232), (1, .int x), (2, .int y), (3, .int (nI k))] [.int (nI m')] (va_up σ 265 V) Q := by
      intro m' hm' hb
      iterate 9 (refine kX_one rfl ?_)
      refine kX_iastN rfl rfl (by decide) (6 * s + v) (ix6 s v) (by omega) ?_
      iterate 2 (refine kX_one rfl ?_)
      have := ih (v + 1, m', upd V (6 * s + v) (σ 285 (24 * st + 6 * s + v))) ⟨q, hm', hb, fun p hp => by
        simp only at hp ⊢
        by_cases e : p = v
        · subst e
          exact pk_us
        · rw [pk_un (by omega)]
          exact i4 p (by omega), fun j hj => by
        simp only at hj ⊢
        rw [pk_un (hj v (by omega))]
        exact i5 j (fun p hp => hj p (by omega))⟩ (by simp only; omega)
      dsimp only at this
      rw [← nI_1] at this
      refine kX_to _ _ rfl rfl rfl ?_ this
      funext c; unfold  va_up; repeat' split
      all_goals first | rfl | omega | (subst_vars; rfl) | (funext j; unfold upd; repeat' split; all_goals first | rfl | omega | (subst_vars; rfl))
    iterate 6 (refine kX_one rfl ?_)
    refine kX_ialdV rfl rfl (by decide) (k) (by first | rfl | decide) (hk) (hat) ?_
    iterate 7 (refine kX_one rfl ?_)
    refine kX_ialdN rfl rfl (by decide) (24 * st + 6 * s + v) (ix24 st s v) (by omega) ?_
    iterate 9 (refine kX_one rfl ?_)
    refine kX_ialdV rfl rfl (by decide) (6 * s + v) (ix6 s v) (by omega) (hold) ?_
    repeat refine kX_one rfl ?_
    refine kX_if (fun q2 => ?_) (fun q2 => ?_)
    · have q2 : σ 285 (24 * st + 6 * s + v) ≠ σ 265 (6 * s + v) := qne q2
      obtain ⟨o1, o2⟩ := bm_lt m i2 v q
      iterate 5 (refine kX_one rfl ?_)
      refine kX_top (bm_or m i2 v q) ?_
      refine kX_lv _ rfl rfl rfl (k119 (orb m v) o1 (fun p hp => ?_))
      rw [o2 p hp, i3 p hp]
      constructor
      · rintro (rfl | ⟨z1, z2⟩)
        · exact ⟨by omega, q2⟩
        · exact ⟨by omega, z2⟩
      · rintro ⟨z1, z2⟩
        by_cases e : p = v
        · exact Or.inl e
        · exact Or.inr ⟨by omega, z2⟩
    · have q2 : σ 285 (24 * st + 6 * s + v) = σ 265 (6 * s + v) := qneF q2
      iterate 2 (refine kX_one rfl ?_)
      refine kX_lv _ rfl rfl rfl (k119 m i2 (fun p hp => ?_))
      rw [i3 p hp]
      constructor
      · rintro ⟨z1, z2⟩
        exact ⟨by omega, z2⟩
      · rintro ⟨z1, z2⟩
        refine ⟨?_, z2⟩
        have : p ≠ v := fun e => z2 (by rw [e]; exact q2)
        omega
/-- the ATTACK as it was noted -/
def akD (σ : kS) (n S : Nat) (as : List Nat) (fin : Nat → Nat → Int32) : Prop := lst (σ 288) as ∧
  (∀ s ∈ as, s < S ∧ as.count s ≤ fN (σ 247 (fN (σ 255 s))) ∧ ∀ k, k < 6 → bdv σ (fN (σ 255 s)) (as.count s) k → mVz σ n (fN (σ 255 s)) k (fin s k) ∧ (σ 246 (6 * fN (σ 255 s) + k) ≠ nI 2 → fin s k = σ 256 (6 * s + k))) ∧
  ∀ i (h : i < as.length), ∃ st, st < 600 ∧ σ 289 i = nI st ∧ ∀ k, k < 6 → σ 285 (24 * st + 6 * (as[i]'h) + k) = cit (bdv σ (fN (σ 255 (as[i]'h))) ((as.take i).count (as[i]'h) + 1) k) (fin (as[i]'h) k) (-6)
/-- the RUN is as far as k EVENTS of it -/
def plI (σ τ : kS) (n b R S C : Nat) (kl as : List Nat) (fin : Nat → Nat → Int32) (k : Nat) : Prop := (mTb τ n b ∧ mRo τ n R ∧ mSe τ n R S ∧ mKn τ n kl ∧ mCl τ R C) ∧ τ 232 52 = 1 ∧ τ 232 47 = 0 ∧ τ 232 72 = nI as.length ∧ akD τ n S as fin ∧ mRn τ n R S (as.take k) ∧ mBi τ (as.take k) ∧ (∀ s ∈ as, ∀ v, v < 6 → τ 265 (6 * s + v) = cit (bdv τ (fN (τ 255 s)) ((as.take k).count s) v) (fin s v) (-6)) ∧ mLow σ τ
theorem count_take_succ {as : List Nat} {k : Nat} (hk : k < as.length) : (as.take (k + 1)).count as[k] = (as.take k).count as[k] + 1 := by
  rw [List.take_succ_eq_append_getElem hk, List.count_append]
  simp
theorem pl_step {σ τ : kS} {n b R S C k st m : Nat} {kl as : List Nat} {fin : Nat → Nat → Int32} {V : Nat → Int32} (h : plI σ τ n b R S C kl as fin k) (hk : k < as.length) (h24 : as.length ≤ 24) (hst : τ 289 k = nI st) (hst6 : st < 600) (hm : m < 64) (hmb : ∀ p, p < 6 → (m / 2 ^ p % 2 = 1 ↔ τ 285 (24 * st + 6 * as[k] + p) ≠ τ 265 (6 * as[k] + p))) (hV : ∀ p, p < 6 → V (6 * as[k] + p) = τ 285 (24 * st + 6 * as[k] + p)) (hVo : ∀ j, (∀ p, p < 6 → j ≠ 6 * as[k] + p) → V j = τ 265 j) : plI σ (stS τ V as[k] k ((as.take k).count as[k]) (nI m)) n b R S C kl as fin (k + 1) := by
  obtain ⟨⟨h1, h2, h3, h4, h5⟩, h6, h7, h8, h9, h10, h11, h12, h13⟩ := h
  have hR4 := h2.1
  have hS4 := h3.1
  have hmem : as[k] ∈ as := List.getElem_mem hk
  have hlen : (as.take k).length = k := by rw [List.length_take]; omega
  have hcs := count_take_succ hk
  obtain ⟨s1, s2, s3⟩ := h9.2.1 _ hmem
  obtain ⟨st', t1, t2, t3⟩ := h9.2.2 k hk
  obtain rfl : st = st' := nI_inj (hst.symm.trans t2)
  obtain ⟨r, r1, r2, -⟩ := h3.2.2 _ s1
  have hfr : fN (τ 255 as[k]) = r := by rw [r2]; exact fN_nI (by omega)
  have hcle : (as.take k).count as[k] + 1 ≤ as.count as[k] := by
    rw [← hcs]
    exact count_take_le _ _ _
  rw [hfr] at s2 s3 t3
  have hz : ∀ p, p < 6 → bdv τ r ((as.take k).count as[k] + 1) p → mVz τ n r p (fin as[k] p) := fun p hp hb => (s3 p hp (bdv_mono hcle hb)).1
  have hval : ∀ p, p < 6 → V (6 * as[k] + p) = cit (bdv τ r ((as.take k).count as[k] + 1) p) (fin as[k] p) (-6) := fun p hp => (hV p hp).trans (t3 p hp)
  have hold : ∀ p, p < 6 → τ 265 (6 * as[k] + p) = cit (bdv τ r ((as.take k).count as[k]) p) (fin as[k] p) (-6) := fun p hp => by
    have := h12 _ hmem p hp
    rw [hfr] at this
    exact this
  have hp := mRn_push (V := V) (m := m) (bd := nI m) (s := as[k]) (r := r) h1 h2 hS4 h10 h11 s1 r1 r2 (by omega) hVo (fun p hp => ⟨fun hb => by
      rw [hval p hp, cit_T hb]
      exact hz p hp hb, fun hb => by
      rw [hval p hp, cit_F hb]⟩) hm rfl (fun p hp => by
      rw [hmb p hp, ← hV p hp, hval p hp, hold p hp]
      by_cases hb : bdv τ r ((as.take k).count as[k]) p
      · rw [cit_T hb, cit_T (bdv_mono (by omega) hb)]
        exact ⟨fun z => absurd rfl z, fun z => absurd hb z.2⟩
      · rw [cit_F hb]
        by_cases hb2 : bdv τ r ((as.take k).count as[k] + 1) p
        · rw [cit_T hb2]
          exact ⟨fun _ => ⟨hb2, hb⟩, fun _ => (mVz_ne h1 (hz p hp hb2)).1⟩
        · rw [cit_F hb2]
          exact ⟨fun z => absurd rfl z, fun z => absurd z.1 hb2⟩)
  rw [hlen] at hp
  have htk : as.take k ++ [as[k]] = as.take (k + 1) := (List.take_succ_eq_append_getElem hk).symm
  rw [htk] at hp
  refine ⟨⟨h1, h2, h3, h4, h5⟩, h6, h7, h8, h9, hp.1, hp.2, fun s hs v hv => ?_, fun c hc => ?_⟩
  · show V (6 * s + v) = cit (bdv τ (fN (τ 255 s)) ((as.take (k + 1)).count s) v) (fin s v) (-6)
    by_cases e : s = as[k]
    · rw [e, hfr, hcs]
      exact hval v hv
    · have ec : (as.take (k + 1)).count s = (as.take k).count s := by
        rw [← htk, List.count_append]
        simp [Ne.symm e]
      rw [ec, hVo _ (fun p hp => by omega)]
      exact h12 s hs v hv
  · have := h13 c hc
    rw [← this]
    unfold stS va_up
    rw [if_neg (by omega), if_neg (by omega), if_neg (by omega), if_neg (by omega), if_neg (by omega)]
set_option maxRecDepth 100000 in
set_option maxHeartbeats 4000000 in
theorem mp_play (L : Nat) (xs : Nat → Int32) (d : Nat) (σ : kS) (n b R S C : Nat) (kl : List Nat) (x : Int32) (h : mI σ n b R S C kl) : kXM kT L xs (d + 8) 223 [.ref 232, .int x] σ (fun r σ' => (∃ x, r = some (.int x)) ∧ mAfter σ σ' R) := by
  have h0 := h
  obtain ⟨h1, h2, h3, h4, h5, h6, h7⟩ := h
  have hS4 := h3.1
  unfold kXM
  rcases h7 with h7 | ⟨as, fin, a0, a1, a2, a3, a4⟩
  · iterate 2 (refine kX_one rfl ?_)
    refine kX_top (h7) ?_
    repeat refine kX_one rfl ?_
    refine kX_ret (i := .ireturn) (len := 1) rfl (Or.inr rfl) rfl (⟨⟨_, rfl⟩, mAfter_same h0⟩)
  · iterate 2 (refine kX_one rfl ?_)
    refine kX_top (a1) ?_
    repeat refine kX_one rfl ?_
    refine kX_ifT (decide_eq_true (Int32.not_lt.mp (nI_pos (by omega)))) ?_
    iterate 5 (refine kX_one rfl ?_)
    refine kX_top (a1) ?_
    iterate 1 (refine kX_one rfl ?_)
    refine kX_cal (mr_in L xs (d + 7) σ _ _ _) rfl (Or.inr rfl) rfl rfl rfl (fun r1 σ1 q1 => ?_)
    obtain ⟨rfl, rfl⟩ := q1
    rw [isB_dec]
    repeat refine kX_one rfl ?_
    refine kX_if (fun q => ?_) (fun q => ?_)
    · obtain ⟨m, -, hm, rfl⟩ := in_R (lo := 0) (hi := as.length) (by omega) (by omega) (isB_ne.mp (qne q)).1 (isB_ne.mp (qne q)).2
      have k156 : ∀ τ k, plI σ τ n b R S C kl as fin k → kX kT L xs (d + 8) 223 156 [(0, .ref 232)] [] τ (fun r σ' => (∃ x, r = some (.int x)) ∧ mAfter σ σ' R) := by
        rintro τ k ⟨⟨p1, p2, p3, p4, p5⟩, p6, p7, p8, p9, p10, p11, p12, p13⟩
        have hI : mI (va_up τ 232 (upd (τ 232) 47 0)) n b R S C kl := ⟨p1, p2, p3, p4, p5, Or.inr ⟨p6, as.take k, p10, p11, Or.inl rfl⟩, Or.inr ⟨as, fin, a0, p8, p9.1, p9.2.1, p9.2.2⟩⟩
        have hr : (va_up τ 232 (upd (τ 232) 47 0)) 232 52 = 1 := p6
        have hRn : mRn (va_up τ 232 (upd (τ 232) 47 0)) n R S (as.take k) := p10
        have hBi : mBi (va_up τ 232 (upd (τ 232) 47 0)) (as.take k) := p11
        have hlo : mLow σ (va_up τ 232 (upd (τ 232) 47 0)) := mLow_trans p13 (mLow_up τ _ (by decide))
        have hrt : mRt (va_up τ 232 (upd (τ 232) 47 0)) n b kl (as.take k) := Or.inl rfl
        iterate 3 (refine kX_one rfl ?_)
        refine kX_st (va_up τ 232 (upd (τ 232) 47 0)) rfl ?_
        generalize va_up τ 232 (upd (τ 232) 47 0) = ρ at *
        iterate 1 (refine kX_one rfl ?_)
        refine kX_cal (mr_row L xs d ρ n b R S C kl (as.take k) hI hr hRn hBi hrt) rfl (Or.inr rfl) rfl rfl rfl (fun r1 σ1 q1 => ?_)
        obtain ⟨rfl, f1, f2, b', l, f3, f4, f5, f6, f7⟩ := q1
        have hI1 := (mI_there hI hr hRn hBi f1 f2 f3 f4 f5 f6 f7).1
        repeat refine kX_one rfl ?_
        refine kX_ret (i := .ireturn) (len := 1) rfl (Or.inr rfl) rfl (⟨⟨_, rfl⟩, mLow_trans hlo (mLow_fr f1), n, b', S, C, kl, hI1⟩)
      have loop : ∀ q : Nat × kS, (q.1 ≤ m ∧ plI σ q.2 n b R S C kl as fin q.1) → kX kT L xs (d + 8) 223 34 [(3, .int (nI q.1)), (0, .ref 232), (1, .int (nI m)), (2, .int (nI S))] [] q.2 (fun r σ' => (∃ x, r = some (.int x)) ∧ mAfter σ σ' R) := by
        refine kX_while (fun q : Nat × kS => [(3, .int (nI q.1)), (0, .ref 232), (1, .int (nI m)), (2, .int (nI S))]) (fun q => q.2) _ (fun q => m - q.1) ?_
        rintro ⟨k, τ⟩ ⟨i1, i2⟩ ih
        dsimp only at i1 i2 ih ⊢
        iterate 2 (refine kX_one rfl ?_)
        repeat refine kX_one rfl ?_
        refine kX_if (fun q => ?_) (fun q => ?_)
        · exact kX_lv _ rfl rfl rfl (k156 τ k i2)
        · have q := qgeF q k m
          have hk : k < as.length := by omega
          have hI := i2
          obtain ⟨⟨p1, p2, p3, p4, p5⟩, p6, p7, p8, p9, p10, p11, p12, p13⟩ := i2
          obtain ⟨s1, s2, -⟩ := p9.2.1 _ (List.getElem_mem hk)
          obtain ⟨st, t1, t2, -⟩ := p9.2.2 k hk
          have hlen : (as.take k).length = k := by rw [List.length_take]; omega
          iterate 1 (refine kX_one rfl ?_)
          repeat refine kX_one rfl ?_
          refine kX_ifF (decide_eq_false (nI_pos (by omega))) ?_
          iterate 3 (refine kX_one rfl ?_)
          refine kX_ialdV rfl rfl (by decide) (k) (by first | rfl | decide) (by omega) (p9.1 k hk) ?_
          iterate 5 (refine kX_one rfl ?_)
          have := mr_pl_in L xs (d + 7) τ as[k] k st (by omega) (by omega) t1 t2 (nI m) (nI S) (fun r σ' => (∃ x, r = some (.int x)) ∧ mAfter σ σ' R) (fun m' V b1 b2 b3 b4 => ?_) (0, 0, τ 265) ⟨Nat.zero_le _, Nat.succ_pos _, fun p hp => by
            rw [Nat.zero_div]
            exact ⟨fun z => absurd z (by decide), fun z => absurd z.1 (Nat.not_lt_zero p)⟩, fun p hp => absurd hp (Nat.not_lt_zero p), fun j _ => rfl⟩
          · refine kX_to _ _ rfl rfl rfl ?_ this
            funext c; unfold  va_up; repeat' split
            all_goals first | rfl | omega | (subst_vars; rfl) | (funext j; unfold upd; repeat' split; all_goals first | rfl | omega | (subst_vars; rfl))
          · have hst := pl_step hI hk a0 t2 t1 b1 b2 b3 b4
            obtain ⟨-, -, r3, -⟩ := p10.2.2.2 _ s1
            have hdo : (va_up τ 265 V) 264 as[k] = nI ((as.take k).count as[k]) := by
              obtain ⟨r, -, -, r3, -⟩ := p10.2.2.2 _ s1
              exact r3
            have hdid : (va_up τ 265 V) 232 55 = nI k := by
              have := p10.1
              rw [hlen] at this
              exact this
            iterate 3 (refine kX_one rfl ?_)
            refine kX_cal (mr_does L xs (d + 6) (va_up τ 265 V) as[k] k ((as.take k).count as[k]) (nI m') (by omega) hdid (by omega) hdo) rfl (Or.inr rfl) rfl rfl rfl (fun r1 σ1 q1 => ?_)
            obtain ⟨rfl, rfl⟩ := q1
            refine kX_st (stS τ V as[k] k ((as.take k).count as[k]) (nI m')) rfl ?_
            generalize stS τ V as[k] k ((as.take k).count as[k]) (nI m') = ρ at *
            iterate 2 (refine kX_one rfl ?_)
            have := ih (k + 1, ρ) ⟨q, hst⟩ (by simp only; omega)
            dsimp only at this
            rw [← nI_1] at this
            exact kX_lv _ rfl rfl rfl this
      iterate 1 (refine kX_one rfl ?_)
      refine kX_cal (mr_begin L xs (d + 5) σ n b R S C kl h0) rfl (Or.inr rfl) rfl rfl rfl (fun r1 σ1 q1 => ?_)
      obtain ⟨rfl, hlo, hI1, D, V, rfl, hD, hV⟩ := q1
      iterate 3 (refine kX_one rfl ?_)
      have hst : plI σ (va_up (va_up (va_up σ 264 D) 265 V) 232 (upd (upd (upd (σ 232) 52 1) 55 0) 47 0)) n b R S C kl as fin 0 := by
        obtain ⟨g1, g2, g3, g4, g5, g6, g7⟩ := hI1
        refine ⟨⟨g1, g2, g3, g4, g5⟩, rfl, rfl, a1, ⟨a2, a3, a4⟩, ?_, fun k hk => absurd hk (Nat.not_lt_zero k), fun s hs v hv => ?_, hlo⟩
        · exact ⟨rfl, lst_nil _, fun s h9 => (by cases h9), fun s hss => mSn_begin h1 h2 h3 hD hV s hss⟩
        · obtain ⟨s1, s2, s3⟩ := a3 s hs
          obtain ⟨r, r1, r2, -⟩ := h3.2.2 s s1
          have hR4 := h2.1
          have hfr : fN (σ 255 s) = r := by rw [r2]; exact fN_nI (by omega)
          show V (6 * s + v) = cit (bdv σ (fN (σ 255 s)) 0 v) (fin s v) (-6)
          obtain ⟨-, -, c3⟩ := mSn_iff (σ := va_up (va_up σ 264 D) 265 V) (b := b) h1 h2 (mSn_begin h1 h2 h3 hD hV s s1) r2 r1
          by_cases hb : bdv σ r 0 v
          · rw [hfr, cit_T hb]
            have ha : σ 246 (6 * r + v) ≠ nI 2 := hb.2.elim id (fun ⟨e, e1, _⟩ => absurd e1 (Nat.not_lt_zero e))
            rw [hfr] at s3
            rw [(s3 v hv (bdv_mono (Nat.zero_le _) hb)).2 ha, hV s v s1 hv, hfr, if_pos hb.1]
          · rw [hfr, cit_F hb]
            exact (c3 v hv).2 hb
      exact kX_lv _ rfl rfl rfl (loop (0, _) ⟨Nat.zero_le _, hst⟩)
    · repeat refine kX_one rfl ?_
      refine kX_ret (i := .ireturn) (len := 1) rfl (Or.inr rfl) rfl (⟨⟨_, rfl⟩, mAfter_same h0⟩)
