/-! alike: play, the RUN of an attack -/
/-- .. with all that has not moved -/
def plK (σ τ : kS) (n b R S C : Nat) (kl as : List Nat) (fin : Nat → Nat → Int32) (k : Nat) : Prop := plI σ τ n b R S C kl as fin k ∧ (∀ s, s < S → s ∉ as → ∀ v, v < 6 → τ 265 (6 * s + v) = if v < fN (τ 244 (fN (τ 255 s))) then τ 256 (6 * s + v) else -6) ∧ vw σ τ
theorem plK_step {σ τ : kS} {n b R S C k st m : Nat} {kl as : List Nat} {fin : Nat → Nat → Int32} {V : Nat → Int32} (h : plK σ τ n b R S C kl as fin k) (hk : k < as.length) (h24 : as.length ≤ 24) (hst : τ 289 k = nI st) (hst6 : st < 600) (hm : m < 64) (hmb : ∀ p, p < 6 → (m / 2 ^ p % 2 = 1 ↔ τ 285 (24 * st + 6 * as[k] + p) ≠ τ 265 (6 * as[k] + p))) (hV : ∀ p, p < 6 → V (6 * as[k] + p) = τ 285 (24 * st + 6 * as[k] + p)) (hVo : ∀ j, (∀ p, p < 6 → j ≠ 6 * as[k] + p) → V j = τ 265 j) : plK σ (stS τ V as[k] k ((as.take k).count as[k]) (nI m)) n b R S C kl as fin (k + 1) := by
  refine ⟨pl_step h.1 hk h24 hst hst6 hm hmb hV hVo, fun s hs hns v hv => ?_, ⟨fun c c1 c2 c3 c4 c5 => ?_, fun j j1 j2 j3 => ?_⟩⟩
  · show V (6 * s + v) = _
    have hne : s ≠ as[k] := fun e => hns (e ▸ List.getElem_mem hk)
    rw [hVo _ (fun p hp => by omega)]
    exact h.2.1 s hs hns v hv
  · unfold stS
    rw [up_ne c2, up_ne c1, up_ne c5, up_ne c4, up_ne c3]
    exact h.2.2.1 c c1 c2 c3 c4 c5
  · show upd (τ 232) 55 (nI (k + 1)) j = σ 232 j
    rw [pk_un j2]
    exact h.2.2.2 j j1 j2 j3
theorem plK_0 {σ : kS} {n b R S C : Nat} {kl as : List Nat} {fin : Nat → Nat → Int32} {D V : Nat → Int32} (h : mI σ n b R S C kl) (a1 : σ 232 72 = nI as.length) (ak : akD σ n S as fin) (hD : ∀ s, s < S → D s = 0) (hV : ∀ s k, s < S → k < 6 → V (6 * s + k) = if k < fN (σ 244 (fN (σ 255 s))) then σ 256 (6 * s + k) else -6) : plK σ (va_up (va_up (va_up σ 264 D) 265 V) 232 (upd (upd (upd (σ 232) 52 1) 55 0) 47 0)) n b R S C kl as fin 0 := by
  obtain ⟨h1, h2, h3, h4, h5, h6, h7⟩ := h
  obtain ⟨a2, a3, a4⟩ := ak
  refine ⟨⟨⟨h1, h2, h3, h4, h5⟩, rfl, rfl, a1, ⟨a2, a3, a4⟩, ?_, fun k hk => absurd hk (Nat.not_lt_zero k), fun s hs v hv => ?_, fun c hc => ?_⟩, fun s hs _ v hv => hV s v hs hv, ⟨fun c c1 c2 c3 _ _ => by rw [up_ne c1, up_ne c3, up_ne c2], fun j j1 j2 j3 => ?_⟩⟩
  · exact ⟨rfl, lst_nil _, fun s h9 => (by cases h9), fun s hss => mSn_begin h1 h2 h3 hD hV s hss⟩
  · obtain ⟨s1, s2, s3⟩ := a3 s hs
    obtain ⟨r, r1, r2, -⟩ := h3.2.2 s s1
    have hR4 := h2.1
    have hfr : fN (σ 255 s) = r := by rw [r2]; exact fN_nI (by omega)
    show V (6 * s + v) = cit (bdv σ (fN (σ 255 s)) 0 v) (fin s v) (-6)
    obtain ⟨-, -, c3⟩ := mSn_iff (σ := va_up (va_up σ 264 D) 265 V) (b := b) h1 h2 (mSn_begin h1 h2 h3 hD hV s s1) r2 r1
    by_cases hb : bdv σ r 0 v
    · rw [hfr, cit_T hb]
      have ha : σ 246 (6 * r + v) ≠ nI 2 := hb.2.elim id (fun ⟨e, e1, _⟩ => absurd e1 (Nat.not_lt_zero e))
      rw [hfr] at s3
      rw [(s3 v hv (bdv_mono (Nat.zero_le _) hb)).2 ha, hV s v s1 hv, hfr, if_pos hb.1]
    · rw [hfr, cit_F hb]
      exact (c3 v hv).2 hb
  · rw [up_ne (by omega), up_ne (by omega), up_ne (by omega)]
  · show upd (upd (upd (σ 232) 52 1) 55 0) 47 0 j = σ 232 j
    rw [pk_un j3, pk_un j2, pk_un j1]
theorem bits6 (P : Nat → Prop) : ∀ k, k ≤ 6 → ∃ m, m < 64 ∧ ∀ p, p < 6 → (m / 2 ^ p % 2 = 1 ↔ p < k ∧ P p)
  | 0, _ => ⟨0, by decide, fun p _ => by
    rw [Nat.zero_div]
    exact ⟨fun z => absurd z (by decide), fun z => absurd z.1 (Nat.not_lt_zero p)⟩⟩
  | k + 1, hk => by
    obtain ⟨m, m1, m2⟩ := bits6 P k (by omega)
    by_cases q : P k
    · obtain ⟨o1, o2⟩ := bm_lt m m1 k (by omega)
      refine ⟨orb m k, o1, fun p hp => ?_⟩
      rw [o2 p hp, m2 p hp]
      constructor
      · rintro (rfl | ⟨z1, z2⟩)
        · exact ⟨by omega, q⟩
        · exact ⟨by omega, z2⟩
      · rintro ⟨z1, z2⟩
        by_cases e : p = k
        · exact Or.inl e
        · exact Or.inr ⟨by omega, z2⟩
    · refine ⟨m, m1, fun p hp => ?_⟩
      rw [m2 p hp]
      constructor
      · rintro ⟨z1, z2⟩
        exact ⟨by omega, z2⟩
      · rintro ⟨z1, z2⟩
        have : p ≠ k := fun e => q (e ▸ z2)
        exact ⟨by omega, z2⟩
/-- the RUN that the attack is, k EVENTS of it -/
theorem plK_ex {σ : kS} {n b R S C : Nat} {kl as : List Nat} {fin : Nat → Nat → Int32} (h : mI σ n b R S C kl) (h24 : as.length ≤ 24) (a1 : σ 232 72 = nI as.length) (ak : akD σ n S as fin) : ∀ k, k ≤ as.length → ∃ G, plK σ G n b R S C kl as fin k
  | 0, _ => ⟨_, plK_0 (D := fun _ => 0) (V := fun j => if j % 6 < fN (σ 244 (fN (σ 255 (j / 6)))) then σ 256 j else -6) h a1 ak (fun _ _ => rfl) (fun s k _ hk => by
    show (if (6 * s + k) % 6 < fN (σ 244 (fN (σ 255 ((6 * s + k) / 6)))) then σ 256 (6 * s + k) else -6) = _
    rw [show (6 * s + k) % 6 = k by omega, show (6 * s + k) / 6 = s by omega])⟩
  | k + 1, hk => by
    obtain ⟨G, hG⟩ := plK_ex h h24 a1 ak k (by omega)
    have hk' : k < as.length := hk
    obtain ⟨st, t1, t2, -⟩ := hG.1.2.2.2.2.1.2.2 k hk'
    obtain ⟨m, m1, m2⟩ := bits6 (fun p => G 285 (24 * st + 6 * as[k] + p) ≠ G 265 (6 * as[k] + p)) 6 (Nat.le_refl _)
    refine ⟨_, plK_step (st := st) (m := m) (V := fun j => if j / 6 = as[k] then G 285 (24 * st + j) else G 265 j) hG hk' h24 t2 t1 m1 (fun p hp => ?_) (fun p hp => ?_) (fun j hj => ?_)⟩
    · rw [m2 p hp]
      exact ⟨fun z => z.2, fun z => ⟨hp, z⟩⟩
    · show (if (6 * as[k] + p) / 6 = as[k] then G 285 (24 * st + (6 * as[k] + p)) else _) = _
      rw [if_pos (by omega), show 24 * st + (6 * as[k] + p) = 24 * st + 6 * as[k] + p by omega]
    · show (if j / 6 = as[k] then _ else G 265 j) = _
      rw [if_neg (fun e => hj (j % 6) (by omega) (by omega))]
set_option maxRecDepth 100000 in
set_option maxHeartbeats 4000000 in
theorem mg_play (L : Nat) (xs : Nat → Int32) (d : Nat) (σ : kS) (n b R S C : Nat) (kl as : List Nat) (fin : Nat → Nat → Int32) (x : Int32) (Q : Option Value → kS → Prop) (h : mI σ n b R S C kl) (a0 : as.length ≤ 24) (a1 : σ 232 72 = nI as.length) (ak : akD σ n S as fin) (hO : (∀ m, m ≤ as.length → x ≠ nI m) → Q (some (.int (-2))) σ)
    (hM : ∀ m ρ b' ω, m ≤ as.length → x = nI m → plK σ ρ n b R S C kl as fin m → mFr ρ ω n → mI ω n b' R S C kl → Q (some (.int (nI (trRun ρ kl (as.take m)).length))) ω) : kXM kT L xs (d + 8) 223 [.ref 232, .int x] σ Q := by
  have h0 := h
  obtain ⟨h1, h2, h3, h4, h5, h6, h7⟩ := h
  have hS4 := h3.1
  unfold kXM
  iterate 2 (refine kX_one rfl ?_)
  refine kX_top (a1) ?_
  repeat refine kX_one rfl ?_
  refine kX_ifT (decide_eq_true (Int32.not_lt.mp (nI_pos (by omega)))) ?_
  iterate 5 (refine kX_one rfl ?_)
  refine kX_top (a1) ?_
  iterate 1 (refine kX_one rfl ?_)
  refine kX_cal (mr_in L xs (d + 7) σ _ _ _) rfl (Or.inr rfl) rfl rfl rfl (fun r1 σ1 q1 => ?_)
  obtain ⟨rfl, rfl⟩ := q1
  rw [isB_dec]
  repeat refine kX_one rfl ?_
  refine kX_if (fun q => ?_) (fun q => ?_)
  · obtain ⟨m, -, hm, rfl⟩ := in_R (lo := 0) (hi := as.length) (by omega) (by omega) (isB_ne.mp (qne q)).1 (isB_ne.mp (qne q)).2
    have k156 : ∀ τ, plK σ τ n b R S C kl as fin m → kX kT L xs (d + 8) 223 156 [(0, .ref 232)] [] τ Q := by
      intro τ hK
      have hK2 : plK σ (va_up τ 232 (upd (τ 232) 47 0)) n b R S C kl as fin m := by
        have e : va_up τ 232 (upd (τ 232) 47 0) = τ := by
          rw [← hK.1.2.2.1]
          have : upd (τ 232) 47 (τ 232 47) = τ 232 := by
            funext j
            unfold upd
            split
            · next e => rw [e]
            · rfl
          rw [this, kup_self]
        rw [e]
        exact hK
      obtain ⟨⟨p1, p2, p3, p4, p5⟩, p6, p7, p8, p9, p10, p11, p12, p13⟩ := hK2.1
      have hI : mI (va_up τ 232 (upd (τ 232) 47 0)) n b R S C kl := ⟨p1, p2, p3, p4, p5, Or.inr ⟨p6, as.take m, p10, p11, Or.inl rfl⟩, Or.inr ⟨as, fin, a0, p8, p9.1, p9.2.1, p9.2.2⟩⟩
      have hrt : mRt (va_up τ 232 (upd (τ 232) 47 0)) n b kl (as.take m) := Or.inl rfl
      iterate 3 (refine kX_one rfl ?_)
      refine kX_st (va_up τ 232 (upd (τ 232) 47 0)) rfl ?_
      generalize va_up τ 232 (upd (τ 232) 47 0) = ρ at *
      iterate 1 (refine kX_one rfl ?_)
      refine kX_cal (mr_row L xs d ρ n b R S C kl (as.take m) hI p6 p10 p11 hrt) rfl (Or.inr rfl) rfl rfl rfl (fun r1 σ1 q1 => ?_)
      obtain ⟨rfl, f1, f2, b', l, f3, f4, f5, f6, f7⟩ := q1
      have hI1 := (mI_there hI p6 p10 p11 f1 f2 f3 f4 f5 f6 f7).1
      have key := hM m ρ b' σ1 hm rfl hK2 f1 hI1
      rw [← f7, rwM_len, ← f5.1] at key
      repeat refine kX_one rfl ?_
      refine kX_ret (i := .ireturn) (len := 1) rfl (Or.inr rfl) rfl (key)
    have loop : ∀ q : Nat × kS, (q.1 ≤ m ∧ plK σ q.2 n b R S C kl as fin q.1) → kX kT L xs (d + 8) 223 34 [(3, .int (nI q.1)), (0, .ref 232), (1, .int (nI m)), (2, .int (nI S))] [] q.2 Q := by
      refine kX_while (fun q : Nat × kS => [(3, .int (nI q.1)), (0, .ref 232), (1, .int (nI m)), (2, .int (nI S))]) (fun q => q.2) _ (fun q => m - q.1) ?_
      rintro ⟨k, τ⟩ ⟨i1, i2⟩ ih
      dsimp only at i1 i2 ih ⊢
      iterate 2 (refine kX_one rfl ?_)
      repeat refine kX_one rfl ?_
      refine kX_if (fun q => ?_) (fun q => ?_)
      · have q := qge q k m
        obtain rfl : k = m := by omega
        exact kX_lv _ rfl rfl rfl (k156 τ i2)
      · have q := qgeF q k m
        have hk : k < as.length := by omega
        obtain ⟨⟨p1, p2, p3, p4, p5⟩, p6, p7, p8, p9, p10, p11, p12, p13⟩ := i2.1
        obtain ⟨s1, s2, -⟩ := p9.2.1 _ (List.getElem_mem hk)
        obtain ⟨st, t1, t2, -⟩ := p9.2.2 k hk
        have hlen : (as.take k).length = k := by rw [List.length_take]; omega
        iterate 1 (refine kX_one rfl ?_)
        repeat refine kX_one rfl ?_
        refine kX_ifF (decide_eq_false (nI_pos (by omega))) ?_
        iterate 3 (refine kX_one rfl ?_)
        refine kX_ialdV rfl rfl (by decide) (k) (by first | rfl | decide) (by omega) (p9.1 k hk) ?_
        iterate 5 (refine kX_one rfl ?_)
        have := mr_pl_in L xs (d + 7) τ as[k] k st (by omega) (by omega) t1 t2 (nI m) (nI S) Q (fun m' V b1 b2 b3 b4 => ?_) (0, 0, τ 265) ⟨Nat.zero_le _, Nat.succ_pos _, fun p hp => by
          rw [Nat.zero_div]
          exact ⟨fun z => absurd z (by decide), fun z => absurd z.1 (Nat.not_lt_zero p)⟩, fun p hp => absurd hp (Nat.not_lt_zero p), fun j _ => rfl⟩
        · refine kX_to _ _ rfl rfl rfl ?_ this
          funext c; unfold  va_up; repeat' split
          all_goals first | rfl | omega | (subst_vars; rfl) | (funext j; unfold upd; repeat' split; all_goals first | rfl | omega | (subst_vars; rfl))
        · have hst := plK_step i2 hk a0 t2 t1 b1 b2 b3 b4
          have hdo : (va_up τ 265 V) 264 as[k] = nI ((as.take k).count as[k]) := by
            obtain ⟨r, -, -, r3, -⟩ := p10.2.2.2 _ s1
            exact r3
          have hdid : (va_up τ 265 V) 232 55 = nI k := by
            have := p10.1
            rw [hlen] at this
            exact this
          iterate 3 (refine kX_one rfl ?_)
          refine kX_cal (mr_does L xs (d + 6) (va_up τ 265 V) as[k] k ((as.take k).count as[k]) (nI m') (by omega) hdid (by omega) hdo) rfl (Or.inr rfl) rfl rfl rfl (fun r1 σ1 q1 => ?_)
          obtain ⟨rfl, rfl⟩ := q1
          refine kX_st (stS τ V as[k] k ((as.take k).count as[k]) (nI m')) rfl ?_
          generalize stS τ V as[k] k ((as.take k).count as[k]) (nI m') = ρ at *
          iterate 2 (refine kX_one rfl ?_)
          have := ih (k + 1, ρ) ⟨q, hst⟩ (by simp only; omega)
          dsimp only at this
          rw [← nI_1] at this
          exact kX_lv _ rfl rfl rfl this
    iterate 1 (refine kX_one rfl ?_)
    refine kX_cal (mr_begin L xs (d + 5) σ n b R S C kl h0) rfl (Or.inr rfl) rfl rfl rfl (fun r1 σ1 q1 => ?_)
    obtain ⟨rfl, hlo, hI1, D, V, rfl, hD, hV⟩ := q1
    iterate 3 (refine kX_one rfl ?_)
    exact kX_lv _ rfl rfl rfl (loop (0, _) ⟨Nat.zero_le _, plK_0 h0 a1 ak hD hV⟩)
  · have q := qneF q
    repeat refine kX_one rfl ?_
    refine kX_ret (i := .ireturn) (len := 1) rfl (Or.inr rfl) rfl (hO (fun m hm e => ?_))
    subst e
    refine absurd q (isB_ne.mpr ⟨?_, ?_⟩)
    · refine fun z => ?_
      have z := Int64.lt_iff_toInt_lt.mp z
      rw [nI_lI (by omega), lI_toInt (by omega)] at z
      have z : (m : Int) < 0 := z
      omega
    · refine fun z => ?_
      have z := Int64.lt_iff_toInt_lt.mp z
      rw [nI_lI (by omega), nI_lI (by omega), lI_toInt (by omega), lI_toInt (by omega)] at z
      omega
