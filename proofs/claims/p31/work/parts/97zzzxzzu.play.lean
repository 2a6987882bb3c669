section
/-! alike: play, the RUN of an attack -/
/-- .. with all that has not moved -/
def plK (σ τ : kS) (n b R S C : Nat) (kl as : List Nat) (fin : Nat → Nat → Int32) (k : Nat) : Prop := plI σ τ n b R S C kl as fin k ∧ (∀ s, s < S → s ∉ as → ∀ v, v < 6 → τ 265 (6 * s + v) = if v < fN (τ 244 (fN (τ 255 s))) then τ 256 (6 * s + v) else -6) ∧ vw σ τ
theorem plK_step {σ τ : kS} {n b R S C k st m : Nat} {kl as : List Nat} {fin : Nat → Nat → Int32} {V : Nat → Int32} (h : plK σ τ n b R S C kl as fin k) (hk : k < as.length) (h24 : as.length ≤ 24) (hst : τ 289 k = nI st) (hst6 : st < 600) (hm : m < 64) (hmb : ∀ p, p < 6 → (m / 2 ^ p % 2 = 1 ↔ τ 285 (24 * st + 6 * as[k] + p) ≠ τ 265 (6 * as[k] + p))) (hV : ∀ p, p < 6 → V (6 * as[k] + p) = τ 285 (24 * st + 6 * as[k] + p)) (hVo : ∀ j, (∀ p, p < 6 → j ≠ 6 * as[k] + p) → V j = τ 265 j) : plK σ (stS τ V as[k] k ((as.take k).count as[k]) (nI m)) n b R S C kl as fin (k + 1) := by
  refine ⟨pl_step h.1 hk h24 hst hst6 hm hmb hV hVo, fun s hs hns v hv => ?_, ⟨fun c c1 c2 c3 c4 c5 => ?_, fun j j1 j2 j3 => ?_⟩⟩
  · show V (6 * s + v) = _
    have hne : s ≠ as[k] := fun e => hns (e ▸ List.getElem_mem hk)
    rw [hVo _ (fun p hp => by omega)]
    exact h.2.1 s hs hns v hv
  · unfold stS
    rw [up_ne c2, up_ne c1, up_ne c5, up_ne c4, up_ne c3]
    exact h.2.2.1 c c1 c2 c3 c4 c5
  · show upd (τ 232) 55 (nI (k + 1)) j = σ 232 j
    rw [pk_un j2]
    exact h.2.2.2 j j1 j2 j3
theorem plK_0 {σ : kS} {n b R S C : Nat} {kl as : List Nat} {fin : Nat → Nat → Int32} {D V : Nat → Int32} (h : mI σ n b R S C kl) (a1 : σ 232 72 = nI as.length) (ak : akD σ n S as fin) (hD : ∀ s, s < S → D s = 0) (hV : ∀ s k, s < S → k < 6 → V (6 * s + k) = if k < fN (σ 244 (fN (σ 255 s))) then σ 256 (6 * s + k) else -6) : plK σ (va_up (va_up (va_up σ 264 D) 265 V) 232 (upd (upd (upd (σ 232) 52 1) 55 0) 47 0)) n b R S C kl as fin 0 := by
  obtain ⟨h1, h2, h3, h4, h5, h6, h7⟩ := h
  obtain ⟨a2, a3, a4⟩ := ak
  refine ⟨⟨⟨h1, h2, h3, h4, h5⟩, rfl, rfl, a1, ⟨a2, a3, a4⟩, ?_, fun k hk => absurd hk (Nat.not_lt_zero k), fun s hs v hv => ?_, fun c hc => ?_⟩, fun s hs _ v hv => hV s v hs hv, ⟨fun c c1 c2 c3 _ _ => by rw [up_ne c1, up_ne c3, up_ne c2], fun j j1 j2 j3 => ?_⟩⟩
  · exact ⟨rfl, lst_nil _, fun s h9 => (by cases h9), fun s hss => mSn_begin h1 h2 h3 hD hV s hss⟩
  · obtain ⟨s1, s2, s3⟩ := a3 s hs
    obtain ⟨r, r1, r2, -⟩ := h3.2.2 s s1
    have hR4 := h2.1
    have hfr : fN (σ 255 s) = r := by rw [r2]; exact fN_nI (by omega)
    show V (6 * s + v) = cit (bdv σ (fN (σ 255 s)) 0 v) (fin s v) (-6)
    obtain ⟨-, -, c3⟩ := mSn_iff (σ := va_up (va_up σ 264 D) 265 V) (b := b) h1 h2 (mSn_begin h1 h2 h3 hD hV s s1) r2 r1
    by_cases hb : bdv σ r 0 v
    · rw [hfr, cit_T hb]
      have ha : σ 246 (6 * r + v) ≠ nI 2 := hb.2.elim id (fun ⟨e, e1, _⟩ => absurd e1 (Nat.not_lt_zero e))
      rw [hfr] at s3
      rw [(s3 v hv (bdv_mono (Nat.zero_le _) hb)).2 ha, hV s v s1 hv, hfr, if_pos hb.1]
    · rw [hfr, cit_F hb]
      exact (c3 v hv).2 hb
  · rw [up_ne (by omega), up_ne (by omega), up_ne (by omega)]
  · show upd (upd (upd (σ 232) 52 1) 55 0) 47 0 j = σ 232 j
    rw [pk_un j3, pk_un j2, pk_un j1]
theorem bits6 (P : Nat → Prop) : ∀ k, k ≤ 6 → ∃ m, m < 64 ∧ ∀ p, p < 6 → (m / 2 ^ p % 2 = 1 ↔ p < k ∧ P p)
  | 0, _ => ⟨0, by decide, fun p _ => by
    rw [Nat.zero_div]
    exact ⟨fun z => absurd z (by decide), fun z => absurd z.1 (Nat.not_lt_zero p)⟩⟩
  | k + 1, hk => by
    obtain ⟨m, m1, m2⟩ := bits6 P k (by omega)
    by_cases q : P k
    · obtain ⟨o1, o2⟩ := bm_lt m m1 k (by omega)
      refine ⟨orb m k, o1, fun p hp => ?_⟩
      rw [o2 p hp, m2 p hp]
      constructor
      · rintro (rfl | ⟨z1, z2⟩)
        · exact ⟨by omega, q⟩
        · exact ⟨by omega, z2⟩
      · rintro ⟨z1, z2⟩
        by_cases e : p = k
        · exact Or.inl e
        · exact Or.inr ⟨by omega, z2⟩
    · refine ⟨m, m1, fun p hp => ?_⟩
      rw [m2 p hp]
      constructor
      · rintro ⟨z1, z2⟩
        exact ⟨by omega, z2⟩
      · rintro ⟨z1, z2⟩
        have : p ≠ k := fun e => q (e ▸ z2)
        exact ⟨by omega, z2⟩
/-- the RUN that the attack is, k EVENTS of it -/
theorem plK_ex {σ : kS} {n b R S C : Nat} {kl as : List Nat} {fin : Nat → Nat → Int32} (h : mI σ n b R S C kl) (h24 : as.length ≤ 24) (a1 : σ 232 72 = nI as.length) (ak : akD σ n S as fin) : ∀ k, k ≤ as.length → ∃ G, plK σ G n b R S C kl as fin k
  | 0, _ => ⟨_, plK_0 (D := fun _ => 0) (V := fun j => if j % 6 < fN (σ 244 (fN (σ 255 (j / 6)))) then σ 256 j else -6) h a1 ak (fun _ _ => rfl) (fun s k _ hk => by
    show (if (6 * s + k) % 6 < fN (σ 244 (fN (σ 255 ((6 * s + k) / 6)))) then σ 256 (6 * s + k) else -6) = _
    rw [show (6 * s + k) % 6 = k by omega, show (6 * s + k) / 6 = s by omega])⟩
  | k + 1, hk => by
    obtain ⟨G, hG⟩ := plK_ex h h24 a1 ak k (by omega)
    have hk' : k < as.length := hk
    obtain ⟨st, t1, t2, -⟩ := hG.1.2.2.2.2.1.2.2 k hk'
    obtain ⟨m, m1, m2⟩ := bits6 (fun p => G 285 (24 * st + 6 * as[k] + p) ≠ G 265 (6 * as[k] + p)) 6 (Nat.le_refl _)
    refine ⟨_, plK_step (st := st) (m := m) (V := fun j => if j / 6 = as[k] then G 285 (24 * st + j) else G 265 j) hG hk' h24 t2 t1 m1 (fun p hp => ?_) (fun p hp => ?_) (fun j hj => ?_)⟩
    · rw [m2 p hp]
      exact ⟨fun z => z.2, fun z => ⟨hp, z⟩⟩
    · show (if (6 * as[k] + p) / 6 = as[k] then G 285 (24 * st + (6 * as[k] + p)) else _) = _
      rw [if_pos (by omega), show 24 * st + (6 * as[k] + p) = 24 * st + 6 * as[k] + p by omega]
    · show (if j / 6 = as[k] then _ else G 265 j) = _
      rw [if_neg (fun e => hj (j % 6) (by omega) (by omega))]
set_option maxRecDepth 100000 in
set_option maxHeartbeats 4000000 in
theorem mg_play (L : Nat) (xs : Nat → Int32) (d : Nat) (σ : kS) (n b R S C : Nat) (kl as : List Nat) (fin : Nat → Nat → Int32) (x : Int32) (Q : Option Value → kS → Prop) (h : mI σ n b R S C kl) (a0 : as.length ≤ 24) (a1 : σ 232 72 = nI as.length) (ak : akD σ n S as fin) (hO : (∀ m, m ≤ as.length → x ≠ nI m) → Q (some (.int (-2))) σ)
    (hM : ∀ m ρ b' ω, m ≤ as.length → x = nI m → plK σ ρ n b R S C kl as fin m → mFr ρ ω n → mI ω n b' R S C kl → Q (some (.int (nI (trRun ρ kl (as.take m)).length))) ω) : kXM kT L xs (d + 8) 223 [.ref 232, .int x] σ Q := by
  have h0 := h
  obtain ⟨h1, h2, h3, h4, h5, h6, h7⟩ := h
  have hS4 := h3.1
  unfold kXM
  iterate 2 (refine kX_one rfl ?_)
  refine kX_top (a1) ?_
  repeat refine kX_one rfl ?_
  refine kX_ifT (decide_eq_true (Int32.not_lt.mp (nI_pos (by omega)))) ?_
  iterate 5 (refine kX_one rfl ?_)
  refine kX_top (a1) ?_
  iterate 1 (refine kX_one rfl ?_)
  refine kX_cal (mr_in L xs (d + 7) σ _ _ _) rfl (Or.inr rfl) rfl rfl rfl (fun r1 σ1 q1 => ?_)
  obtain ⟨rfl, rfl⟩ := q1
  rw [isB_dec]
  repeat refine kX_one rfl ?_
  refine kX_if (fun q => ?_) (fun q => ?_)
  · obtain ⟨m, -, hm, rfl⟩ := in_R (lo := 0) (hi := as.length) (by omega) (by omega) (isB_ne.mp (qne q)).1 (isB_ne.mp (qne q)).2
    have k156 : ∀ τ, plK σ τ n b R S C kl as fin m → kX kT L xs (d + 8) 223 156 [(0, .ref 232)] [] τ Q := by
      intro τ hK
      have hK2 : plK σ (va_up τ 232 (upd (τ 232) 47 0)) n b R S C kl as fin m := by
        have e : va_up τ 232 (upd (τ 232) 47 0) = τ := by
          rw [← hK.1.2.2.1]
          have : upd (τ 232) 47 (τ 232 47) = τ 232 := by
            funext j
            unfold upd
            split
            · next e => rw [e]
            · rfl
          rw [this, kup_self]
        rw [e]
        exact hK
      obtain ⟨⟨p1, p2, p3, p4, p5⟩, p6, p7, p8, p9, p10, p11, p12, p13⟩ := hK2.1
      have hI : mI (va_up τ 232 (upd (τ 232) 47 0)) n b R S C kl := ⟨p1, p2, p3, p4, p5, Or.inr ⟨p6, as.take m, p10, p11, Or.inl rfl⟩, Or.inr ⟨as, fin, a0, p8, p9.1, p9.2.1, p9.2.2⟩⟩
      have hrt : mRt (va_up τ 232 (upd (τ 232) 47 0)) n b kl (as.take m) := Or.inl rfl
      iterate 3 (refine kX_one rfl ?_)
      refine kX_st (va_up τ 232 (upd (τ 232) 47 0)) rfl ?_
      generalize va_up τ 232 (upd (τ 232) 47 0) = ρ at *
      iterate 1 (refine kX_one rfl ?_)
      refine kX_cal (mr_row L xs d ρ n b R S C kl (as.take m) hI p6 p10 p11 hrt) rfl (Or.inr rfl) rfl rfl rfl (fun r1 σ1 q1 => ?_)
      obtain ⟨rfl, f1, f2, b', l, f3, f4, f5, f6, f7⟩ := q1
      have hI1 := (mI_there hI p6 p10 p11 f1 f2 f3 f4 f5 f6 f7).1
      have key := hM m ρ b' σ1 hm rfl hK2 f1 hI1
      rw [← f7, rwM_len, ← f5.1] at key
      repeat refine kX_one rfl ?_
      refine kX_ret (i := .ireturn) (len := 1) rfl (Or.inr rfl) rfl (key)
    have loop : ∀ q : Nat × kS, (q.1 ≤ m ∧ plK σ q.2 n b R S C kl as fin q.1) → kX kT L xs (d + 8) 223 34 [(3, .int (nI q.1)), (0, .ref 232), (1, .int (nI m)), (2, .int (nI S))] [] q.2 Q := by
      refine kX_while (fun q : Nat × kS => [(3, .int (nI q.1)), (0, .ref 232), (1, .int (nI m)), (2, .int (nI S))]) (fun q => q.2) _ (fun q => m - q.1) ?_
      rintro ⟨k, τ⟩ ⟨i1, i2⟩ ih
      dsimp only at i1 i2 ih ⊢
      iterate 2 (refine kX_one rfl ?_)
      repeat refine kX_one rfl ?_
      refine kX_if (fun q => ?_) (fun q => ?_)
      · have q := qge q k m
        obtain rfl : k = m := by omega
        exact kX_lv _ rfl rfl rfl (k156 τ i2)
      · have q := qgeF q k m
        have hk : k < as.length := by omega
        obtain ⟨⟨p1, p2, p3, p4, p5⟩, p6, p7, p8, p9, p10, p11, p12, p13⟩ := i2.1
        obtain ⟨s1, s2, -⟩ := p9.2.1 _ (List.getElem_mem hk)
        obtain ⟨st, t1, t2, -⟩ := p9.2.2 k hk
        have hlen : (as.take k).length = k := by rw [List.length_take]; omega
        iterate 1 (refine kX_one rfl ?_)
        repeat refine kX_one rfl ?_
        refine kX_ifF (decide_eq_false (nI_pos (by omega))) ?_
        iterate 3 (refine kX_one rfl ?_)
        refine kX_ialdV rfl rfl (by decide) (k) (by first | rfl | decide) (by omega) (p9.1 k hk) ?_
        iterate 5 (refine kX_one rfl ?_)
        have := mr_pl_in L xs (d + 7) τ as[k] k st (by omega) (by omega) t1 t2 (nI m) (nI S) Q (fun m' V b1 b2 b3 b4 => ?_) (0, 0, τ 265) ⟨Nat.zero_le _, Nat.succ_pos _, fun p hp => by
          rw [Nat.zero_div]
          exact ⟨fun z => absurd z (by decide), fun z => absurd z.1 (Nat.not_lt_zero p)⟩, fun p hp => absurd hp (Nat.not_lt_zero p), fun j _ => rfl⟩
        · refine kX_to _ _ rfl rfl rfl ?_ this
          funext c; first
            | ((repeat (refine va_case ?_ ?_; (· (intro h; first | (subst h; rfl) | (unfold va_up; repeat' split; (all_goals first | rfl | omega | (subst_vars; rfl) | (funext j; unfold upd; repeat' split; all_goals first | rfl | omega | (subst_vars; rfl)))))); intro h)); (repeat (refine va_case2 ?_ ?_; (· (intro h; first | exact absurd h (by assumption) | (subst h; rfl) | (subst h; funext j; unfold upd; repeat' split; (all_goals first | rfl | omega | (subst_vars; rfl))))); intro h)); rfl)
            | (unfold va_up; repeat' split
               all_goals first | rfl | omega | (subst_vars; rfl) | (funext j; unfold upd; repeat' split; all_goals first | rfl | omega | (subst_vars; rfl)))
        · have hst := plK_step i2 hk a0 t2 t1 b1 b2 b3 b4
          have hdo : (va_up τ 265 V) 264 as[k] = nI ((as.take k).count as[k]) := by
            obtain ⟨r, -, -, r3, -⟩ := p10.2.2.2 _ s1
            exact r3
          have hdid : (va_up τ 265 V) 232 55 = nI k := by
            have := p10.1
            rw [hlen] at this
            exact this
          iterate 3 (refine kX_one rfl ?_)
          refine kX_cal (mr_does L xs (d + 6) (va_up τ 265 V) as[k] k ((as.take k).count as[k]) (nI m') (by omega) hdid (by omega) hdo) rfl (Or.inr rfl) rfl rfl rfl (fun r1 σ1 q1 => ?_)
          obtain ⟨rfl, rfl⟩ := q1
          refine kX_st (stS τ V as[k] k ((as.take k).count as[k]) (nI m')) rfl ?_
          generalize stS τ V as[k] k ((as.take k).count as[k]) (nI m') = ρ at *
          iterate 2 (refine kX_one rfl ?_)
          have := ih (k + 1, ρ) ⟨q, hst⟩ (by simp only; omega)
          dsimp only at this
          rw [← nI_1] at this
          exact kX_lv _ rfl rfl rfl this
    iterate 1 (refine kX_one rfl ?_)
    refine kX_cal (mr_begin L xs (d + 5) σ n b R S C kl h0) rfl (Or.inr rfl) rfl rfl rfl (fun r1 σ1 q1 => ?_)
    obtain ⟨rfl, hlo, hI1, D, V, rfl, hD, hV⟩ := q1
    iterate 3 (refine kX_one rfl ?_)
    exact kX_lv _ rfl rfl rfl (loop (0, _) ⟨Nat.zero_le _, plK_0 h0 a1 ak hD hV⟩)
  · have q := qneF q
    repeat refine kX_one rfl ?_
    refine kX_ret (i := .ireturn) (len := 1) rfl (Or.inr rfl) rfl (hO (fun m hm e => ?_))
    subst e
    refine absurd q (isB_ne.mpr ⟨?_, ?_⟩)
    · refine fun z => ?_
      have z := Int64.lt_iff_toInt_lt.mp z
      rw [nI_lI (by omega), lI_toInt (by omega)] at z
      have z : (m : Int) < 0 := z
      omega
    · refine fun z => ?_
      have z := Int64.lt_iff_toInt_lt.mp z
      rw [nI_lI (by omega), nI_lI (by omega), lI_toInt (by omega), lI_toInt (by omega)] at z
      omega
end
section
/-! alike: play, the class follows -/
/-- the class's RUN is that of G -/
def plC (σ τ G : kS) (S j : Nat) : Prop := (∀ c, c < 181 ∨ 186 ≤ c → τ c = σ c) ∧ τ 181 8 = 1 ∧ τ 181 7 = nI j ∧ τ 181 9 = -1 ∧ (∀ i, i < j → τ 183 i = G 274 i) ∧ (∀ s, s < S → τ 182 (7 * s) = G 264 s ∧ ∀ k, k < 6 → nnI (τ 182 (7 * s + 1 + k)) = G 265 (6 * s + k)) ∧ ∀ s, s < S → ∀ k, k < 6 → σ 17 (7 * s + 1 + k) ≠ -1 → τ 182 (7 * s + 1 + k) = σ 17 (7 * s + 1 + k)
/-- follow, as the class does it -/
def flA (A B F : Nat → Int32) (s base : Nat) (ps : List Nat) : Prop := (∀ p ∈ ps, B (7 * s + 1 + p) = F (base + (7 * s + 1 + p))) ∧ ∀ i, (∀ p ∈ ps, i ≠ 7 * s + 1 + p) → B i = A i
set_option maxRecDepth 100000 in
set_option maxHeartbeats 4000000 in
theorem mf_follow (L : Nat) (xs : Nat → Int32) (d : Nat) (σ : kS) (n R S C s base r dn ev c : Nat) (ps : List Nat) (h : cJ σ n R S C) (hon : σ 181 8 = 1) (hs : s < S) (hb : base + 28 ≤ 16800) (hW : cV σ n S (σ 197) base) (hr : r < R) (hr2 : σ 15 s = nI r) (hev : σ (23 + 35 * r) 5 = nI ev) (hev6 : ev ≤ 6) (hdn : dn < ev) (hat : σ 182 (7 * s) = nI dn) (hb1 : σ (28 + 35 * r + 5 * dn) 4 = nI ps.length) (hb2 : ∀ j (hj : j < ps.length), (ps[j]'hj) < 6 ∧ σ (28 + 35 * r + 5 * dn + 1) j = nI (ps[j]'hj)) (hp6 : ps.length ≤ 6) (hc : c < 24) (hcc : σ 181 7 = nI c) : kXM kT L xs (d + 3) 72 [.ref 181, .int (nI s), .ref 197, .int (nI base)] σ (fun q σ' => q = none ∧ ∃ B, flA (σ 182) B (σ 197) s base ps ∧ σ' = spS (va_up σ 182 B) s c ∧ cJ σ' n R S C) := by
  have hS := h.2.2.1
  have hS4 := hS.1
  have hRo := h.2.1
  have hR4 := hRo.1
  have hr4 : r < 4 := by omega
  have hk6 : dn < 6 := by omega
  have hRu := h.2.2.2.2.2.2.2.2.1
  rcases hRu with hRu | ⟨on1, cnt, hV, hg⟩
  · rw [hon] at hRu
    exact absurd hRu (by decide)
  · have eo : ∀ A e, e < 181 ∨ 186 ≤ e → va_up σ 182 A e = σ e := fun A e he => up_ne (by omega)
    have b1 := ev_b r dn 1 hr4 hk6 (by decide)
    have k77 : ∀ A, cV σ n S A 0 → flA (σ 182) A (σ 197) s base ps → ∀ lv, nk lv = true → ([(0, .ref 181), (1, .int (nI s))] : jL).map (fun q => jl lv q.1) = ([(0, .ref 181), (1, Value.int (nI s))] : jL).map (fun q => some q.2) → kX kT L xs (d + 3) 72 77 lv [] (va_up σ 182 A) (fun q σ' => q = none ∧ ∃ B, flA (σ 182) B (σ 197) s base ps ∧ σ' = spS (va_up σ 182 B) s c ∧ cJ σ' n R S C) := by
      intro A hA hfl lv hk hlv
      refine kX_lv _ hk rfl hlv ?_
      have hJ : cJ (va_up σ 182 A) n R S C := cJ_run h (eo A) (Or.inr ⟨on1, cnt, hA, hg⟩)
      iterate 2 (refine kX_one rfl ?_)
      refine kX_cal (mf_step L xs (d + 1) (va_up σ 182 A) n R S C s c hJ (by rw [up_ne (by decide), hon]; decide) hs hc hcc) rfl (Or.inr rfl) rfl rfl rfl (fun r1 τ q1 => ?_)
      obtain ⟨rfl, s1, s2⟩ := q1
      refine kX_ret (i := .return_) (len := 1) rfl (Or.inr rfl) rfl (⟨rfl, A, hfl, s1, s2⟩)
    unfold kXM
    iterate 6 (refine kX_one rfl ?_)
    refine kX_cal (mf_due L xs d σ n R S 182 28 0 s r ev (fun _ => 0) hRo hS4 hr hr2 hev hs hev6 rfl (by decide) (by decide)) rfl (Or.inr rfl) rfl rfl rfl (fun r1 σ1 q1 => ?_)
    obtain ⟨hq, rfl⟩ := q1
    rw [Nat.zero_add, hat] at hq
    rcases hq with ⟨-, hno⟩ | ⟨k, k1, k2, rfl, hE⟩
    · exact absurd rfl (hno dn hdn)
    · obtain rfl : dn = k := nI_inj k2
      have loop : ∀ q : Nat × (Nat → Int32), (q.1 ≤ ps.length ∧ cV σ n S q.2 0 ∧ flA (σ 182) q.2 (σ 197) s base (ps.take q.1)) → kX kT L xs (d + 3) 72 34 [(6, .int (nI q.1)), (5, .int (nI ps.length)), (4, .ref (28 + 35 * r + 5 * dn)), (0, .ref 181), (1, .int (nI s)), (2, .ref 197), (3, .int (nI base))] [] (va_up σ 182 q.2) (fun q σ' => q = none ∧ ∃ B, flA (σ 182) B (σ 197) s base ps ∧ σ' = spS (va_up σ 182 B) s c ∧ cJ σ' n R S C) := by
        refine kX_while (fun q : Nat × (Nat → Int32) => [(6, .int (nI q.1)), (5, .int (nI ps.length)), (4, .ref (28 + 35 * r + 5 * dn)), (0, .ref 181), (1, .int (nI s)), (2, .ref 197), (3, .int (nI base))]) (fun q => va_up σ 182 q.2) _ (fun q => ps.length - q.1) ?_
        rintro ⟨j, A⟩ ⟨j1, j2, j3, j4⟩ ih
        dsimp only at j1 j2 j3 j4 ih ⊢
        iterate 2 (refine kX_one rfl ?_)
        repeat refine kX_one rfl ?_
        refine kX_if (fun q => ?_) (fun q => ?_)
        · have q := qge q j ps.length
          rw [List.take_of_length_le (by omega)] at j3 j4
          exact k77 A j2 ⟨j3, j4⟩ _ rfl rfl
        · have q := qgeF q j ps.length
          obtain ⟨p1, p2⟩ := hb2 j q
          iterate 5 (refine kX_one rfl ?_)
          refine kX_top (y := nI (7 * s + 1)) (ix7z s) ?_
          iterate 1 (refine kX_one rfl ?_)
          refine kX_getN rfl rfl (kT_ev hr4 hk6) rfl ?_
          iterate 1 (refine kX_one rfl ?_)
          refine kX_ialdV rfl (kT_e1 hr4 hk6 (Or.inl rfl)) (by decide) (j) (by first | rfl | decide) (by omega) ((congrFun (eo A _ (by omega)) j).trans p2) ?_
          iterate 1 (refine kX_one rfl ?_)
          refine kX_top (y := nI (7 * s + 1 + ps[j])) (nI_add (7 * s + 1) ps[j]) ?_
          iterate 8 (refine kX_one rfl ?_)
          refine kX_top (y := nI (base + (7 * s + 1 + ps[j]))) (nI_add base (7 * s + 1 + ps[j])) ?_
          refine kX_ialdN rfl rfl (by decide) (base + (7 * s + 1 + ps[j])) (by first | rfl | decide) (by omega) ?_
          refine kX_iastN rfl rfl (by decide) (7 * s + 1 + ps[j]) (by first | rfl | decide) (by omega) ?_
          iterate 2 (refine kX_one rfl ?_)
          have := ih (j + 1, upd A (7 * s + 1 + ps[j]) (σ 197 (base + (7 * s + 1 + ps[j])))) ⟨q, fun s' k' hs' hk' => by
            simp only
            by_cases e : 0 + 7 * s' + 1 + k' = 7 * s + 1 + ps[j]
            · rw [e, pk_us, show base + (7 * s + 1 + ps[j]) = base + 7 * s + 1 + ps[j] by omega]
              exact hW s ps[j] hs p1
            · rw [pk_un e]
              exact j2 s' k' hs' hk', fun p hp => by
            simp only at hp ⊢
            by_cases e : p = ps[j]
            · rw [e, pk_us]
            · rw [pk_un (by omega)]
              rw [List.take_succ_eq_append_getElem q, List.mem_append, List.mem_singleton] at hp
              exact j3 p (hp.resolve_right e), fun i hi => by
            simp only at hi ⊢
            rw [pk_un (hi ps[j] (by rw [List.take_succ_eq_append_getElem q]; exact List.mem_append_right _ (List.mem_singleton.mpr rfl)))]
            exact j4 i (fun p hp => hi p (by rw [List.take_succ_eq_append_getElem q]; exact List.mem_append_left _ hp))⟩ (by simp only; omega)
          dsimp only at this
          rw [← nI_1] at this
          refine kX_to _ _ rfl rfl rfl ?_ this
          funext c; first
            | ((repeat (refine va_case ?_ ?_; (· (intro h; first | (subst h; rfl) | (unfold va_up; repeat' split; (all_goals first | rfl | omega | (subst_vars; rfl) | (funext j; unfold upd; repeat' split; all_goals first | rfl | omega | (subst_vars; rfl)))))); intro h)); (repeat (refine va_case2 ?_ ?_; (· (intro h; first | exact absurd h (by assumption) | (subst h; rfl) | (subst h; funext j; unfold upd; repeat' split; (all_goals first | rfl | omega | (subst_vars; rfl))))); intro h)); rfl)
            | (unfold va_up; repeat' split
               all_goals first | rfl | omega | (subst_vars; rfl) | (funext j; unfold upd; repeat' split; all_goals first | rfl | omega | (subst_vars; rfl)))
      iterate 4 (refine kX_one rfl ?_)
      refine kX_getN rfl rfl (kT_ev hr4 hk6) rfl ?_
      refine kX_top (hb1) ?_
      iterate 3 (refine kX_one rfl ?_)
      refine kX_to _ _ rfl rfl rfl ?_ (loop (0, σ 182) ⟨Nat.zero_le _, hV, fun p hp => absurd hp List.not_mem_nil, fun i _ => rfl⟩)
      funext c; first
        | ((repeat (refine va_case ?_ ?_; (· (intro h; first | (subst h; rfl) | (unfold va_up; repeat' split; (all_goals first | rfl | omega | (subst_vars; rfl) | (funext j; unfold upd; repeat' split; all_goals first | rfl | omega | (subst_vars; rfl)))))); intro h)); (repeat (refine va_case2 ?_ ?_; (· (intro h; first | exact absurd h (by assumption) | (subst h; rfl) | (subst h; funext j; unfold upd; repeat' split; (all_goals first | rfl | omega | (subst_vars; rfl))))); intro h)); rfl)
        | (unfold va_up; repeat' split
           all_goals first | rfl | omega | (subst_vars; rfl) | (funext j; unfold upd; repeat' split; all_goals first | rfl | omega | (subst_vars; rfl)))
end
section
/-! alike: play, both RUNS -/
theorem last_occ {l : List Nat} {s : Nat} : ∀ m, m ≤ l.length → 0 < (l.take m).count s → ∃ i, ∃ (h : i < l.length), i < m ∧ l[i]'h = s ∧ (l.take i).count s + 1 = (l.take m).count s
  | 0, _, h => by
    rw [List.take_zero] at h
    exact absurd h (by simp)
  | m + 1, hm, h => by
    have hm' : m < l.length := hm
    have e := cnt_take (ds := l) (s := l[m]) hm' rfl s
    by_cases q : s = l[m]
    · rw [if_pos q] at e
      exact ⟨m, hm', by omega, q.symm, e.symm⟩
    · rw [if_neg q, Nat.add_zero] at e
      rw [e] at h ⊢
      obtain ⟨i, hi, i1, i2, i3⟩ := last_occ m (by omega) h
      exact ⟨i, hi, by omega, i2, i3⟩
/-- the attack, with what the class has -/
theorem ak_of {σ : kS} {n b R S C m : Nat} {kl : List Nat} (h : aJ σ n b R S C kl m) (hln : σ 195 9 ≠ -1) : ∃ (as : List Nat) (N : Nat), 0 < N ∧ N ≤ 600 ∧ σ 196 5 = nI N ∧ as.length ≤ 24 ∧ σ 195 9 = nI as.length ∧ σ 232 72 = nI as.length ∧ lst (σ 203) as ∧ akD σ n S as (fun s k => nnI (σ 197 (28 * (N - 1) + 7 * s + 1 + k))) := by
  obtain ⟨f1, f2, f3, f4, -, f6⟩ := h.2.2.2.2.2.2.2.2.1
  obtain ⟨as, N, n1, n2, n3, n4, n5, n6, n7, n8, n9⟩ := f6 hln
  have hS4 := h.1.2.2.1.1
  refine ⟨as, N, n1, n2, f1.trans n3, n4, ?_, n5, n7, n6, fun s hs => ?_, n9⟩
  · rw [n5] at f4
    unfold nnI at f4
    rw [if_neg hln] at f4
    exact f4
  · obtain ⟨s1, s2⟩ := n8 s hs
    refine ⟨s1, s2, fun k hk hb => ?_⟩
    rcases h.1.2.2.2.2.2.2 with q | ⟨as2, fin, a0, a1, a2, a3, a4⟩
    · rw [n5] at q
      exact absurd (show nI as.length < 0 by rw [q]; decide) (nI_pos (by omega))
    · obtain rfl : as2 = as := lst_inj a0 n4 (fun s hs => by have := (a3 s hs).1; omega) (fun s hs => by have := (n8 s hs).1; omega) (a1.symm.trans n5) a2 n6
      obtain ⟨i, hi, -, i2, i3⟩ := last_occ (l := as2) (s := s) as2.length (Nat.le_refl _) (by rw [List.take_length]; exact List.count_pos_iff.mpr hs)
      rw [List.take_length] at i3
      obtain ⟨st, t1, t2, t3⟩ := n9 i hi
      obtain ⟨st', t1', t2', t3'⟩ := a4 i hi
      obtain rfl : st = st' := nI_inj (t2.symm.trans t2')
      have e1 := t3 k hk
      rw [t3' k hk] at e1
      rw [i2, i3, cit_T hb, cit_T hb] at e1
      obtain ⟨-, -, c3⟩ := a3 s hs
      have := c3 k hk hb
      rw [e1] at this
      exact this
theorem bdv_vw {σ G : kS} (h : vw σ G) : bdv G = bdv σ := by
  have e := vw_c h [244, 246, 249, 245, 233, 234, 235, 248] (by decide)
  funext r dn k
  unfold bdv
  rw [e 244 (by decide), e 246 (by decide), e 249 (by decide), e 245 (by decide), e 233 (by decide), e 234 (by decide), e 235 (by decide), e 248 (by decide)]
/-- the next EVENT of the attack -/
theorem plK_next {σ G : kS} {n b R S C k : Nat} {kl as : List Nat} {fin : Nat → Nat → Int32} (hG : plK σ G n b R S C kl as fin k) (h24 : as.length ≤ 24) (hk : k < as.length) : ∃ V m, plK σ (stS G V as[k] k ((as.take k).count as[k]) (nI m)) n b R S C kl as fin (k + 1) ∧ (∀ p, p < 6 → V (6 * as[k] + p) = cit (bdv σ (fN (σ 255 as[k])) ((as.take k).count as[k] + 1) p) (fin as[k] p) (-6)) ∧ ∀ j, (∀ p, p < 6 → j ≠ 6 * as[k] + p) → V j = G 265 j := by
  obtain ⟨st, t1, t2, t3⟩ := hG.1.2.2.2.2.1.2.2 k hk
  obtain ⟨m, m1, m2⟩ := bits6 (fun p => G 285 (24 * st + 6 * as[k] + p) ≠ G 265 (6 * as[k] + p)) 6 (Nat.le_refl _)
  have hV : ∀ p, p < 6 → (fun j => if j / 6 = as[k] then G 285 (24 * st + j) else G 265 j) (6 * as[k] + p) = G 285 (24 * st + 6 * as[k] + p) := fun p hp => by
    show (if (6 * as[k] + p) / 6 = as[k] then G 285 (24 * st + (6 * as[k] + p)) else _) = _
    rw [if_pos (by omega), show 24 * st + (6 * as[k] + p) = 24 * st + 6 * as[k] + p by omega]
  have hVo : ∀ j, (∀ p, p < 6 → j ≠ 6 * as[k] + p) → (fun j => if j / 6 = as[k] then G 285 (24 * st + j) else G 265 j) j = G 265 j := fun j hj => by
    show (if j / 6 = as[k] then _ else G 265 j) = _
    rw [if_neg (fun e => hj (j % 6) (by omega) (by omega))]
  refine ⟨_, m, plK_step (st := st) hG hk h24 t2 t1 m1 (fun p hp => ?_) hV hVo, fun p hp => ?_, hVo⟩
  · rw [m2 p hp]
    exact ⟨fun z => z.2, fun z => ⟨hp, z⟩⟩
  · refine (hV p hp).trans ?_
    rw [t3 p hp, bdv_vw hG.2.2, hG.2.2.1 255 (by decide) (by decide) (by decide) (by decide) (by decide)]
/-- two RUNS of one attack -/
theorem plK_same {σ τ G ρ : kS} {n b R S C k : Nat} {kl as : List Nat} {fin : Nat → Nat → Int32} (hG : plK σ G n b R S C kl as fin k) (hP : plK τ ρ n b R S C kl as fin k) (hi : ∀ c, 232 ≤ c → τ c = σ c) : (∀ c, 232 < c → c ≠ 264 → c ≠ 265 → c ≠ 274 → c ≠ 275 → ρ c = G c) ∧ (∀ j, ρ 232 j = G 232 j) ∧ (∀ s, s < S → ρ 264 s = G 264 s) ∧ (∀ s v, s < S → v < 6 → ρ 265 (6 * s + v) = G 265 (6 * s + v)) ∧ ∀ i, i < (as.take k).length → ρ 274 i = G 274 i := by
  have hc : ∀ c, 232 < c → c ≠ 264 → c ≠ 265 → c ≠ 274 → c ≠ 275 → ρ c = G c := fun c c1 c2 c3 c4 c5 => by rw [hP.2.2.1 c (by omega) c2 c3 c4 c5, hG.2.2.1 c (by omega) c2 c3 c4 c5, hi c (by omega)]
  obtain ⟨⟨g1, g2, g3, g4, g5⟩, g6, g7, g8, g9, g10, g11, g12, g13⟩ := hG.1
  obtain ⟨⟨p1, p2, p3, p4, p5⟩, p6, p7, p8, p9, p10, p11, p12, p13⟩ := hP.1
  have hb : bdv ρ = bdv G := by
    have hst : bdv τ = bdv σ := by
      funext r dn k
      unfold bdv
      rw [hi 244 (by decide), hi 246 (by decide), hi 249 (by decide), hi 245 (by decide), hi 233 (by decide), hi 234 (by decide), hi 235 (by decide), hi 248 (by decide)]
    rw [bdv_vw hP.2.2, bdv_vw hG.2.2, hst]
  have hsr : ρ 255 = G 255 := hc _ (by decide) (by decide) (by decide) (by decide) (by decide)
  refine ⟨hc, fun j => ?_, fun s hs => ?_, fun s v hs hv => ?_, fun i hi' => ?_⟩
  · by_cases j1 : j = 52
    · rw [j1, p6, g6]
    · by_cases j2 : j = 55
      · rw [j2, p10.1, g10.1]
      · by_cases j3 : j = 47
        · rw [j3, p7, g7]
        · rw [hP.2.2.2 j j1 j2 j3, hG.2.2.2 j j1 j2 j3, hi 232 (by decide)]
  · obtain ⟨-, -, -, r3, -⟩ := p10.2.2.2 s hs
    obtain ⟨-, -, -, r3', -⟩ := g10.2.2.2 s hs
    rw [r3, r3']
  · by_cases q : s ∈ as
    · rw [p12 s q v hv, g12 s q v hv, hb, hsr]
    · rw [hP.2.1 s hs q v hv, hG.2.1 s hs q v hv, hsr, hc 244 (by decide) (by decide) (by decide) (by decide) (by decide), hc 256 (by decide) (by decide) (by decide) (by decide) (by decide)]
  · rw [p10.2.1 i hi', g10.2.1 i hi']
theorem plK_I {σ G : kS} {n b R S C k : Nat} {kl as : List Nat} {fin : Nat → Nat → Int32} (hG : plK σ G n b R S C kl as fin k) (h24 : as.length ≤ 24) : mI G n b R S C kl ∧ mRn G n R S (as.take k) := by
  obtain ⟨⟨g1, g2, g3, g4, g5⟩, g6, g7, g8, g9, g10, g11, g12, g13⟩ := hG.1
  exact ⟨⟨g1, g2, g3, g4, g5, Or.inr ⟨g6, as.take k, g10, g11, Or.inl g7⟩, Or.inr ⟨as, fin, h24, g8, g9.1, g9.2.1, g9.2.2⟩⟩, g10⟩
theorem hiS_hi (G τ : kS) : ∀ c, 232 ≤ c → hiS G τ c = G c := fun c hc => if_pos hc
theorem hiS_lo (G τ : kS) : ∀ c, c < 232 → hiS G τ c = τ c := fun c hc => if_neg (by omega)
/-- both RUNS are alike -/
theorem aJ_play {σ τ G : kS} {n b R S C m j : Nat} {kl as : List Nat} {fin : Nat → Nat → Int32} (h : aJ σ n b R S C kl m) (h24 : as.length ≤ 24) (hj : j ≤ as.length) (hG : plK σ G n b R S C kl as fin j) (hC : plC σ τ G S j) (hJ : cJ τ n R S C) : aJ (hiS G τ) n b R S C kl m ∧ mRn (hiS G τ) n R S (as.take j) ∧ vw τ (hiS G τ) ∧ hiS G τ 232 52 ≠ 0 := by
  obtain ⟨hI, hR⟩ := plK_I hG h24
  obtain ⟨c1, c2, c3, c4, c5, c6, c7⟩ := hC
  have hhi := hiS_hi G τ
  have hlo := hiS_lo G τ
  have hn := h.1.1.1
  have hlen : (as.take j).length = j := by rw [List.length_take]; omega
  have hruns : G 232 52 = 1 := hG.1.2.1
  have hvw : vw τ (hiS G τ) := by
    refine ⟨fun c a1 a2 a3 a4 a5 => ?_, fun i i1 i2 i3 => ?_⟩
    · by_cases q : 232 ≤ c
      · rw [hhi c q, hG.2.2.1 c a1 a2 a3 a4 a5, c1 c (by omega)]
      · exact hlo c (by omega)
    · rw [hhi 232 (by decide), hG.2.2.2 i i1 i2 i3, c1 232 (by decide)]
  refine ⟨aJ_run2 h (mI_hi hhi hI) (cJ_low hlo hJ) (fun c hc => (hlo c (by omega)).trans (c1 c (by omega))) (fun c a1 a2 a3 a4 a5 => (hhi c (by omega)).trans (hG.2.2.1 c (by omega) a2 a3 a4 a5)) (fun i i1 i2 i3 => by rw [hhi 232 (by decide)]; exact hG.2.2.2 i i1 i2 i3) ?_, mRn_hi hhi hR, hvw, by rw [hhi 232 (by decide), hruns]; decide⟩
  unfold aU
  rw [hlo 181 (by decide), hlo 183 (by decide), hlo 182 (by decide), hlo 17 (by decide), hhi 232 (by decide), hhi 274 (by decide), hhi 264 (by decide), hhi 265 (by decide), c2, hruns, c3, hR.1, hlen, fN_nI (show j < 2147483648 by omega), c4, c1 17 (by decide)]
  exact ⟨Iff.rfl, fun _ => ⟨rfl, c5, c6, c7, fun z => absurd z.symm (nI_m1 (by omega))⟩⟩
end
section
/-! alike: play -/
/-- the class follows the attack as the reference does -/
theorem plC_next {σ τ G : kS} {n b R S C m j N r : Nat} {kl as ps : List Nat} {V B : Nat → Int32} {mm : Nat} (h : aJ σ n b R S C kl m) (h24 : as.length ≤ 24) (hj : j < as.length) (hG : plK σ G n b R S C kl as (fun s k => nnI (σ 197 (28 * (N - 1) + 7 * s + 1 + k))) j) (hC : plC σ τ G S j) (hV1 : ∀ p, p < 6 → V (6 * as[j] + p) = cit (bdv σ (fN (σ 255 as[j])) ((as.take j).count as[j] + 1) p) (nnI (σ 197 (28 * (N - 1) + 7 * as[j] + 1 + p))) (-6)) (hV2 : ∀ i, (∀ p, p < 6 → i ≠ 6 * as[j] + p) → V i = G 265 i) (hs : as[j] < S) (r1 : r < R) (r2 : σ 255 as[j] = nI r) (hps : ∀ p, p ∈ ps ↔ nbv σ r ((as.take j).count as[j]) p) (hps6 : ∀ p ∈ ps, p < 6) (hfl : flA (τ 182) B (τ 197) as[j] (28 * (N - 1)) ps) : plC σ (spS (va_up τ 182 B) as[j] j) (stS G V as[j] j ((as.take j).count as[j]) (nI mm)) S (j + 1) := by
  obtain ⟨c1, c2, c3, c4, c5, c6, c7⟩ := hC
  have hn := h.1.1.1
  have hR4 := h.1.2.1.1
  have hS4 := h.1.2.2.1.1
  have hfr : fN (σ 255 as[j]) = r := by rw [r2]; exact fN_nI (by omega)
  have hWa : τ 197 = σ 197 := c1 _ (by decide)
  obtain ⟨⟨g1, g2, g3, g4, g5⟩, g6, g7, g8, g9, g10, g11, g12, g13⟩ := hG.1
  have hdo : G 264 as[j] = nI ((as.take j).count as[j]) := by
    obtain ⟨-, -, -, r3, -⟩ := g10.2.2.2 _ hs
    exact r3
  have hB7 : ∀ s', B (7 * s') = τ 182 (7 * s') := fun s' => hfl.2 _ (fun p hp => by have := hps6 p hp; omega)
  have hold : ∀ p, p < 6 → nnI (τ 182 (7 * as[j] + 1 + p)) = cit (bdv σ r ((as.take j).count as[j]) p) (nnI (σ 197 (28 * (N - 1) + 7 * as[j] + 1 + p))) (-6) := fun p hp => by
    rw [(c6 _ hs).2 p hp, g12 _ (List.getElem_mem hj) p hp, bdv_vw hG.2.2, hG.2.2.1 255 (by decide) (by decide) (by decide) (by decide) (by decide), hfr]
  rw [hfr] at hV1
  have e181 : spS (va_up τ 182 B) as[j] j 181 = upd (upd (τ 181) 7 (nI (j + 1))) 9 (-1) := rfl
  have eat : spS (va_up τ 182 B) as[j] j 182 = upd B (7 * as[j]) (B (7 * as[j]) + Int32.ofInt 1) := rfl
  have emv : spS (va_up τ 182 B) as[j] j 183 = upd (τ 183) j (nI as[j]) := rfl
  refine ⟨fun c hc => ?_, ?_, ?_, ?_, fun i hi => ?_, fun s' hs' => ⟨?_, fun k hk => ?_⟩, fun s' hs' k hk ho => ?_⟩
  · unfold spS
    rw [up_ne (by omega), up_ne (by omega), up_ne (by omega), up_ne (by omega)]
    exact c1 c hc
  · rw [e181, pk_un (by decide), pk_un (by decide)]
    exact c2
  · rw [e181, pk_un (by decide), pk_us]
  · rw [e181, pk_us]
  · rw [emv]
    show upd (τ 183) j (nI as[j]) i = upd (G 274) j (nI as[j]) i
    by_cases e : i = j
    · subst e
      rw [pk_us, pk_us]
    · rw [pk_un e, pk_un e]
      exact c5 i (by omega)
  · rw [eat]
    show upd B (7 * as[j]) (B (7 * as[j]) + Int32.ofInt 1) (7 * s') = upd (G 264) as[j] (nI ((as.take j).count as[j] + 1)) s'
    by_cases e : s' = as[j]
    · rw [e, pk_us, pk_us, hB7, (c6 _ hs).1, hdo, ← nI_1]
      rfl
    · rw [pk_un (by omega), pk_un e, hB7]
      exact (c6 s' hs').1
  · rw [eat, pk_un (by omega)]
    show nnI (B (7 * s' + 1 + k)) = V (6 * s' + k)
    by_cases e : s' = as[j]
    · rw [e, hV1 k hk]
      by_cases q : k ∈ ps
      · have hb := (hps k).mp q
        rw [hfl.1 k q, hWa, cit_T hb.1, show 28 * (N - 1) + (7 * as[j] + 1 + k) = 28 * (N - 1) + 7 * as[j] + 1 + k by omega]
      · have hb : bdv σ r ((as.take j).count as[j] + 1) k ↔ bdv σ r ((as.take j).count as[j]) k := ⟨fun z => Classical.byContradiction (fun z2 => q ((hps k).mpr ⟨z, z2⟩)), bdv_mono (by omega)⟩
        rw [hfl.2 _ (fun p hp e2 => q (by
          have : k = p := by omega
          rw [this]
          exact hp)), hold k hk, cit_iff hb]
    · rw [hV2 _ (fun p hp => by omega), hfl.2 _ (fun p hp => by have := hps6 p hp; omega)]
      exact (c6 s' hs').2 k hk
  · rw [eat, pk_un (by omega)]
    by_cases e : s' = as[j]
    · have hnp : k ∉ ps := fun q => by
        have hb := (hps k).mp q
        have hk1 := hb.1.1
        have ha : σ 246 (6 * r + k) = nI 2 := Classical.byContradiction (fun z => hb.2 ⟨hk1, Or.inl z⟩)
        obtain ⟨r', q1, q2, -, q4⟩ := h.1.2.2.1.2.2 _ hs
        obtain rfl : r = r' := nI_inj (r2.symm.trans q2)
        obtain ⟨a, a1, a2⟩ := q4 k hk1
        have ha2 : a = 2 := by
          rcases a2 with ⟨z, -⟩ | ⟨z, -⟩
          · exact z
          · have := nI_inj (ha.symm.trans a1)
            omega
        rcases a2 with ⟨-, z⟩ | ⟨z, -⟩
        · have hop := (h.2.2.2.2.1 _ hs).2.2.1 k hk
          rw [hfr, if_pos hk1, z] at hop
          rw [e] at ho
          have hcv := h.2.1.2.2.1.2.2.2 _ k hs hk
          rw [show 0 + 7 * as[j] + 1 + k = 7 * as[j] + 1 + k by omega] at hcv
          rcases hcv with w | ⟨y, y1, y2, -⟩
          · exact ho w
          · rw [y2, nnI_nI (by omega)] at hop
            exact absurd (show nI y < 0 by rw [hop]; decide) (nI_pos (by omega))
        · omega
      rw [hfl.2 _ (fun p hp e2 => hnp (by
        have : k = p := by omega
        rw [this]
        exact hp))]
      exact c7 s' hs' k hk ho
    · rw [hfl.2 _ (fun p hp => by have := hps6 p hp; omega)]
      exact c7 s' hs' k hk ho
set_option maxRecDepth 100000 in
set_option maxHeartbeats 4000000 in
theorem bo_play (L : Nat) (xs : Nat → Int32) (d d' m : Nat) (σ : kS) (x : Int32) (hm : m < 2147483646) (h : bJ m σ) : kXM kT L xs (d + 56) 135 [.ref 0, .int x] σ (fun r τ => ∃ z, r = some (.int z) ∧ kXM kT L xs (d' + 8) 223 [.ref 232, .int x] τ (fun r' ω => r' = some (.int z) ∧ bJ (m + 1) ω)) := by
  have hb := bJ_up (Nat.le_succ m) h
  obtain ⟨n, b, R, S, C, kl, h⟩ := h
  have hJ := h.2.1
  have hn := h.1.1.1
  have hS4 := h.1.2.2.1.1
  have hRo := h.1.2.1
  have hR4 := hRo.1
  have hha : kXM kT L xs (d + 55) 77 [.ref 195] σ (fun r σ' => ((r = some (.int 0) ∧ σ 195 9 = -1) ∨ (r = some (.int 1) ∧ σ 195 9 ≠ -1)) ∧ σ = σ') := by
    unfold kXM
    repeat refine kX_one rfl ?_
    refine kX_if (fun q => ?_) (fun q => ?_)
    · have q : σ 195 9 = -1 := qeq q
      repeat refine kX_one rfl ?_
      refine kX_ret (i := .ireturn) (len := 1) rfl (Or.inr rfl) rfl (⟨Or.inl ⟨rfl, q⟩, rfl⟩)
    · have q : σ 195 9 ≠ -1 := qeqF q
      repeat refine kX_one rfl ?_
      refine kX_ret (i := .ireturn) (len := 1) rfl (Or.inr rfl) rfl (⟨Or.inr ⟨rfl, q⟩, rfl⟩)
  unfold kXM
  iterate 2 (refine kX_one rfl ?_)
  refine kX_cal hha rfl (Or.inr rfl) rfl rfl rfl (fun r1 σ1 q1 => ?_)
  obtain ⟨hq, rfl⟩ := q1
  rcases hq with ⟨rfl, hln⟩ | ⟨rfl, hln⟩
  · have hat : σ 232 72 = -6 := by
      have := h.2.2.2.2.2.2.2.2.1.2.2.2.1
      rw [hln] at this
      exact this.symm
    repeat refine kX_one rfl ?_
    refine kX_ret (i := .ireturn) (len := 1) rfl (Or.inr rfl) rfl (⟨_, rfl, ?_⟩)
    iterate 2 (refine kX_one rfl ?_)
    refine kX_top (hat) ?_
    repeat refine kX_one rfl ?_
    refine kX_ret (i := .ireturn) (len := 1) rfl (Or.inr rfl) rfl (⟨rfl, hb⟩)
  · obtain ⟨as, N, n1, n2, n3, n4, n5, n6, n7, ak⟩ := ak_of h hln
    have hno : (∀ k, k ≤ as.length → x ≠ nI k) → kXM kT L xs (d' + 8) 223 [.ref 232, .int x] σ (fun r' ω => r' = some (.int (-2)) ∧ bJ (m + 1) ω) := fun hx => mg_play L xs d' σ n b R S C kl as _ x _ h.1 n4 n6 ak (fun _ => ⟨rfl, hb⟩) (fun k _ _ _ hk e => absurd e (hx k hk))
    obtain ⟨N', rfl⟩ : ∃ N', N = N' + 1 := ⟨N - 1, by omega⟩
    rw [Nat.add_sub_cancel] at ak
    iterate 1 (refine kX_one rfl ?_)
    repeat refine kX_one rfl ?_
    refine kX_if (fun q => ?_) (fun q => ?_)
    · have q : x < 0 := of_decide_eq_true q
      repeat refine kX_one rfl ?_
      refine kX_ret (i := .ireturn) (len := 1) rfl (Or.inr rfl) rfl (⟨_, rfl, hno (fun k hk e => by rw [e] at q; exact nI_pos (by omega) q)⟩)
    · have q : ¬ x < 0 := of_decide_eq_false q
      obtain ⟨j, hj, rfl⟩ := nI_of q
      iterate 4 (refine kX_one rfl ?_)
      refine kX_top (n5) ?_
      repeat refine kX_one rfl ?_
      refine kX_if (fun q2 => ?_) (fun q2 => ?_)
      · have q2 := qle q2 j as.length
        have hcs : ∃ N2, N2 ≤ 600 ∧ σ 196 5 = nI N2 ∧ ∀ i, i < N2 → cV σ n S (σ 197) (28 * i) := by
          obtain ⟨N2, s1, s2, s3, -⟩ := hJ.2.2.2.2.2.2.2.2.2.1
          exact ⟨N2, s1, s2, s3⟩
        obtain ⟨N2, s1, s2, s3⟩ := hcs
        obtain rfl : N2 = N' + 1 := nI_inj (s2.symm.trans n3)
        have hcv := s3 N' (by omega)
        have loop : ∀ q : Nat × kS × kS, (q.1 ≤ j ∧ plK σ q.2.2 n b R S C kl as (fun s k => nnI (σ 197 (28 * N' + 7 * s + 1 + k))) q.1 ∧ plC σ q.2.1 q.2.2 S q.1 ∧ cJ q.2.1 n R S C) → kX kT L xs (d + 56) 135 40 [(2, .int (nI q.1)), (0, .ref 0), (1, .int (nI j))] [] q.2.1 (fun r τ => ∃ z, r = some (.int z) ∧ kXM kT L xs (d' + 8) 223 [.ref 232, .int (nI j)] τ (fun r' ω => r' = some (.int z) ∧ bJ (m + 1) ω)) := by
          refine kX_while (fun q : Nat × kS × kS => [(2, .int (nI q.1)), (0, .ref 0), (1, .int (nI j))]) (fun q => q.2.1) _ (fun q => j - q.1) ?_
          rintro ⟨i, τ, G⟩ ⟨i1, i2, i3, i4⟩ ih
          dsimp only at i1 i2 i3 i4 ih ⊢
          have ec := i3.1
          repeat refine kX_one rfl ?_
          refine kX_if (fun q3 => ?_) (fun q3 => ?_)
          · have q3 := qge q3 i j
            obtain rfl : i = j := by omega
            obtain ⟨hJu, hDu, hvw, hru⟩ := aJ_play h n4 q2 i2 i3 i4
            iterate 2 (refine kX_one rfl ?_)
            refine kX_cal (mf_intruder L xs d τ (hiS G τ) n b R S C m kl (as.take i) hvw hJu hm hru hDu) rfl (Or.inr rfl) rfl rfl rfl (fun r1 τ2 q1 => ?_)
            obtain ⟨rfl, u, m', l, hm', hQ⟩ := q1
            have eτ : ∀ c, 232 ≤ c → τ2 c = σ c := fun c hc => (inQ_cell hQ (by omega) (by omega) (by omega) (by omega)).trans (ec c (by omega))
            have hvw2 : vw τ2 (hiS G τ2) := by
              refine ⟨fun c a1 a2 a3 a4 a5 => ?_, fun i i1 i2' i3' => ?_⟩
              · by_cases q : 232 ≤ c
                · rw [hiS_hi G τ2 c q, i2.2.2.1 c a1 a2 a3 a4 a5, eτ c q]
                · exact hiS_lo G τ2 c (by omega)
              · rw [hiS_hi G τ2 232 (by decide), i2.2.2.2 i i1 i2' i3', eτ 232 (by decide)]
            have hhh : ∀ c, 232 ≤ c → hiS G τ2 c = hiS G τ c := fun c hc => (hiS_hi G τ2 c hc).trans (hiS_hi G τ c hc).symm
            have hQ2 := inQ_vw hQ hvw hvw2 hhh
            have hJ2 := inQ_J hJu hru hDu hQ2 hm'
            have hll : τ2 186 7 = nI (trRun (hiS G τ) kl (as.take i)).length := by
              rw [hQ.2.2.2.1.2.2.2.2.2.2.2.1.1, ← kTr_len (σ := τ2) (l := l), hQ.2.2.2.2.2.2.2]
            iterate 1 (refine kX_one rfl ?_)
            refine kX_ret (i := .ireturn) (len := 1) rfl (Or.inr rfl) rfl (⟨_, rfl, ?_⟩)
            rw [hll]
            have ak2 : akD τ2 n S as (fun s k => nnI (σ 197 (28 * N' + 7 * s + 1 + k))) := by
              rw [hiS_of eτ]
              exact ak
            refine mg_play L xs d' τ2 n b R S C kl as _ _ _ (mI_hi eτ h.1) n4 (by rw [eτ 232 (by decide)]; exact n6) ak2 (fun z => absurd rfl (z i q2)) (fun k ρ b' ω hk ek hρ hF hI => ?_)
            obtain rfl : i = k := nI_inj ek
            obtain ⟨x1, x2, x3, x4, x5⟩ := plK_same i2 hρ eτ
            obtain ⟨hIρ, hRρ⟩ := plK_I hρ n4
            have hlow : ∀ c, c < 232 → ρ c = τ2 c := fun c hc => vw_low hρ.2.2 hc
            have hkk : ∀ u, u < 200 → ρ 233 u = G 233 u ∧ ρ 234 u = G 234 u ∧ ρ 235 u = G 235 u := fun u _ => by
              rw [x1 233 (by decide) (by decide) (by decide) (by decide) (by decide), x1 234 (by decide) (by decide) (by decide) (by decide) (by decide), x1 235 (by decide) (by decide) (by decide) (by decide) (by decide)]
              exact ⟨rfl, rfl, rfl⟩
            obtain ⟨hIG, hRG⟩ := plK_I i2 n4
            have htr : trRun ρ kl (as.take i) = trRun G kl (as.take i) := trRun_cg hIG.1 hIG.2.1 hIG.2.2.2.1 hRG hkk (eqC_of (P := fun c => 232 < c ∧ c ≠ 264 ∧ c ≠ 265 ∧ c ≠ 274 ∧ c ≠ 275) (fun c q => x1 c q.1 q.2.1 q.2.2.1 q.2.2.2.1 q.2.2.2.2) _ (by decide)) x4
            have hlen : (as.take i).length = i := by rw [List.length_take]; omega
            have hJρ : aJ ρ n b R S C kl (m + 1) := by
              refine aJ_run2 hJ2 hIρ (cJ_low (fun c hc => (hlow c hc).trans (hiS_lo G τ2 c hc).symm) hJ2.2.1) (fun c hc => (hlow c (by omega)).trans (hiS_lo G τ2 c (by omega)).symm) (fun c a1 a2 a3 a4 a5 => (x1 c a1 a2 a3 a4 a5).trans (hiS_hi G τ2 c (by omega)).symm) (fun jj _ _ _ => (x2 jj).trans (congrFun (hiS_hi G τ2 232 (by decide)) jj).symm) ?_
              have hU := hJ2.2.2.2.2.2.2.2.1
              unfold aU at hU ⊢
              rw [hiS_lo G τ2 181 (by decide), hiS_lo G τ2 183 (by decide), hiS_lo G τ2 182 (by decide), hiS_lo G τ2 17 (by decide), hiS_hi G τ2 232 (by decide), hiS_hi G τ2 274 (by decide), hiS_hi G τ2 264 (by decide), hiS_hi G τ2 265 (by decide)] at hU
              rw [hlow 181 (by decide), hlow 183 (by decide), hlow 182 (by decide), hlow 17 (by decide), x2 52, x2 55]
              refine ⟨hU.1, fun z => ?_⟩
              obtain ⟨u1, u2, u3, u4, u5⟩ := hU.2 z
              have hdid : fN (G 232 55) = (as.take i).length := by rw [hRG.1]; exact fN_nI (by omega)
              refine ⟨u1, fun i' hi' => ?_, fun s hs => ⟨by rw [x3 s hs]; exact (u3 s hs).1, fun k hk => by rw [x4 s k hs hk]; exact (u3 s hs).2 k hk⟩, u4, fun hg => ?_⟩
              · rw [x5 i' (by rw [← hdid]; exact hi')]
                exact u2 i' hi'
              · obtain ⟨ds, d1, d2, d3, d4, d5⟩ := u5 hg
                have e : as.take i = ds := lst_inj (by omega) d3 (fun s hs => by have := hRG.2.2.1 s hs; omega) (fun s hs => by have := d4 s hs; omega) (hRG.1.symm.trans d1) hRG.2.1 d2
                subst e
                refine ⟨as.take i, d1, hRρ.2.1, d3, d4, ?_⟩
                rw [htr]
                rw [trRun_hi (hiS_hi G τ2)] at d5
                exact kOk_eq (fun c c1 c2 => (hlow c (by omega)).trans (hiS_lo G τ2 c (by omega)).symm) (fun c c1 c2 => (hlow c (by omega)).trans (hiS_lo G τ2 c (by omega)).symm) (fun t ht => (hkk t ht).1.trans (congrFun (hiS_hi G τ2 233 (by decide)) t).symm) ((x1 _ (by decide) (by decide) (by decide) (by decide) (by decide)).trans (hiS_hi G τ2 238 (by decide)).symm) d5
            refine ⟨by rw [htr, trRun_hi (hiS_hi G τ)], bJ_fr hJρ (mLow_fr hF) hF hI⟩
          · have q3 := qgeF q3 i j
            have hi : i < as.length := by omega
            obtain ⟨hs, hcnt, -⟩ := ak.2.1 _ (List.getElem_mem hi)
            obtain ⟨r, r1, r2, -⟩ := h.1.2.2.1.2.2 _ hs
            have hfr : fN (σ 255 as[i]) = r := by rw [r2]; exact fN_nI (by omega)
            obtain ⟨-, ev, ev6, ev2⟩ := hRo.2.2.1 r r1
            have hfe : fN (σ 247 r) = ev := by rw [ev2]; exact fN_nI (by omega)
            have hcle : (as.take i).count as[i] + 1 ≤ as.count as[i] := by
              rw [← count_take_succ hi]
              exact count_take_le _ _ _
            rw [hfr, hfe] at hcnt
            have hdn : (as.take i).count as[i] < ev := by omega
            have hR1 := h.2.2.2.1 r r1
            have hE := hR1.2.2.2.2 _ (by rw [hfe]; exact hdn)
            have hdo : G 264 as[i] = nI ((as.take i).count as[i]) := by
              obtain ⟨-, -, -, r3, -⟩ := i2.1.2.2.2.2.2.1.2.2.2 _ hs
              exact r3
            obtain ⟨ps, ps1, ps2, ps3, ps4⟩ : ∃ ps : List Nat, σ (28 + 35 * r + 5 * (as.take i).count as[i]) 4 = nI ps.length ∧ ps.length ≤ 6 ∧ (∀ k (hk : k < ps.length), (ps[k]'hk) < 6 ∧ σ (28 + 35 * r + 5 * (as.take i).count as[i] + 1) k = nI (ps[k]'hk)) ∧ ∀ p, p ∈ ps ↔ nbv σ r ((as.take i).count as[i]) p := by
              by_cases h0 : σ 249 (6 * r + (as.take i).count as[i]) = 0
              · obtain ⟨t, t1, t2, -⟩ := hRo.2.2.2.2.2 r _ r1 (show (as.take i).count as[i] < fN (σ 247 r) by omega)
                obtain ⟨hev, -⟩ := ev_facts (τ := σ) h ⟨sF_of (fun _ _ => rfl), fun _ _ => rfl, hJ.2.2.2.2.2.2.1, hJ.2.2.2.2.2.2.2.1, hJ.2.2.2.2.2.2.2.2.2.2⟩ r1 (show (as.take i).count as[i] < fN (σ 247 r) by omega) h0 t1 t2
                obtain ⟨v1, v2, v3, v4, -⟩ := hev
                refine ⟨owP σ r ((as.take i).count as[i]), by rw [v2]; exact v1, by rw [v2]; exact v3, v4, fun p => ?_⟩
                rw [nbv_bls h.1.1 hRo r1 (by omega)]
                unfold owP
                rw [List.mem_map]
                exact ⟨fun z => ⟨h0, z⟩, fun z => z.2⟩
              · refine ⟨[], hE.2.2.1 h0, Nat.zero_le _, fun k hk => absurd hk (Nat.not_lt_zero k), fun p => ?_⟩
                rw [nbv_bls h.1.1 hRo r1 (by omega)]
                exact ⟨fun z => absurd z (List.not_mem_nil), fun z => absurd z.1 h0⟩
            have hps6 : ∀ p ∈ ps, p < 6 := fun p hp => by
              obtain ⟨k, hk, rfl⟩ := List.getElem_of_mem hp
              exact (ps3 k hk).1
            iterate 6 (refine kX_one rfl ?_)
            refine kX_ialdV rfl rfl (by decide) (i) (by first | rfl | decide) (by omega) ((congrFun (ec _ (by decide)) i).trans (n7 i hi)) ?_
            iterate 6 (refine kX_one rfl ?_)
            refine kX_cal (mc_attackBase L xs (d + 54) τ N' (by omega) (by rw [ec 196 (by decide)]; exact n3)) rfl (Or.inr rfl) rfl rfl rfl (fun r1 σ1 q1 => ?_)
            obtain ⟨rfl, rfl⟩ := q1
            refine kX_cal (mf_follow L xs (d + 52) τ n R S C as[i] (28 * N') r ((as.take i).count as[i]) ev i ps i4 i3.2.1 hs (by omega) (by rw [ec 197 (by decide)]; exact cV_eq (fun z _ => by rw [ec 8 (by decide)]) hcv) r1 (by rw [ec 15 (by decide)]; exact (h.2.2.2.2.1 _ hs).1.trans r2) (by rw [ec (23 + 35 * r) (by omega)]; exact hR1.2.1.trans ev2) ev6 hdn (((i3.2.2.2.2.2.1 _ hs).1).trans hdo) (by rw [ec _ (by omega)]; exact ps1) (fun k hk => by rw [ec (28 + 35 * r + 5 * (as.take i).count as[i] + 1) (by omega)]; exact ps3 k hk) ps2 (by omega) i3.2.2.1) rfl (Or.inr rfl) rfl rfl rfl (fun r1 ω q1 => ?_)
            obtain ⟨rfl, B, hfl, hω, hJω⟩ := q1
            obtain ⟨V, mm, hK2, hV1, hV2⟩ := plK_next i2 n4 hi
            have hC2 := plC_next (N := N' + 1) (mm := mm) h n4 hi i2 i3 hV1 hV2 hs (by assumption) r2 ps4 hps6 hfl
            rw [← hω] at hC2
            iterate 2 (refine kX_one rfl ?_)
            have := ih (i + 1, ω, _) ⟨q3, hK2, hC2, hJω⟩ (by simp only; omega)
            dsimp only at this
            rw [← nI_1] at this
            exact kX_lv _ rfl rfl rfl this
        iterate 2 (refine kX_one rfl ?_)
        refine kX_cal (mf_runStart L xs (d + 54) σ n R S C hJ) rfl (Or.inr rfl) rfl rfl rfl (fun r1 τ q1 => ?_)
        obtain ⟨rfl, e1, hJ1⟩ := q1
        obtain ⟨G, hG⟩ := plK_ex h.1 n4 n6 ak 0 (Nat.zero_le _)
        have hC0 : plC σ τ G S 0 := by
          obtain ⟨⟨g1, g2, g3, g4, g5⟩, g6, g7, g8, g9, g10, g11, g12, g13⟩ := hG.1
          rw [e1]
          refine ⟨fun c hc => by rw [up_ne (by omega), up_ne (by omega)], rfl, rfl, rfl, fun i hi => absurd hi (Nat.not_lt_zero i), fun s hs => ⟨?_, fun k hk => ?_⟩, fun s hs k hk _ => ?_⟩
          · show va_cpy (σ 17) (σ 182) 0 0 28 (7 * s) = G 264 s
            rw [cpy_at (by omega), (h.2.2.2.2.1 s hs).2.1]
            obtain ⟨-, -, -, r3, -⟩ := g10.2.2.2 s hs
            rw [r3]
            rfl
          · show nnI (va_cpy (σ 17) (σ 182) 0 0 28 (7 * s + 1 + k)) = G 265 (6 * s + k)
            rw [cpy_at (by omega), (h.2.2.2.2.1 s hs).2.2.1 k hk]
            have hsr : G 255 = σ 255 := hG.2.2.1 _ (by decide) (by decide) (by decide) (by decide) (by decide)
            have hva : G 244 = σ 244 := hG.2.2.1 _ (by decide) (by decide) (by decide) (by decide) (by decide)
            have haf : G 256 = σ 256 := hG.2.2.1 _ (by decide) (by decide) (by decide) (by decide) (by decide)
            by_cases q : s ∈ as
            · obtain ⟨c1, c2, c3⟩ := ak.2.1 s q
              obtain ⟨r, r1, r2, -, q4⟩ := h.1.2.2.1.2.2 s hs
              have hfr : fN (σ 255 s) = r := by rw [r2]; exact fN_nI (by omega)
              rw [g12 s q k hk, bdv_vw hG.2.2, hsr, hfr]
              rw [hfr] at c3
              by_cases hb : bdv σ r 0 k
              · have ha : σ 246 (6 * r + k) ≠ nI 2 := hb.2.elim id (fun ⟨e, e1, _⟩ => absurd e1 (Nat.not_lt_zero e))
                rw [List.take_zero, List.count_nil, cit_T hb, if_pos hb.1, (c3 k hk (bdv_mono (Nat.zero_le _) hb)).2 ha]
              · rw [List.take_zero, List.count_nil, cit_F hb]
                by_cases hk1 : k < fN (σ 244 r)
                · rw [if_pos hk1]
                  obtain ⟨a, a1, a2⟩ := q4 k hk1
                  have ha : σ 246 (6 * r + k) = nI 2 := Classical.byContradiction (fun z => hb ⟨hk1, Or.inl z⟩)
                  rcases a2 with ⟨-, z⟩ | ⟨z, -⟩
                  · exact z
                  · have := nI_inj (ha.symm.trans a1)
                    omega
                · rw [if_neg hk1]
            · rw [hG.2.1 s hs q k hk, hsr, hva, haf]
          · show va_cpy (σ 17) (σ 182) 0 0 28 (7 * s + 1 + k) = _
            rw [cpy_at (by omega)]
        iterate 2 (refine kX_one rfl ?_)
        exact kX_lv _ rfl rfl rfl (loop (0, τ, G) ⟨Nat.zero_le _, hG, hC0, hJ1⟩)
      · have q2 := qleF q2 j as.length
        repeat refine kX_one rfl ?_
        refine kX_ret (i := .ireturn) (len := 1) rfl (Or.inr rfl) rfl (⟨_, rfl, hno (fun k hk e => by have := nI_inj e; omega)⟩)
end
