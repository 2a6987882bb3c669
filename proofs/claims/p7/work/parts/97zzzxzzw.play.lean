/-! alike: play, both RUNS -/
theorem last_occ {l : List Nat} {s : Nat} : ∀ m, m ≤ l.length → 0 < (l.take m).count s → ∃ i, ∃ (h : i < l.length), i < m ∧ l[i]'h = s ∧ (l.take i).count s + 1 = (l.take m).count s
  | 0, _, h => by
    rw [List.take_zero] at h
    exact absurd h (by simp)
  | m + 1, hm, h => by
    have hm' : m < l.length := hm
    have e := cnt_take (ds := l) (s := l[m]) hm' rfl s
    by_cases q : s = l[m]
    · rw [if_pos q] at e
      exact ⟨m, hm', by omega, q.symm, e.symm⟩
    · rw [if_neg q, Nat.add_zero] at e
      rw [e] at h ⊢
      obtain ⟨i, hi, i1, i2, i3⟩ := last_occ m (by omega) h
      exact ⟨i, hi, by omega, i2, i3⟩
/-- the attack, with what the class has -/
theorem ak_of {σ : kS} {n b R S C m : Nat} {kl : List Nat} (h : aJ σ n b R S C kl m) (hln : σ 195 9 ≠ -1) : ∃ (as : List Nat) (N : Nat), 0 < N ∧ N ≤ 600 ∧ σ 196 5 = nI N ∧ as.length ≤ 24 ∧ σ 195 9 = nI as.length ∧ σ 232 72 = nI as.length ∧ lst (σ 203) as ∧ akD σ n S as (fun s k => nnI (σ 197 (28 * (N - 1) + 7 * s + 1 + k))) := by
  obtain ⟨f1, f2, f3, f4, -, f6⟩ := h.2.2.2.2.2.2.2.2.1
  obtain ⟨as, N, n1, n2, n3, n4, n5, n6, n7, n8, n9⟩ := f6 hln
  have hS4 := h.1.2.2.1.1
  refine ⟨as, N, n1, n2, f1.trans n3, n4, ?_, n5, n7, n6, fun s hs => ?_, n9⟩
  · rw [n5] at f4
    unfold nnI at f4
    rw [if_neg hln] at f4
    exact f4
  · obtain ⟨s1, s2⟩ := n8 s hs
    refine ⟨s1, s2, fun k hk hb => ?_⟩
    rcases h.1.2.2.2.2.2.2 with q | ⟨as2, fin, a0, a1, a2, a3, a4⟩
    · rw [n5] at q
      exact absurd (show nI as.length < 0 by rw [q]; decide) (nI_pos (by omega))
    · obtain rfl : as2 = as := lst_inj a0 n4 (fun s hs => by have := (a3 s hs).1; omega) (fun s hs => by have := (n8 s hs).1; omega) (a1.symm.trans n5) a2 n6
      obtain ⟨i, hi, -, i2, i3⟩ := last_occ (l := as2) (s := s) as2.length (Nat.le_refl _) (by rw [List.take_length]; exact List.count_pos_iff.mpr hs)
      rw [List.take_length] at i3
      obtain ⟨st, t1, t2, t3⟩ := n9 i hi
      obtain ⟨st', t1', t2', t3'⟩ := a4 i hi
      obtain rfl : st = st' := nI_inj (t2.symm.trans t2')
      have e1 := t3 k hk
      rw [t3' k hk] at e1
      rw [i2, i3, cit_T hb, cit_T hb] at e1
      obtain ⟨-, -, c3⟩ := a3 s hs
      have := c3 k hk hb
      rw [e1] at this
      exact this
theorem bdv_vw {σ G : kS} (h : vw σ G) : bdv G = bdv σ := by
  have e := vw_c h [244, 246, 249, 245, 233, 234, 235, 248] (by decide)
  funext r dn k
  unfold bdv
  rw [e 244 (by decide), e 246 (by decide), e 249 (by decide), e 245 (by decide), e 233 (by decide), e 234 (by decide), e 235 (by decide), e 248 (by decide)]
/-- the next EVENT of the attack -/
theorem plK_next {σ G : kS} {n b R S C k : Nat} {kl as : List Nat} {fin : Nat → Nat → Int32} (hG : plK σ G n b R S C kl as fin k) (h24 : as.length ≤ 24) (hk : k < as.length) : ∃ V m, plK σ (stS G V as[k] k ((as.take k).count as[k]) (nI m)) n b R S C kl as fin (k + 1) ∧ (∀ p, p < 6 → V (6 * as[k] + p) = cit (bdv σ (fN (σ 255 as[k])) ((as.take k).count as[k] + 1) p) (fin as[k] p) (-6)) ∧ ∀ j, (∀ p, p < 6 → j ≠ 6 * as[k] + p) → V j = G 265 j := by
  obtain ⟨st, t1, t2, t3⟩ := hG.1.2.2.2.2.1.2.2 k hk
  obtain ⟨m, m1, m2⟩ := bits6 (fun p => G 285 (24 * st + 6 * as[k] + p) ≠ G 265 (6 * as[k] + p)) 6 (Nat.le_refl _)
  have hV : ∀ p, p < 6 → (fun j => if j / 6 = as[k] then G 285 (24 * st + j) else G 265 j) (6 * as[k] + p) = G 285 (24 * st + 6 * as[k] + p) := fun p hp => by
    show (if (6 * as[k] + p) / 6 = as[k] then G 285 (24 * st + (6 * as[k] + p)) else _) = _
    rw [if_pos (by omega), show 24 * st + (6 * as[k] + p) = 24 * st + 6 * as[k] + p by omega]
  have hVo : ∀ j, (∀ p, p < 6 → j ≠ 6 * as[k] + p) → (fun j => if j / 6 = as[k] then G 285 (24 * st + j) else G 265 j) j = G 265 j := fun j hj => by
    show (if j / 6 = as[k] then _ else G 265 j) = _
    rw [if_neg (fun e => hj (j % 6) (by omega) (by omega))]
  refine ⟨_, m, plK_step (st := st) hG hk h24 t2 t1 m1 (fun p hp => ?_) hV hVo, fun p hp => ?_, hVo⟩
  · rw [m2 p hp]
    exact ⟨fun z => z.2, fun z => ⟨hp, z⟩⟩
  · refine (hV p hp).trans ?_
    rw [t3 p hp, bdv_vw hG.2.2, hG.2.2.1 255 (by decide) (by decide) (by decide) (by decide) (by decide)]
/-- two RUNS of one attack -/
theorem plK_same {σ τ G ρ : kS} {n b R S C k : Nat} {kl as : List Nat} {fin : Nat → Nat → Int32} (hG : plK σ G n b R S C kl as fin k) (hP : plK τ ρ n b R S C kl as fin k) (hi : ∀ c, 232 ≤ c → τ c = σ c) : (∀ c, 232 < c → c ≠ 264 → c ≠ 265 → c ≠ 274 → c ≠ 275 → ρ c = G c) ∧ (∀ j, ρ 232 j = G 232 j) ∧ (∀ s, s < S → ρ 264 s = G 264 s) ∧ (∀ s v, s < S → v < 6 → ρ 265 (6 * s + v) = G 265 (6 * s + v)) ∧ ∀ i, i < (as.take k).length → ρ 274 i = G 274 i := by
  have hc : ∀ c, 232 < c → c ≠ 264 → c ≠ 265 → c ≠ 274 → c ≠ 275 → ρ c = G c := fun c c1 c2 c3 c4 c5 => by rw [hP.2.2.1 c (by omega) c2 c3 c4 c5, hG.2.2.1 c (by omega) c2 c3 c4 c5, hi c (by omega)]
  obtain ⟨⟨g1, g2, g3, g4, g5⟩, g6, g7, g8, g9, g10, g11, g12, g13⟩ := hG.1
  obtain ⟨⟨p1, p2, p3, p4, p5⟩, p6, p7, p8, p9, p10, p11, p12, p13⟩ := hP.1
  have hb : bdv ρ = bdv G := by
    have hst : bdv τ = bdv σ := by
      funext r dn k
      unfold bdv
      rw [hi 244 (by decide), hi 246 (by decide), hi 249 (by decide), hi 245 (by decide), hi 233 (by decide), hi 234 (by decide), hi 235 (by decide), hi 248 (by decide)]
    rw [bdv_vw hP.2.2, bdv_vw hG.2.2, hst]
  have hsr : ρ 255 = G 255 := hc _ (by decide) (by decide) (by decide) (by decide) (by decide)
  refine ⟨hc, fun j => ?_, fun s hs => ?_, fun s v hs hv => ?_, fun i hi' => ?_⟩
  · by_cases j1 : j = 52
    · rw [j1, p6, g6]
    · by_cases j2 : j = 55
      · rw [j2, p10.1, g10.1]
      · by_cases j3 : j = 47
        · rw [j3, p7, g7]
        · rw [hP.2.2.2 j j1 j2 j3, hG.2.2.2 j j1 j2 j3, hi 232 (by decide)]
  · obtain ⟨-, -, -, r3, -⟩ := p10.2.2.2 s hs
    obtain ⟨-, -, -, r3', -⟩ := g10.2.2.2 s hs
    rw [r3, r3']
  · by_cases q : s ∈ as
    · rw [p12 s q v hv, g12 s q v hv, hb, hsr]
    · rw [hP.2.1 s hs q v hv, hG.2.1 s hs q v hv, hsr, hc 244 (by decide) (by decide) (by decide) (by decide) (by decide), hc 256 (by decide) (by decide) (by decide) (by decide) (by decide)]
  · rw [p10.2.1 i hi', g10.2.1 i hi']
theorem plK_I {σ G : kS} {n b R S C k : Nat} {kl as : List Nat} {fin : Nat → Nat → Int32} (hG : plK σ G n b R S C kl as fin k) (h24 : as.length ≤ 24) : mI G n b R S C kl ∧ mRn G n R S (as.take k) := by
  obtain ⟨⟨g1, g2, g3, g4, g5⟩, g6, g7, g8, g9, g10, g11, g12, g13⟩ := hG.1
  exact ⟨⟨g1, g2, g3, g4, g5, Or.inr ⟨g6, as.take k, g10, g11, Or.inl g7⟩, Or.inr ⟨as, fin, h24, g8, g9.1, g9.2.1, g9.2.2⟩⟩, g10⟩
theorem hiS_hi (G τ : kS) : ∀ c, 232 ≤ c → hiS G τ c = G c := fun c hc => if_pos hc
theorem hiS_lo (G τ : kS) : ∀ c, c < 232 → hiS G τ c = τ c := fun c hc => if_neg (by omega)
/-- both RUNS are alike -/
theorem aJ_play {σ τ G : kS} {n b R S C m j : Nat} {kl as : List Nat} {fin : Nat → Nat → Int32} (h : aJ σ n b R S C kl m) (h24 : as.length ≤ 24) (hj : j ≤ as.length) (hG : plK σ G n b R S C kl as fin j) (hC : plC σ τ G S j) (hJ : cJ τ n R S C) : aJ (hiS G τ) n b R S C kl m ∧ mRn (hiS G τ) n R S (as.take j) ∧ vw τ (hiS G τ) ∧ hiS G τ 232 52 ≠ 0 := by
  obtain ⟨hI, hR⟩ := plK_I hG h24
  obtain ⟨c1, c2, c3, c4, c5, c6, c7⟩ := hC
  have hhi := hiS_hi G τ
  have hlo := hiS_lo G τ
  have hn := h.1.1.1
  have hlen : (as.take j).length = j := by rw [List.length_take]; omega
  have hruns : G 232 52 = 1 := hG.1.2.1
  have hvw : vw τ (hiS G τ) := by
    refine ⟨fun c a1 a2 a3 a4 a5 => ?_, fun i i1 i2 i3 => ?_⟩
    · by_cases q : 232 ≤ c
      · rw [hhi c q, hG.2.2.1 c a1 a2 a3 a4 a5, c1 c (by omega)]
      · exact hlo c (by omega)
    · rw [hhi 232 (by decide), hG.2.2.2 i i1 i2 i3, c1 232 (by decide)]
  refine ⟨aJ_run2 h (mI_hi hhi hI) (cJ_low hlo hJ) (fun c hc => (hlo c (by omega)).trans (c1 c (by omega))) (fun c a1 a2 a3 a4 a5 => (hhi c (by omega)).trans (hG.2.2.1 c (by omega) a2 a3 a4 a5)) (fun i i1 i2 i3 => by rw [hhi 232 (by decide)]; exact hG.2.2.2 i i1 i2 i3) ?_, mRn_hi hhi hR, hvw, by rw [hhi 232 (by decide), hruns]; decide⟩
  unfold aU
  rw [hlo 181 (by decide), hlo 183 (by decide), hlo 182 (by decide), hlo 17 (by decide), hhi 232 (by decide), hhi 274 (by decide), hhi 264 (by decide), hhi 265 (by decide), c2, hruns, c3, hR.1, hlen, fN_nI (show j < 2147483648 by omega), c4, c1 17 (by decide)]
  exact ⟨Iff.rfl, fun _ => ⟨rfl, c5, c6, c7, fun z => absurd z.symm (nI_m1 (by omega))⟩⟩
