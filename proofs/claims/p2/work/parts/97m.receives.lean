section
/-! the reference: receives -/
def rcB (σ τ : kS) (n R S N : Nat) (op : List Nat) : Prop := mSf σ τ n ∧ (∃ N', N ≤ N' ∧ mSs τ n R S N') ∧ (∀ i, i < N → (∀ u, u < S → stD τ i u = stD σ i u) ∧ ∀ u k, u < S → k < 6 → stV τ i (6 * u + k) = stV σ i (6 * u + k)) ∧ lst (τ 292) op
def rcR (τ : kS) (n : Nat) : Prop := ∃ b l, b ≤ 776 ∧ mTb τ n b ∧ mRq τ (mvG τ n b) l ∧ mJd τ n b l
def rcD (σ τ : kS) (S i : Nat) : Prop := ∀ u, u < S → τ 264 u = stD σ i u
def rcV (σ τ : kS) (S i s : Nat) (op : List Nat) : Prop := ∀ u k, u < S → k < 6 → (∀ p (h : p < op.length), 6 * u + k ≠ 6 * s + fN (σ 241 op[p])) → τ 265 (6 * u + k) = stV σ i (6 * u + k)
/-- what receives leaves -/
def rcP (σ τ : kS) (n R S C N i : Nat) (r : Option Value) : Prop := ∃ N', N ≤ N' ∧ ceR C N' r ∧ mSf σ τ n ∧ (∃ b, mTb τ n b) ∧ mSs τ n R S N' ∧ (∀ i, i < N → (∀ u, u < S → stD τ i u = stD σ i u) ∧ ∀ u k, u < S → k < 6 → stV τ i (6 * u + k) = stV σ i (6 * u + k)) ∧ (r = some (.int (-6)) → rcR τ n ∧ rcD σ τ S i ∧ ∀ u k, u < S → k < 6 → τ 265 (6 * u + k) = stV σ i (6 * u + k))
set_option maxRecDepth 100000 in
set_option maxHeartbeats 4000000 in
theorem mr_rc_end (L : Nat) (xs : Nat → Int32) (d : Nat) (σ τ : kS) (n R S C N i : Nat) (op : List Nat) (hSe : mSe σ n R S) (hN : N ≤ 600) (hi : i < N) (hB : rcB σ τ n R S N op) (hR : rcR τ n) (s t : Int32) :
    kX kT L xs (d + 2) 217 414 [(0, .ref 232), (1, .int (nI i)), (2, .int s), (3, .int t)] [] τ (fun r σ' => rcP σ σ' n R S C N i r) := by
  obtain ⟨b1, ⟨N', n1, n2⟩, b3, b4⟩ := hB
  have hse : τ 232 27 = nI S := (b1.2.1 _ (by decide) (by decide)).trans hSe.2.1
  have hS4 := hSe.1
  iterate 2 (refine kX_one rfl ?_)
  refine kX_cal (mr_takeState L xs d τ S i hse hSe.1 (by omega)) rfl (Or.inr rfl) rfl rfl rfl (fun r1 σ1 q1 => ?_)
  obtain ⟨rfl, D, V, rfl, hD, hV⟩ := q1
  obtain ⟨b, l, e1, e2, e3, e4⟩ := hR
  repeat refine kX_one rfl ?_
  refine kX_ret (i := .ireturn) (len := 1) rfl (Or.inr rfl) rfl ⟨N', n1, Or.inl rfl, mSf_trans b1 (mSf_trans (mSf_up (c := 264) (by decide)) (mSf_up (c := 265) (by decide))), ⟨b, e2⟩, n2, b3, fun _ => ⟨⟨b, l, e1, e2, e3, e4⟩, fun u hu => ?_, fun u k hu hk => ?_⟩⟩
  · show D u = _
    rw [hD u hu]
    exact (b3 i hi).1 u hu
  · show V (6 * u + k) = _
    rw [hV u k hu hk, ← (b3 i hi).2 u k hu hk]
    show _ = τ 285 (24 * i + (6 * u + k))
    rw [show 24 * i + (6 * u + k) = 24 * i + 6 * u + k by omega]
set_option maxRecDepth 100000 in
set_option maxHeartbeats 4000000 in
theorem mr_rc_turn (L : Nat) (xs : Nat → Int32) (d : Nat) (σ τ : kS) (n b0 R S C N i s : Nat) (op : List Nat) (c : Nat → Nat) (h : mTb σ n b0) (hSe : mSe σ n R S) (hN : N ≤ 600) (hi : i < N) (h6 : op.length ≤ 6) (h200 : ∀ u ∈ op, u < 200) (hz : ∀ u ∈ op, ∃ z, z < n ∧ ofs σ u z) (hB : rcB σ τ n R S N op) (hR : rcR τ n) (hD : rcD σ τ S i) (hV : rcV σ τ S i s op) (hC : chI σ n op (τ 293) c 0 op.length) (sv t : Int32) (my : Int64)
    (ih : ∀ τ' c', rcB σ τ' n R S N op → rcR τ' n → rcD σ τ' S i → rcV σ τ' S i s op → chI σ n op (τ' 293) c' 0 op.length → oM c' op.length < oM c op.length → kX kT L xs (d + 3) 217 192 [(7, .int 1), (0, .ref 232), (1, .int (nI i)), (2, .int sv), (3, .int t), (4, .int (nI op.length)), (5, .long my)] [] τ' (fun r σ' => rcP σ σ' n R S C N i r)) :
    kX kT L xs (d + 3) 217 308 [(0, .ref 232), (1, .int (nI i)), (2, .int sv), (3, .int t), (4, .int (nI op.length)), (5, .long my)] [] τ (fun r σ' => rcP σ σ' n R S C N i r) := by
  have hn := h.1
  have hR0 := hR
  obtain ⟨b, l, e1, e2, e3, e4⟩ := hR
  have hofs : ∀ u z, z < n → (ofs τ u z ↔ ofs σ u z) := fun u z hz' => ofs_sf h hB.1 hz'
  have hz2 : ∀ u ∈ op, ∃ z, z < n ∧ ofs τ u z := fun u hu => by
    obtain ⟨z, z1, z2⟩ := hz u hu
    exact ⟨z, z1, (hofs u z z1).mpr z2⟩
  have hC2 : chI τ n op (τ 293) c 0 op.length := fun p hp a1 a2 => by
    obtain ⟨c1, c2, c3⟩ := hC p hp a1 a2
    exact ⟨c1, c2, (hofs _ _ c2).mpr c3⟩
  iterate 4 (refine kX_one rfl ?_)
  have hdown := mr_rc_down L xs d τ n b op c e2 h6 hB.2.2.2 h200 hz2 (nI i) sv t my (fun r σ' => rcP σ σ' n R S C N i r) (fun K CH c' hK g1 g2 g3 => ?_) (op.length, τ 293, c) ⟨Nat.le_refl _, hC2, fun p _ => rfl⟩
  · refine kX_to _ _ rfl rfl rfl ?_ hdown
    funext c; unfold  va_up; repeat' split
    all_goals first | rfl | omega | (subst_vars; rfl) | (funext j; unfold upd; repeat' split; all_goals first | rfl | omega | (subst_vars; rfl))
  · have hB' : ∀ CH', rcB σ (va_up τ 293 CH') n R S N op := fun CH' => ⟨mSf_trans hB.1 (mSf_up (by decide)), hB.2.1, hB.2.2.1, hB.2.2.2⟩
    have hR' : ∀ CH', rcR (va_up τ 293 CH') n := fun CH' => ⟨b, l, e1, e2, e3, e4⟩
    rcases Nat.eq_zero_or_pos K with rfl | hKp
    · iterate 9 (refine kX_one rfl ?_)
      exact kX_lv _ rfl rfl rfl (mr_rc_end L xs (d + 1) σ (va_up τ 293 CH) n R S C N i op hSe hN hi (hB' CH) (hR' CH) sv t)
    · obtain ⟨k, rfl⟩ : ∃ k, K = k + 1 := ⟨K - 1, by omega⟩
      have hk : k < op.length := hK
      obtain ⟨w1, w2, w3⟩ := g1 k hk (Nat.zero_le _) hk
      have ek := g2 k (by omega)
      obtain ⟨z0, z01, z02, z03⟩ := g3 k hk rfl
      have hmem : op[k] ∈ op := List.getElem_mem hk
      rw [nI_pred]
      iterate 1 (refine kX_one rfl ?_)
      repeat refine kX_one rfl ?_
      refine kX_ifF (decide_eq_false (nI_pos (by omega))) ?_
      iterate 12 (refine kX_one rfl ?_)
      refine kX_ialdV rfl rfl (by decide) (k) (by first | rfl | decide) (by omega) (hB.2.2.2 k hk) ?_
      iterate 3 (refine kX_one rfl ?_)
      refine kX_ialdV rfl rfl (by decide) (k) (by first | rfl | decide) (by omega) (w1) ?_
      iterate 2 (refine kX_one rfl ?_)
      refine kX_top (nI_1 (c' k)) ?_
      refine kX_cal (mr_nextOf L xs d (va_up τ 293 CH) n b op[k] (c' k + 1) e2 (h200 _ hmem) w2) rfl (Or.inr rfl) rfl rfl rfl (fun r1 σ1 q1 => ?_)
      obtain ⟨hx, rfl⟩ := q1
      rcases hx with ⟨rfl, hx⟩ | ⟨z, zl, z1, z2, -, rfl⟩
      · exact absurd z03 (hx z0 (by omega) z02)
      · refine kX_iastN rfl rfl (by decide) (k) (by first | rfl | decide) (by omega) ?_
        iterate 1 (refine kX_one rfl ?_)
        obtain ⟨c2, hc2, hc3⟩ : ∃ c2 : Nat → Nat, c2 k = z ∧ ∀ p, p ≠ k → c2 p = c' p := ⟨fun p => if p = k then z else c' p, if_pos rfl, fun p hp => if_neg hp⟩
        refine kX_to [(7, .int 1), (0, .ref 232), (1, .int (nI i)), (2, .int sv), (3, .int t), (4, .int (nI op.length)), (5, .long my)] (va_up τ 293 (upd CH k (nI z))) rfl rfl rfl ?_ (ih _ c2 (hB' _) (hR' _) hD hV (fun p hp a1 a2 => ?_) (oM_lt (q := k) (fun p hp => ?_) (by omega) (by omega) _ hk))
        · funext c; unfold  va_up; repeat' split
          all_goals first | rfl | omega | (subst_vars; rfl) | (funext j; unfold upd; repeat' split; all_goals first | rfl | omega | (subst_vars; rfl))
        · show upd CH k (nI z) p = _ ∧ _
          by_cases e : p = k
          · subst e
            rw [pk_us, hc2]
            exact ⟨rfl, z1, (hofs _ _ z1).mp z2⟩
          · rw [pk_un e, hc3 p e]
            obtain ⟨c1, c2, c3⟩ := g1 p hp a1 a2
            exact ⟨c1, c2, (hofs _ _ c2).mp c3⟩
        · rw [hc3 p (by omega)]
          exact g2 p (by omega)
set_option maxRecDepth 100000 in
set_option maxHeartbeats 4000000 in
theorem mr_rc_main (L : Nat) (xs : Nat → Int32) (d : Nat) (σ : kS) (n b0 R S C N i s r dn t : Nat) (kl op : List Nat) (h : mTb σ n b0) (hB : mBs σ n R S C kl) (hS : mSs σ n R S N) (hi : i < N) (hs : s < S) (r1 : r < R) (r2 : σ 255 s = nI r) (r3 : stD σ i s = nI dn) (hdn : dn < fN (σ 247 r)) (hse : σ 249 (6 * r + dn) = 0) (ht : t < n) (het : σ 248 (6 * r + dn) = nI t) (hop : ∀ u, u ∈ op ↔ u ∈ tvs (σ 233) (σ 234) (σ 235) t ∧ stV σ i (6 * s + fN (σ 241 u)) < 0) (h6 : op.length ≤ 6) (hN : opN σ op) (hz : ∀ u ∈ op, ∃ z, z < n ∧ ofs σ u z) (my : Int64) :
    ∀ q : kS × (Nat → Nat), (rcB σ q.1 n R S N op ∧ rcR q.1 n ∧ rcD σ q.1 S i ∧ rcV σ q.1 S i s op ∧ chI σ n op (q.1 293) q.2 0 op.length) → kX kT L xs (d + 9) 217 192 [(7, .int 1), (0, .ref 232), (1, .int (nI i)), (2, .int (nI s)), (3, .int (nI t)), (4, .int (nI op.length)), (5, .long my)] [] q.1 (fun r σ' => rcP σ σ' n R S C N i r) := by
  have hn := h.1
  have hS4 := hB.2.1.1
  have hN6 := hS.1
  have h200 : ∀ u ∈ op, u < 200 := fun u hu => by
    obtain ⟨p, hp, rfl⟩ := List.mem_iff_getElem.mp hu
    exact (hN.1 p hp).1
  refine kX_while (fun q : kS × (Nat → Nat) => [(7, .int 1), (0, .ref 232), (1, .int (nI i)), (2, .int (nI s)), (3, .int (nI t)), (4, .int (nI op.length)), (5, .long my)]) (fun q => q.1) _ (fun q => oM q.2 op.length) ?_
  rintro ⟨τ, c⟩ ⟨i1, i2, i3, i4, i5⟩ ih
  dsimp only at i1 i2 i3 i4 i5 ih ⊢
  have k308 : ∀ τ', rcB σ τ' n R S N op → rcR τ' n → rcD σ τ' S i → rcV σ τ' S i s op → chI σ n op (τ' 293) c 0 op.length → kX kT L xs (d + 9) 217 308 [(0, .ref 232), (1, .int (nI i)), (2, .int (nI s)), (3, .int (nI t)), (4, .int (nI op.length)), (5, .long my)] [] τ' (fun r σ' => rcP σ σ' n R S C N i r) := by
    intro τ' g1 g2 g3 g4 g5
    exact mr_rc_turn L xs (d + 6) σ τ' n b0 R S C N i s op c h hB.2.1 hN6 hi h6 h200 hz g1 g2 g3 g4 g5 (nI s) (nI t) my (fun τ2 c2 a1 a2 a3 a4 a5 a6 => ih (τ2, c2) ⟨a1, a2, a3, a4, a5⟩ a6)
  have hofn : τ 241 = σ 241 := i1.1.1 _ (by decide) (by decide)
  obtain ⟨b, l, e1, e2, e3, e4⟩ := i2
  obtain ⟨N', n0, hSs⟩ := i1.2.1
  have hN'6 := hSs.1
  have hval : ∀ V, opV τ op s c (τ 265) V op.length → (∀ p (h : p < op.length), V (6 * s + fN (σ 241 op[p])) = nI (c p)) ∧ ∀ u k, u < S → k < 6 → (∀ p (h : p < op.length), 6 * u + k ≠ 6 * s + fN (σ 241 op[p])) → V (6 * u + k) = stV σ i (6 * u + k) := fun V hV => ⟨fun p hp => by
      have := hV.1 p hp hp
      rw [hofn] at this
      exact this, fun u k hu hk hne => by
      rw [hV.2 (6 * u + k) (by rw [hofn]; exact hne)]
      exact i4 u k hu hk hne⟩
  have hof : ∀ p (h : p < op.length), c p < n ∧ ofs σ op[p] (c p) := fun p hp => ⟨(i5 p hp (Nat.zero_le _) hp).2.1, (i5 p hp (Nat.zero_le _) hp).2.2⟩
  have k299 : ∀ σ2, rcB σ σ2 n R S N op → (∃ b, mTb σ2 n b) → σ2 293 = τ 293 → kX kT L xs (d + 9) 217 299 [(0, .ref 232), (1, .int (nI i)), (2, .int (nI s)), (3, .int (nI t)), (4, .int (nI op.length)), (5, .long my)] [] σ2 (fun r σ' => rcP σ σ' n R S C N i r) := by
    rintro σ2 g1 ⟨b2, g2⟩ g3
    have hse2 : σ2 232 27 = nI S := (g1.1.2.1 _ (by decide) (by decide)).trans hB.2.1.2.1
    obtain ⟨N2, n2, hSs2⟩ := g1.2.1
    iterate 2 (refine kX_one rfl ?_)
    refine kX_cal (mr_takeState L xs (d + 7) σ2 S i hse2 hS4 (by omega)) rfl (Or.inr rfl) rfl rfl rfl (fun r1 σ3 q1 => ?_)
    obtain ⟨rfl, D, V, rfl, hD, hV⟩ := q1
    have hF3 : mSf σ2 (va_up (va_up σ2 264 D) 265 V) n := mSf_trans (mSf_up (c := 264) (by decide)) (mSf_up (c := 265) (by decide))
    have hB2 := mBs_sf h g1.1 hB
    have hB3 := mBs_sf g2 hF3 hB2
    have hT3 : mTb (va_up (va_up σ2 264 D) 265 V) n b2 := g2
    have hc3 : cfg (va_up (va_up σ2 264 D) 265 V) n R S D V := cfg_sf g2 hB2.1 hF3 (cfg_ext (fun u hu => hD u hu) (fun u k hu hk => by
      rw [hV u k hu hk]
      unfold stV
      rw [show 24 * i + (6 * u + k) = 24 * i + 6 * u + k by omega]) (hSs2.2.2 i (by omega)).1)
    have hSs3 : mSs (va_up (va_up σ2 264 D) 265 V) n R S N2 := mSs_sf g2 hB2.1 hF3 rfl rfl rfl rfl rfl hSs2
    iterate 1 (refine kX_one rfl ?_)
    refine kX_cal (mr_stateRow L xs (d + 1) _ n b2 R S kl hT3 hB3.2.2.1 hB3.1 hS4 (cfg_Sv hT3 hB3.1 hB3.2.1 hc3)) rfl (Or.inr rfl) rfl rfl rfl (fun r1 σ4 q1 => ?_)
    obtain ⟨rfl, -, b', l', hb', f1, f2, f3, f4, -⟩ := q1
    have esd : σ4 284 = σ2 284 := f1.1 _ (by decide)
    have esv : σ4 285 = σ2 285 := f1.1 _ (by decide)
    have eop : σ4 292 = σ2 292 := f1.1 _ (by decide)
    have ech : σ4 293 = σ2 293 := f1.1 _ (by decide)
    have edo : σ4 264 = D := f1.1 _ (by decide)
    have eva : σ4 265 = V := f1.1 _ (by decide)
    refine kX_lv _ rfl rfl rfl (k308 σ4 ⟨mSf_trans g1.1 (mSf_trans hF3 (mSf_fr f1)), ⟨N2, n2, mSs_fr hT3 hB3.1 f1 hSs3⟩, fun j hj => ?_, ?_⟩ ⟨b', l', hb', f2, f3, f4⟩ (fun u hu => ?_) (fun u k hu hk _ => ?_) ?_)
    · have := g1.2.2.1 j hj
      unfold stD stV at this ⊢
      rw [esd, esv]
      exact this
    · rw [eop]
      exact g1.2.2.2
    · rw [edo, hD u hu]
      exact (g1.2.2.1 i hi).1 u hu
    · rw [eva, hV u k hu hk, ← (g1.2.2.1 i hi).2 u k hu hk]
      unfold stV
      rw [show 24 * i + (6 * u + k) = 24 * i + 6 * u + k by omega]
    · rw [ech, g3]
      exact i5
  have k271 : ∀ ρ V, opV τ op s c (τ 265) V op.length → mFr (va_up τ 265 V) ρ n → mTb ρ n b → kX kT L xs (d + 9) 217 271 [(0, .ref 232), (1, .int (nI i)), (2, .int (nI s)), (3, .int (nI t)), (4, .int (nI op.length)), (5, .long my)] [] ρ (fun r σ' => rcP σ σ' n R S C N i r) := by
    intro ρ V hV hF hT
    have hR1 : mRo (va_up τ 265 V) n R := mSf_Ro h (mSf_trans i1.1 (mSf_up (c := 265) (by decide))) hB.1
    have hSs1 : mSs (va_up τ 265 V) n R S N' := hSs
    have hSs2 := mSs_fr (b := b) (σ := va_up τ 265 V) e2 hR1 hF hSs1
    have edo : ρ 264 = τ 264 := hF.1 _ (by decide)
    have eva : ρ 265 = V := hF.1 _ (by decide)
    have eop : ρ 292 = τ 292 := hF.1 _ (by decide)
    have ech : ρ 293 = τ 293 := hF.1 _ (by decide)
    have esd : ρ 284 = τ 284 := hF.1 _ (by decide)
    have esv : ρ 285 = τ 285 := hF.1 _ (by decide)
    obtain ⟨c1, c2, -⟩ := rc_cfg (D := stD σ i) (W := stV σ i) (V := V) h hB.1 (hS.2.2 i hi).1 hs r1 r2 r3 hdn hse ht het hop hof (hval V hV).1 (hval V hV).2
    have hds : ρ 264 s = nI dn := by rw [edo, i3 s hs, r3]
    have hF1 : mSf σ (va_up ρ 264 (upd (ρ 264) s (nI (dn + 1)))) n := mSf_trans i1.1 (mSf_trans (mSf_up (c := 265) (by decide)) (mSf_trans (mSf_fr hF) (mSf_up (c := 264) (by decide))))
    have hdo : ∀ u, u < S → upd (ρ 264) s (nI (dn + 1)) u = upd (stD σ i) s (nI (dn + 1)) u := fun u hu => by
      by_cases e : u = s
      · subst e
        rw [pk_us, pk_us]
      · rw [pk_un e, pk_un e, edo]
        exact i3 u hu
    have hvo : ∀ u k, u < S → k < 6 → ρ 265 (6 * u + k) = V (6 * u + k) := fun u k _ _ => by rw [eva]
    have hc1 : cfg (va_up ρ 264 (upd (ρ 264) s (nI (dn + 1)))) n R S (upd (ρ 264) s (nI (dn + 1))) (ρ 265) := cfg_sf h hB.1 hF1 (cfg_ext hdo hvo c1)
    have hSs3 : mSs (va_up ρ 264 (upd (ρ 264) s (nI (dn + 1)))) n R S N' := hSs2
    have hst : ∀ j, j < N → (∀ u, u < S → stD (va_up ρ 264 (upd (ρ 264) s (nI (dn + 1)))) j u = stD σ j u) ∧ ∀ u k, u < S → k < 6 → stV (va_up ρ 264 (upd (ρ 264) s (nI (dn + 1)))) j (6 * u + k) = stV σ j (6 * u + k) := fun j hj => by
      have := i1.2.2.1 j hj
      unfold stD stV at this ⊢
      show (∀ u, u < S → ρ 284 (4 * j + u) = _) ∧ ∀ u k, u < S → k < 6 → ρ 285 (24 * j + (6 * u + k)) = _
      rw [esd, esv]
      exact this
    have hlink : stp S (stD (va_up ρ 264 (upd (ρ 264) s (nI (dn + 1)))) i) (stV (va_up ρ 264 (upd (ρ 264) s (nI (dn + 1)))) i) (upd (ρ 264) s (nI (dn + 1))) (ρ 265) s := stp_ext (hst i hi).1 (hst i hi).2 hdo hvo c2
    have hT1 : mTb (va_up ρ 264 (upd (ρ 264) s (nI (dn + 1)))) n b := hT
    iterate 4 (refine kX_one rfl ?_)
    refine kX_ialdV rfl rfl (by decide) (s) (by first | rfl | decide) (by omega) (hds) ?_
    iterate 2 (refine kX_one rfl ?_)
    refine kX_top (nI_1 dn) ?_
    refine kX_iastN rfl rfl (by decide) (s) (by first | rfl | decide) (by omega) ?_
    have ho1 : (va_up ρ 264 (upd (ρ 264) s (nI (dn + 1)))) 292 = τ 292 := eop
    have hch1 : (va_up ρ 264 (upd (ρ 264) s (nI (dn + 1)))) 293 = τ 293 := ech
    have hcom := mr_comesToBe L xs d (va_up ρ 264 (upd (ρ 264) s (nI (dn + 1)))) n b R S C N' kl (nI i) (nI s) hT1 (mBs_sf h hF1 hB) hSs3 hc1 (Or.inr ⟨i, s, by omega, rfl, rfl, hlink⟩)
    generalize va_up ρ 264 (upd (ρ 264) s (nI (dn + 1))) = ρ1 at *
    iterate 3 (refine kX_one rfl ?_)
    refine kX_cal hcom rfl (Or.inr rfl) rfl rfl rfl (fun r1 σ2 q1 => ?_)
    obtain ⟨N3, m1, m2, hr, hsf, ⟨b3, hb3⟩, hss, hdd, hvv, hoo, hcc, hst3⟩ := q1
    have hB2 : rcB σ σ2 n R S N op := ⟨mSf_trans hF1 hsf, ⟨N3, by omega, hss⟩, fun j hj => ⟨fun u hu => ((hst3 j (by omega)).1 u hu).trans ((hst j hj).1 u hu), fun u k hu hk => ((hst3 j (by omega)).2 u k hu hk).trans ((hst j hj).2 u k hu hk)⟩, by rw [hoo, ho1]; exact i1.2.2.2⟩
    rcases hr with rfl | rfl | ⟨c', hc', rfl, hN3⟩
    · iterate 4 (refine kX_one rfl ?_)
      exact kX_lv _ rfl rfl rfl (k299 σ2 hB2 ⟨b3, hb3⟩ (hcc.trans hch1))
    · repeat refine kX_one rfl ?_
      refine kX_ret (i := .ireturn) (len := 1) rfl (Or.inr rfl) rfl ⟨N3, by omega, Or.inr (Or.inl rfl), hB2.1, ⟨b3, hb3⟩, hss, hB2.2.2.1, fun e => ?_⟩
      exact absurd (Value.int.inj (Option.some.inj e)) (by decide)
    · have hC6 : C ≤ 6 := hB.2.2.2.1
      have h0 : ¬ nI c' < 0 := nI_pos (by omega)
      repeat refine kX_one rfl ?_
      refine kX_if (fun q => ?_) (fun q => ?_)
      · exfalso
        have q : nI c' = -6 := qeq q
        rw [q] at h0
        exact h0 (by decide)
      · repeat refine kX_one rfl ?_
        refine kX_ret (i := .ireturn) (len := 1) rfl (Or.inr rfl) rfl ⟨N3, by omega, Or.inr (Or.inr ⟨c', hc', rfl, hN3⟩), hB2.1, ⟨b3, hb3⟩, hss, hB2.2.2.1, fun e => ?_⟩
        exfalso
        rw [Value.int.inj (Option.some.inj e)] at h0
        exact h0 (by decide)
  iterate 4 (refine kX_one rfl ?_)
  have hset := mr_rc_set L xs (d + 8) τ s op c (by omega) h6 (by unfold opN; rw [hofn]; exact hN) i1.2.2.2 (fun p hp => (i5 p hp (Nat.zero_le _) hp).1) (nI i) (nI t) 1 my (fun r σ' => rcP σ σ' n R S C N i r) (fun V hV => ?_) (0, τ 265) ⟨Nat.zero_le _, fun p hp h0 => absurd h0 (Nat.not_lt_zero p), fun j _ => rfl⟩
  · refine kX_to _ _ rfl rfl rfl ?_ hset
    funext c; unfold  va_up; repeat' split
    all_goals first | rfl | omega | (subst_vars; rfl) | (funext j; unfold upd; repeat' split; all_goals first | rfl | omega | (subst_vars; rfl))
  · obtain ⟨-, -, c3⟩ := rc_cfg (D := stD σ i) (W := stV σ i) (V := V) h hB.1 (hS.2.2 i hi).1 hs r1 r2 r3 hdn hse ht het hop hof (hval V hV).1 (hval V hV).2
    have hst : mSt (va_up τ 265 V) n s t := by
      have etv := (mFr_all h (pat_fr i1.1) ht).2.2
      have etv : tvs (τ 233) (τ 234) (τ 235) t = tvs (σ 233) (σ 234) (σ 235) t := etv
      intro u hu
      have hu : u ∈ tvs (τ 233) (τ 234) (τ 235) t := hu
      rw [etv] at hu
      obtain ⟨p, z, p1, p2, p3, p4, p5, p6⟩ := c3 u hu
      have etg := (mFr_all h (pat_fr i1.1) p2).2.1
      have etg : tgd (τ 233) (τ 234) (τ 235) z = tgd (σ 233) (σ 234) (σ 235) z := etg
      refine ⟨p, z, p1, p2, ?_, p4, etg.trans p5, ?_⟩
      · show τ 241 u = _
        rw [hofn]
        exact p3
      · show τ 240 u = _ → τ 233 z = _
        rw [i1.1.1 240 (by decide) (by decide), (i1.1.2.2 z (by omega)).1]
        exact p6
    refine mr_rc_try L xs (d + 3) (va_up τ 265 V) n b s t l e2 e1 e3 e4 (by omega) ht hst (nI i) (nI op.length) 1 my (fun r σ' => rcP σ σ' n R S C N i r) (fun ρ P hF hT hq hj => ?_)
    have hR1 : mRo (va_up τ 265 V) n R := mSf_Ro h (mSf_trans i1.1 (mSf_up (c := 265) (by decide))) hB.1
    have hSs1 : mSs (va_up τ 265 V) n R S N' := hSs
    repeat refine kX_one rfl ?_
    refine kX_if (fun q => ?_) (fun q => ?_)
    · refine kX_lv _ rfl rfl rfl (k308 ρ ⟨mSf_trans i1.1 (mSf_trans (mSf_up (c := 265) (by decide)) (mSf_fr hF)), ⟨N', n0, mSs_fr (b := b) (σ := va_up τ 265 V) e2 hR1 hF hSs1⟩, fun j hj => ?_, ?_⟩ ⟨b, l, e1, hT, hq, hj⟩ (fun u hu => ?_) (fun u k hu hk hne => ?_) ?_)
      · have := i1.2.2.1 j hj
        unfold stD stV at this ⊢
        rw [hF.1 284 (by decide), hF.1 285 (by decide)]
        exact this
      · rw [hF.1 292 (by decide)]
        exact i1.2.2.2
      · rw [hF.1 264 (by decide)]
        exact i3 u hu
      · rw [hF.1 265 (by decide)]
        exact (hval V hV).2 u k hu hk hne
      · rw [hF.1 293 (by decide)]
        exact i5
    · exact kX_lv _ rfl rfl rfl (k271 ρ V hV hF hT)
end
section
/-! the reference: receives, all of it -/
theorem mFr_fv (σ : kS) (n : Nat) (W ST : Nat → Int32) (m : Int32) : mFr σ (fvS σ W ST m) n := by
  refine ⟨fun c hc => ?_, fun j hj => ?_, fun u hu => ⟨rfl, rfl, rfl⟩⟩
  · simp only [rowC, List.mem_cons, List.not_mem_nil, or_false, not_or] at hc
    simp [fvS, va_up, hc]
  · simp only [rowJ, List.mem_cons, List.not_mem_nil, or_false, not_or] at hj
    show upd (σ 232) 22 m j = _
    exact pk_un (by omega)
set_option maxRecDepth 100000 in
set_option maxHeartbeats 4000000 in
theorem mr_rc_go (L : Nat) (xs : Nat → Int32) (d : Nat) (σ : kS) (n R S C N i s r dn t : Nat) (kl op : List Nat) (hB : mBs σ n R S C kl) (hS : mSs σ n R S N) (hi : i < N) (hrow : rcR σ n) (hd : rcD σ σ S i) (hv : ∀ u k, u < S → k < 6 → σ 265 (6 * u + k) = stV σ i (6 * u + k)) (hs : s < S) (r1 : r < R) (r2 : σ 255 s = nI r) (r3 : stD σ i s = nI dn) (hdn : dn < fN (σ 247 r)) (hse : σ 249 (6 * r + dn) = 0) (ht : t < n) (het : σ 248 (6 * r + dn) = nI t) (my : Int64) (W ST O : Nat → Int32) (m : Int32)
    (ho : lst O op) (hop : ∀ u, u ∈ op ↔ u ∈ tvs (σ 233) (σ 234) (σ 235) t ∧ stV σ i (6 * s + fN (σ 241 u)) < 0) (h6 : op.length ≤ 6) (hN : opN σ op) (hz : my = 0 ∨ ∀ u ∈ op, ∃ z, z < n ∧ ofs σ u z) :
    kX kT L xs (d + 9) 217 107 [(0, .ref 232), (1, .int (nI i)), (2, .int (nI s)), (3, .int (nI t)), (4, .int (nI op.length)), (5, .long my)] [] (va_up (fvS σ W ST m) 292 O) (fun r σ' => rcP σ σ' n R S C N i r) := by
  obtain ⟨b, l, e1, e2, e3, e4⟩ := hrow
  have hR := hB.1
  have h200 : ∀ u ∈ op, u < 200 := fun u hu => by
    obtain ⟨p, hp, rfl⟩ := List.mem_iff_getElem.mp hu
    exact (hN.1 p hp).1
  have hF : ∀ w, mSf σ (va_up (va_up (fvS σ W ST m) 292 O) 232 (upd (fvS σ W ST m 232) 70 w)) n := fun w => mSf_trans (mSf_fr (mFr_fv σ n W ST m)) (mSf_trans (mSf_up (c := 292) (by decide)) (mSf_o (σ := va_up (fvS σ W ST m) 292 O) (by decide)))
  have hRw : ∀ w, rcR (va_up (va_up (fvS σ W ST m) 292 O) 232 (upd (fvS σ W ST m 232) 70 w)) n := fun w => ⟨b, l, e1, e2, e3, e4⟩
  have hSs : ∀ w, mSs (va_up (va_up (fvS σ W ST m) 292 O) 232 (upd (fvS σ W ST m 232) 70 w)) n R S N := fun w => mSs_sf e2 hR (hF w) rfl rfl rfl rfl rfl hS
  have hst : ∀ w, ∀ j, j < N → (∀ u, u < S → stD (va_up (va_up (fvS σ W ST m) 292 O) 232 (upd (fvS σ W ST m 232) 70 w)) j u = stD σ j u) ∧ ∀ u k, u < S → k < 6 → stV (va_up (va_up (fvS σ W ST m) 292 O) 232 (upd (fvS σ W ST m 232) 70 w)) j (6 * u + k) = stV σ j (6 * u + k) := fun w j hj => ⟨fun _ _ => rfl, fun _ _ _ _ => rfl⟩
  have k154 : my ≠ 0 → ∀ w, kX kT L xs (d + 9) 217 154 [(0, .ref 232), (1, .int (nI i)), (2, .int (nI s)), (3, .int (nI t)), (4, .int (nI op.length)), (5, .long my)] [] (va_up (va_up (fvS σ W ST m) 292 O) 232 (upd (fvS σ W ST m 232) 70 w)) (fun r σ' => rcP σ σ' n R S C N i r) := by
    intro hmy w
    have hz2 : ∀ u ∈ op, ∃ z, z < n ∧ ofs σ u z := hz.elim (fun q => absurd q hmy) id
    have a1 := hF w
    have a2 := hRw w
    have a3 := hSs w
    have a4 := hst w
    have a5 : mTb (va_up (va_up (fvS σ W ST m) 292 O) 232 (upd (fvS σ W ST m 232) 70 w)) n b := e2
    have a6 : lst ((va_up (va_up (fvS σ W ST m) 292 O) 232 (upd (fvS σ W ST m 232) 70 w)) 292) op := ho
    have a7 : ∀ u, (va_up (va_up (fvS σ W ST m) 292 O) 232 (upd (fvS σ W ST m 232) 70 w)) 264 u = σ 264 u := fun _ => rfl
    have a8 : ∀ u, (va_up (va_up (fvS σ W ST m) 292 O) 232 (upd (fvS σ W ST m 232) 70 w)) 265 u = σ 265 u := fun _ => rfl
    generalize va_up (va_up (fvS σ W ST m) 292 O) 232 (upd (fvS σ W ST m 232) 70 w) = ρ at *
    have hofs : ∀ u z, z < n → (ofs ρ u z ↔ ofs σ u z) := fun u z hz' => ofs_sf e2 a1 hz'
    iterate 2 (refine kX_one rfl ?_)
    have := mr_rc_first L xs (d + 6) ρ n b op a5 h6 a6 h200 (fun u hu => by
      obtain ⟨z, z1, z2⟩ := hz2 u hu
      exact ⟨z, z1, (hofs u z z1).mpr z2⟩) (nI i) (nI s) (nI t) my (fun r σ' => rcP σ σ' n R S C N i r) (fun CH c hC => ?_) (0, ρ 293, fun _ => 0) ⟨Nat.zero_le _, fun p _ _ hp => absurd hp (Nat.not_lt_zero p)⟩
    · refine kX_to _ _ rfl rfl rfl ?_ this
      funext c; unfold  va_up; repeat' split
      all_goals first | rfl | omega | (subst_vars; rfl) | (funext j; unfold upd; repeat' split; all_goals first | rfl | omega | (subst_vars; rfl))
    · iterate 2 (refine kX_one rfl ?_)
      obtain ⟨b', l', f1, f2, f3, f4⟩ := a2
      have := mr_rc_main L xs d σ n b R S C N i s r dn t kl op e2 hB hS hi hs r1 r2 r3 hdn hse ht het hop h6 hN hz2 my (va_up ρ 293 CH, c) ⟨⟨mSf_trans a1 (mSf_up (c := 293) (by decide)), ⟨N, Nat.le_refl _, a3⟩, a4, a6⟩, ⟨b', l', f1, f2, f3, f4⟩, fun u hu => (a7 u).trans (hd u hu), fun u k hu hk _ => (a8 _).trans (hv u k hu hk), fun p hp x1 x2 => by
        obtain ⟨y1, y2, y3⟩ := hC p hp x1 x2
        exact ⟨y1, y2, (hofs _ _ y2).mp y3⟩⟩
      exact kX_lv _ rfl rfl rfl this
  iterate 7 (refine kX_one rfl ?_)
  repeat refine kX_one rfl ?_
  refine kX_if (fun q => ?_) (fun q => ?_)
  · iterate 10 (refine kX_one rfl ?_)
    repeat refine kX_one rfl ?_
    refine kX_if (fun q2 => ?_) (fun q2 => ?_)
    · have q2 := qne q2
      exact k154 (fun e => q2 (by rw [e]; rfl)) (fvS σ W ST m 232 70 + my.toInt32)
    · repeat refine kX_one rfl ?_
      refine kX_ret (i := .ireturn) (len := 1) rfl (Or.inr rfl) rfl ⟨N, Nat.le_refl _, Or.inl rfl, hF _, ⟨b, e2⟩, hSs _, hst _, fun _ => ⟨hRw _, hd, hv⟩⟩
  · repeat refine kX_one rfl ?_
    refine kX_ret (i := .ireturn) (len := 1) rfl (Or.inr rfl) rfl ⟨N, Nat.le_refl _, Or.inr (Or.inl rfl), hF _, ⟨b, e2⟩, hSs _, hst _, fun e => ?_⟩
    exact absurd (Value.int.inj (Option.some.inj e)) (by decide)
set_option maxRecDepth 100000 in
set_option maxHeartbeats 4000000 in
theorem mr_receives (L : Nat) (xs : Nat → Int32) (d : Nat) (σ : kS) (n R S C N i s r dn t : Nat) (kl : List Nat) (hB : mBs σ n R S C kl) (hS : mSs σ n R S N) (hi : i < N) (hrow : rcR σ n) (hd : rcD σ σ S i) (hv : ∀ u k, u < S → k < 6 → σ 265 (6 * u + k) = stV σ i (6 * u + k)) (hs : s < S) (r1 : r < R) (r2 : σ 255 s = nI r) (r3 : stD σ i s = nI dn) (hdn : dn < fN (σ 247 r)) (hse : σ 249 (6 * r + dn) = 0) (ht : t < n) (het : σ 248 (6 * r + dn) = nI t) :
    kXM kT L xs (d + 9) 217 [.ref 232, .int (nI i), .int (nI s), .int (nI t)] σ (fun r σ' => rcP σ σ' n R S C N i r) := by
  have hrow0 := hrow
  obtain ⟨b, l, e1, e2, e3, e4⟩ := hrow
  have hn := e2.1
  have hS4 := hB.2.1.1
  have hR4 := hB.1.1
  obtain ⟨t', t1, t2, t3, -⟩ := hB.1.2.2.2.2.2 r dn r1 hdn
  obtain rfl : t = t' := nI_inj (het.symm.trans t2)
  have hvar := fun u hu => mRo_var (u := u) e2 hB.1 r1 ht t3 hu
  unfold kXM
  iterate 2 (refine kX_one rfl ?_)
  refine kX_cal (mr_findVariables L xs (d + 7) σ n b t e2 ht) rfl (Or.inr rfl) rfl rfl rfl (fun r1' σ1 q1 => ?_)
  obtain ⟨rfl, W, ST, rfl, hl, h24⟩ := q1
  have hmem : ∀ u, u ∈ ddl [] (tvs (σ 233) (σ 234) (σ 235) t) ↔ u ∈ tvs (σ 233) (σ 234) (σ 235) t := fun u => by
    rw [ddl_mem]
    simp
  have hnd := ddl_nd (tvs (σ 233) (σ 234) (σ 235) t) [] List.Pairwise.nil
  generalize ddl [] (tvs (σ 233) (σ 234) (σ 235) t) = vs at *
  have hinj : ∀ u ∈ vs, ∀ v ∈ vs, u ≠ v → σ 241 u ≠ σ 241 v := fun u hu v hv' huv e => by
    obtain ⟨k, so, u1, k6, kv, vv, kk, -⟩ := hvar u ((hmem u).mp hu)
    obtain ⟨k', so', u1', k6', kv', vv', kk', -⟩ := hvar v ((hmem v).mp hv')
    obtain rfl : k = k' := nI_inj (by rw [← kk, ← kk', e])
    exact huv (nI_inj (vv.symm.trans vv'))
  have hnum : ∀ u ∈ vs, u < 200 ∧ ∃ k, k < 6 ∧ σ 241 u = nI k := fun u hu => by
    obtain ⟨k, so, u1, k6, kv, vv, kk, -⟩ := hvar u ((hmem u).mp hu)
    exact ⟨by omega, k, k6, kk⟩
  iterate 6 (refine kX_one rfl ?_)
  have := mr_rc_open L xs (d + 6) (fvS σ W ST (nI vs.length)) n b s vs e2 (by omega) rfl hl h24 hnd hnum hinj (nI i) (nI t) (fun r σ' => rcP σ σ' n R S C N i r) (fun op O my hI h6 => ?_) (0, [], σ 292, 1) ⟨Nat.zero_le _, lst_nil _, fun u => by simp, List.Pairwise.nil, Or.inr (fun u hu => (by cases hu))⟩
  · refine kX_to _ _ rfl rfl rfl ?_ this
    funext c; unfold fvS va_up; repeat' split
    all_goals first | rfl | omega | (subst_vars; rfl) | (funext j; unfold upd; repeat' split; all_goals first | rfl | omega | (subst_vars; rfl))
  · obtain ⟨o1, o2, o3, o4⟩ := hI
    have hop : ∀ u, u ∈ op ↔ u ∈ tvs (σ 233) (σ 234) (σ 235) t ∧ stV σ i (6 * s + fN (σ 241 u)) < 0 := fun u => by
      rw [o2 u, List.take_length, hmem u]
      refine and_congr_right (fun hu => ?_)
      obtain ⟨k, so, u1, k6, kv, vv, kk, -⟩ := hvar u hu
      show σ 265 (6 * s + fN (σ 241 u)) < 0 ↔ _
      rw [kk, fN_nI (by omega), hv s k hs k6]
    have hopv : ∀ u ∈ op, u ∈ vs := fun u hu => (hmem u).mpr ((hop u).mp hu).1
    have hN : opN σ op := ⟨fun p hp => hnum _ (hopv _ (List.getElem_mem hp)), fun p q hp hq hpq => hinj _ (hopv _ (List.getElem_mem hp)) _ (hopv _ (List.getElem_mem hq)) (fun e => by
      rcases Nat.lt_or_gt_of_ne hpq with hh | hh
      · exact List.pairwise_iff_getElem.mp o3 p q hp hq hh e
      · exact List.pairwise_iff_getElem.mp o3 q p hq hp hh e.symm)⟩
    exact mr_rc_go L xs d σ n R S C N i s r dn t kl op hB hS hi hrow0 hd hv hs r1 r2 r3 hdn hse ht het my W ST O (nI vs.length) o1 hop h6 hN o4
end
section
/-! the reference: goesOn -/
def goI (σ τ : kS) (n R S N i : Nat) : Prop := mSf σ τ n ∧ (∃ N', N ≤ N' ∧ mSs τ n R S N') ∧ rcR τ n ∧ rcD τ τ S i ∧ ∀ u k, u < S → k < 6 → τ 265 (6 * u + k) = stV τ i (6 * u + k)
/-- what goesOn leaves -/
def goP (σ τ : kS) (n R S C N : Nat) (r : Option Value) : Prop := ∃ N', N ≤ N' ∧ ceR C N' r ∧ mSf σ τ n ∧ (∃ b, mTb τ n b) ∧ mSs τ n R S N'
theorem go_take {σ τ : kS} {n b0 b2 R S C N N2 i : Nat} {kl : List Nat} {D V : Nat → Int32} (h : mTb σ n b0) (hB : mBs σ n R S C kl) (g1 : mSf σ τ n) (g2 : mTb τ n b2) (hN : N ≤ N2) (g3 : mSs τ n R S N2) (hi : i < N2) (hD : ∀ u, u < S → D u = τ 284 (4 * i + u)) (hV : ∀ u k, u < S → k < 6 → V (6 * u + k) = τ 285 (24 * i + 6 * u + k)) :
    (mTb (va_up (va_up τ 264 D) 265 V) n b2 ∧ mBs (va_up (va_up τ 264 D) 265 V) n R S C kl ∧ mSv (va_up (va_up τ 264 D) 265 V) n R S) ∧ ∀ σ4 b' l tr, b' ≤ 776 → mBd (va_up (va_up τ 264 D) 265 V) σ4 n b' l tr → goI σ σ4 n R S N i := by
  have hV' : ∀ u k, u < S → k < 6 → V (6 * u + k) = stV τ i (6 * u + k) := fun u k hu hk => by
    rw [hV u k hu hk]
    unfold stV
    rw [show 24 * i + (6 * u + k) = 24 * i + 6 * u + k by omega]
  have hF3 : mSf τ (va_up (va_up τ 264 D) 265 V) n := mSf_trans (mSf_up (c := 264) (by decide)) (mSf_up (c := 265) (by decide))
  have hB2 := mBs_sf h g1 hB
  have hB3 := mBs_sf g2 hF3 hB2
  have hT3 : mTb (va_up (va_up τ 264 D) 265 V) n b2 := g2
  have hc3 : cfg (va_up (va_up τ 264 D) 265 V) n R S D V := cfg_sf g2 hB2.1 hF3 (cfg_ext (fun u hu => hD u hu) hV' (g3.2.2 i hi).1)
  have hSs3 : mSs (va_up (va_up τ 264 D) 265 V) n R S N2 := mSs_sf g2 hB2.1 hF3 rfl rfl rfl rfl rfl g3
  refine ⟨⟨hT3, hB3, cfg_Sv hT3 hB3.1 hB3.2.1 hc3⟩, ?_⟩
  rintro σ4 b' l tr hb' ⟨f1, f2, f3, f4, -⟩
  have esd : σ4 284 = τ 284 := f1.1 _ (by decide)
  have esv : σ4 285 = τ 285 := f1.1 _ (by decide)
  have edo : σ4 264 = D := f1.1 _ (by decide)
  have eva : σ4 265 = V := f1.1 _ (by decide)
  refine ⟨mSf_trans g1 (mSf_trans hF3 (mSf_fr f1)), ⟨N2, hN, mSs_fr hT3 hB3.1 f1 hSs3⟩, ⟨b', l, hb', f2, f3, f4⟩, fun u hu => ?_, fun u k hu hk => ?_⟩
  · rw [edo, hD u hu]
    unfold stD
    rw [esd]
  · rw [eva, hV' u k hu hk]
    unfold stV
    rw [esv]
/-- an EVENT that sends -/
theorem sd_cfg {σ : kS} {n b R S s r dn : Nat} {D W : Nat → Int32} (h : mTb σ n b) (hR : mRo σ n R) (hc : cfg σ n R S D W) (hs : s < S) (r1 : r < R) (r2 : σ 255 s = nI r) (r3 : D s = nI dn) (hdn : dn < fN (σ 247 r)) (hse : σ 249 (6 * r + dn) ≠ 0) :
    cfg σ n R S (upd D s (nI (dn + 1))) W ∧ stp S D W (upd D s (nI (dn + 1))) W s := by
  have hR4 := hR.1
  have he6 : fN (σ 247 r) ≤ 6 := by
    obtain ⟨-, e, e1, e2⟩ := hR.2.2.1 r r1
    rw [e2, fN_nI (by omega)]
    exact e1
  refine ⟨fun u hu => ?_, hs, fun u hu => ⟨fun q => ⟨pk_un q, fun _ _ => rfl⟩, fun q => ⟨?_, fun _ _ _ => rfl⟩⟩⟩
  · obtain ⟨r', dn', a1, a2, a3, a4, a5⟩ := hc u hu
    by_cases e : u = s
    · subst e
      obtain rfl : r = r' := nI_inj (r2.symm.trans a2)
      obtain rfl : dn = dn' := nI_inj (r3.symm.trans a3)
      have hb : ∀ k, bdv σ r (dn + 1) k ↔ bdv σ r dn k := fun k => ⟨fun q => ⟨q.1, q.2.elim Or.inl (fun ⟨e, e1, e2, e3⟩ => Or.inr ⟨e, by
        have : e ≠ dn := fun q => hse (q ▸ e2)
        omega, e2, e3⟩)⟩, bdv_mono (by omega)⟩
      refine ⟨r, dn + 1, r1, r2, pk_us, hdn, fun k hk => ?_⟩
      rw [hb k]
      exact a5 k hk
    · exact ⟨r', dn', a1, a2, (pk_un e).trans a3, a4, a5⟩
  · subst q
    rw [pk_us, r3, nI_1]
set_option maxRecDepth 100000 in
set_option maxHeartbeats 4000000 in
theorem mr_go_loop (L : Nat) (xs : Nat → Int32) (d : Nat) (σ : kS) (n b0 R S C N i : Nat) (kl : List Nat) (h : mTb σ n b0) (hB : mBs σ n R S C kl) (hi : i < N) :
    ∀ q : Nat × kS, (q.1 ≤ S ∧ goI σ q.2 n R S N i) → kX kT L xs (d + 10) 218 11 [(2, .int (nI q.1)), (0, .ref 232), (1, .int (nI i))] [] q.2 (fun r σ' => goP σ σ' n R S C N r) := by
  have hS4 := hB.2.1.1
  have hR4 := hB.1.1
  have hC6 : C ≤ 6 := hB.2.2.2.1
  refine kX_while (fun q : Nat × kS => [(2, .int (nI q.1)), (0, .ref 232), (1, .int (nI i))]) (fun q => q.2) _ (fun q => S - q.1) ?_
  rintro ⟨s, τ⟩ ⟨i1, i2⟩ ih
  dsimp only at i1 i2 ih ⊢
  have hgo := i2
  obtain ⟨g1, ⟨N', n1, g2⟩, g3, g4, g5⟩ := i2
  have hN6 := g2.1
  have hB2 := mBs_sf h g1 hB
  obtain ⟨b, l, e1, e2, e3, e4⟩ := g3
  have hn := e2.1
  iterate 3 (refine kX_one rfl ?_)
  refine kX_top (hB2.2.1.2.1) ?_
  repeat refine kX_one rfl ?_
  refine kX_if (fun q => ?_) (fun q => ?_)
  · repeat refine kX_one rfl ?_
    refine kX_ret (i := .ireturn) (len := 1) rfl (Or.inr rfl) rfl (⟨N', n1, Or.inl rfl, g1, ⟨b, e2⟩, g2⟩)
  · have q := qgeF q s S
    have k90 : ∀ (x v : Int32) τ2, goP σ τ2 n R S C N (some (.int v)) → (v = -6 → goI σ τ2 n R S N i) → kX kT L xs (d + 10) 218 90 [(4, .int v), (3, .int x), (2, .int (nI s)), (0, .ref 232), (1, .int (nI i))] [] τ2 (fun r σ' => goP σ σ' n R S C N r) := by
      intro x v τ2 f1 f2
      iterate 2 (refine kX_one rfl ?_)
      repeat refine kX_one rfl ?_
      refine kX_if (fun q2 => ?_) (fun q2 => ?_)
      · have q2 : v = -6 := qeq q2
        iterate 2 (refine kX_one rfl ?_)
        have := ih (s + 1, τ2) ⟨q, f2 q2⟩ (by simp only; omega)
        dsimp only at this
        rw [← nI_1] at this
        exact kX_lv _ rfl rfl rfl this
      · repeat refine kX_one rfl ?_
        refine kX_ret (i := .ireturn) (len := 1) rfl (Or.inr rfl) rfl (f1)
    obtain ⟨r, dn, a1, a2, a3, a4, a5⟩ := (g2.2.2 i (by omega)).1 s q
    have he6 : fN (τ 247 r) ≤ 6 := by
      obtain ⟨-, e, e1, e2⟩ := hB2.1.2.2.1 r a1
      rw [e2, fN_nI (by omega)]
      exact e1
    have hds : τ 264 s = nI dn := (g4 s q).trans a3
    iterate 2 (refine kX_one rfl ?_)
    refine kX_cal (mr_nextEvent L xs (d + 8) τ n R s r dn hB2.1 (by omega) a1 a2 hds (by omega)) rfl (Or.inr rfl) rfl rfl rfl (fun r1 σ1 q1 => ?_)
    obtain ⟨rfl, rfl⟩ := q1
    by_cases hdn : dn < fN (τ 247 r)
    · rw [if_pos hdn]
      obtain ⟨t, t1, t2, -⟩ := hB2.1.2.2.2.2.2 r dn a1 hdn
      have k76 : τ 249 (6 * r + dn) = 0 → kX kT L xs (d + 10) 218 76 [(4, .int (-6)), (3, .int (nI (6 * r + dn))), (2, .int (nI s)), (0, .ref 232), (1, .int (nI i))] [] τ (fun r σ' => goP σ σ' n R S C N r) := by
        intro hse
        iterate 6 (refine kX_one rfl ?_)
        refine kX_ialdV rfl rfl (by decide) (6 * r + dn) (by first | rfl | decide) (by omega) (t2) ?_
        refine kX_cal (mr_receives L xs d τ n R S C N' i s r dn t kl hB2 g2 (by omega) ⟨b, l, e1, e2, e3, e4⟩ g4 g5 q a1 a2 a3 hdn hse t1 t2) rfl (Or.inr rfl) rfl rfl rfl (fun r1 τ2 q1 => ?_)
        obtain ⟨N2, m1, m2, m3, m4, m5, m6, m7⟩ := q1
        have hP : goP σ τ2 n R S C N r1 := ⟨N2, by omega, m2, mSf_trans g1 m3, m4, m5⟩
        have hG : r1 = some (.int (-6)) → goI σ τ2 n R S N i := fun e => by
          obtain ⟨x1, x2, x3⟩ := m7 e
          exact ⟨mSf_trans g1 m3, ⟨N2, by omega, m5⟩, x1, fun u hu => (x2 u hu).trans ((m6 i (by omega)).1 u hu).symm, fun u k hu hk => (x3 u k hu hk).trans ((m6 i (by omega)).2 u k hu hk).symm⟩
        rcases m2 with rfl | rfl | ⟨c', hc', rfl, -⟩
        · iterate 1 (refine kX_one rfl ?_)
          exact kX_lv _ rfl rfl rfl (k90 (nI (6 * r + dn)) _ τ2 hP (fun e => hG (by rw [e])))
        · iterate 1 (refine kX_one rfl ?_)
          exact kX_lv _ rfl rfl rfl (k90 (nI (6 * r + dn)) _ τ2 hP (fun e => hG (by rw [e])))
        · iterate 1 (refine kX_one rfl ?_)
          exact kX_lv _ rfl rfl rfl (k90 (nI (6 * r + dn)) _ τ2 hP (fun e => hG (by rw [e])))
      have k58 : ∀ (v : Int32) τ2, goP σ τ2 n R S C N (some (.int v)) → kX kT L xs (d + 10) 218 58 [(4, .int (-6)), (3, .int (nI (6 * r + dn))), (2, .int (nI s)), (0, .ref 232), (1, .int (nI i))] [.int v] τ2 (fun r σ' => goP σ σ' n R S C N r) := by
        intro v τ2 hP
        have hP0 := hP
        obtain ⟨N2, m1, m2, m3, ⟨b2, m4⟩, m5⟩ := hP
        have hN26 := m5.1
        have hse2 : τ2 232 27 = nI S := (m3.2.1 _ (by decide) (by decide)).trans hB.2.1.2.1
        iterate 3 (refine kX_one rfl ?_)
        refine kX_cal (mr_takeState L xs (d + 8) τ2 S i hse2 hS4 (by omega)) rfl (Or.inr rfl) rfl rfl rfl (fun r1 σ3 q1 => ?_)
        obtain ⟨rfl, D, V, rfl, hD, hV⟩ := q1
        obtain ⟨⟨x1, x2, x3⟩, x4⟩ := go_take h hB m3 m4 m1 m5 (by omega) hD hV
        iterate 1 (refine kX_one rfl ?_)
        refine kX_cal (mr_stateRow L xs (d + 2) _ n b2 R S kl x1 x2.2.2.1 x2.1 hS4 x3) rfl (Or.inr rfl) rfl rfl rfl (fun r1 σ4 q1 => ?_)
        obtain ⟨rfl, -, b', l', hb', hbd⟩ := q1
        have hG := x4 σ4 b' l' _ hb' hbd
        iterate 1 (refine kX_one rfl ?_)
        obtain ⟨y1, ⟨N3, n3, y2⟩, ⟨b4, l4, z1, z2, -⟩, -⟩ := hG
        refine kX_lv _ rfl rfl rfl (k90 (nI (6 * r + dn)) v σ4 ⟨N2, m1, m2, y1, ⟨b4, z2⟩, ?_⟩ (fun _ => x4 σ4 b' l' _ hb' hbd))
        have hF3 : mSf τ2 (va_up (va_up τ2 264 D) 265 V) n := mSf_trans (mSf_up (c := 264) (by decide)) (mSf_up (c := 265) (by decide))
        exact mSs_fr x1 x2.1 hbd.1 (mSs_sf m4 (mSf_Ro h m3 hB.1) hF3 rfl rfl rfl rfl rfl m5)
      have k42 : τ 249 (6 * r + dn) ≠ 0 → kX kT L xs (d + 10) 218 42 [(4, .int (-6)), (3, .int (nI (6 * r + dn))), (2, .int (nI s)), (0, .ref 232), (1, .int (nI i))] [] τ (fun r σ' => goP σ σ' n R S C N r) := by
        intro hse
        obtain ⟨c1, c2⟩ := sd_cfg e2 hB2.1 (g2.2.2 i (by omega)).1 q a1 a2 a3 hdn hse
        have hF1 : mSf τ (va_up τ 264 (upd (τ 264) s (nI (dn + 1)))) n := mSf_up (c := 264) (by decide)
        have hdo : ∀ u, u < S → upd (τ 264) s (nI (dn + 1)) u = upd (stD τ i) s (nI (dn + 1)) u := fun u hu => by
          by_cases e : u = s
          · subst e
            rw [pk_us, pk_us]
          · rw [pk_un e, pk_un e]
            exact g4 u hu
        have hc1 : cfg (va_up τ 264 (upd (τ 264) s (nI (dn + 1)))) n R S (upd (τ 264) s (nI (dn + 1))) (τ 265) := cfg_sf e2 hB2.1 hF1 (cfg_ext hdo g5 c1)
        have hSs3 : mSs (va_up τ 264 (upd (τ 264) s (nI (dn + 1)))) n R S N' := mSs_sf e2 hB2.1 hF1 rfl rfl rfl rfl rfl g2
        have hlink : stp S (stD (va_up τ 264 (upd (τ 264) s (nI (dn + 1)))) i) (stV (va_up τ 264 (upd (τ 264) s (nI (dn + 1)))) i) (upd (τ 264) s (nI (dn + 1))) (τ 265) s := stp_ext (fun _ _ => rfl) (fun _ _ _ _ => rfl) hdo g5 c2
        have hT1 : mTb (va_up τ 264 (upd (τ 264) s (nI (dn + 1)))) n b := e2
        iterate 4 (refine kX_one rfl ?_)
        refine kX_ialdV rfl rfl (by decide) (s) (by first | rfl | decide) (by omega) (hds) ?_
        iterate 2 (refine kX_one rfl ?_)
        refine kX_top (nI_1 dn) ?_
        refine kX_iastN rfl rfl (by decide) (s) (by first | rfl | decide) (by omega) ?_
        have hcom := mr_comesToBe L xs (d + 1) (va_up τ 264 (upd (τ 264) s (nI (dn + 1)))) n b R S C N' kl (nI i) (nI s) hT1 (mBs_sf e2 hF1 hB2) hSs3 hc1 (Or.inr ⟨i, s, by omega, rfl, rfl, hlink⟩)
        generalize va_up τ 264 (upd (τ 264) s (nI (dn + 1))) = ρ1 at *
        iterate 3 (refine kX_one rfl ?_)
        refine kX_cal hcom rfl (Or.inr rfl) rfl rfl rfl (fun r1 σ2 q1 => ?_)
        obtain ⟨N3, m1, m2, hr, hsf, hb3, hss, -⟩ := q1
        have hP : goP σ σ2 n R S C N r1 := ⟨N3, by omega, hr, mSf_trans g1 (mSf_trans hF1 hsf), hb3, hss⟩
        rcases hr with rfl | rfl | ⟨c', hc', rfl, -⟩
        · exact k58 _ σ2 hP
        · exact k58 _ σ2 hP
        · exact k58 _ σ2 hP
      iterate 4 (refine kX_one rfl ?_)
      repeat refine kX_one rfl ?_
      refine kX_ifF (decide_eq_false (nI_pos (by omega))) ?_
      iterate 3 (refine kX_one rfl ?_)
      refine kX_baldN rfl rfl (by decide) (6 * r + dn) (by first | rfl | decide) (by omega) ?_
      repeat refine kX_one rfl ?_
      refine kX_if (fun q2 => ?_) (fun q2 => ?_)
      · have q2 : τ 249 (6 * r + dn) = 0 := qeq q2
        iterate 1 (refine kX_one rfl ?_)
        repeat refine kX_one rfl ?_
        refine kX_ifF (decide_eq_false (nI_pos (by omega))) ?_
        exact kX_lv _ rfl rfl rfl (k76 q2)
      · have q2 : τ 249 (6 * r + dn) ≠ 0 := qeqF q2
        exact kX_lv _ rfl rfl rfl (k42 q2)
    · rw [if_neg hdn]
      iterate 7 (refine kX_one rfl ?_)
      exact kX_lv _ rfl rfl rfl (k90 (-1) (-6) τ ⟨N', n1, Or.inl rfl, g1, ⟨b, e2⟩, g2⟩ (fun _ => hgo))
set_option maxRecDepth 100000 in
set_option maxHeartbeats 4000000 in
theorem mr_goesOn (L : Nat) (xs : Nat → Int32) (d : Nat) (σ : kS) (n b R S C N i : Nat) (kl : List Nat) (h : mTb σ n b) (hB : mBs σ n R S C kl) (hS : mSs σ n R S N) (hi : i < N) : kXM kT L xs (d + 10) 218 [.ref 232, .int (nI i)] σ (fun r σ' => goP σ σ' n R S C N r) := by
  have hS4 := hB.2.1.1
  have hN6 := hS.1
  unfold kXM
  iterate 2 (refine kX_one rfl ?_)
  refine kX_cal (mr_takeState L xs (d + 8) σ S i hB.2.1.2.1 hS4 (by omega)) rfl (Or.inr rfl) rfl rfl rfl (fun r1 σ3 q1 => ?_)
  obtain ⟨rfl, D, V, rfl, hD, hV⟩ := q1
  obtain ⟨⟨x1, x2, x3⟩, x4⟩ := go_take h hB (mSf_refl σ n) h (Nat.le_refl N) hS hi hD hV
  iterate 1 (refine kX_one rfl ?_)
  refine kX_cal (mr_stateRow L xs (d + 2) _ n b R S kl x1 x2.2.2.1 x2.1 hS4 x3) rfl (Or.inr rfl) rfl rfl rfl (fun r1 σ4 q1 => ?_)
  obtain ⟨rfl, -, b', l', hb', hbd⟩ := q1
  iterate 2 (refine kX_one rfl ?_)
  exact kX_lv _ rfl rfl rfl (mr_go_loop L xs d σ n b R S C N i kl h hB hi (0, σ4) ⟨Nat.zero_le _, x4 σ4 b' l' _ hb' hbd⟩)
end
section
/-! the reference: noteAttack -/
/-- the way from the STATE i back to the first: movers and STATES -/
def pthR (σ : kS) : Nat → List (Nat × Nat) → Prop
  | i, [] => i = 0
  | i, (m, i') :: l => i' = i ∧ 0 < i ∧ σ 287 i = nI m ∧ ∃ j, j < i ∧ σ 286 i = nI j ∧ pthR σ j l
def pthB (σ : kS) (S N i : Nat) (l : List (Nat × Nat)) : Prop := l.length ≤ i ∧ (∀ s, s < S → stD σ i s = nI ((l.map Prod.fst).count s)) ∧ ∀ l1 q l2, l = l1 ++ q :: l2 → q.1 < S ∧ q.2 < N ∧ stD σ q.2 q.1 = nI ((l2.map Prod.fst).count q.1 + 1) ∧ ∀ k, k < 6 → stV σ q.2 (6 * q.1 + k) ≠ -6 → stV σ i (6 * q.1 + k) = stV σ q.2 (6 * q.1 + k)
theorem pth_ex {σ : kS} {n R S N : Nat} (hS : mSs σ n R S N) : ∀ i, i < N → ∃ l, pthR σ i l ∧ pthB σ S N i l := by
  intro i
  induction i using Nat.strongRecOn with
  | _ i ih =>
    intro hi
    obtain ⟨-, g2, g3⟩ := hS.2.2 i hi
    rcases Nat.eq_zero_or_pos i with rfl | hp
    · refine ⟨[], rfl, Nat.zero_le _, fun s hs => g2 rfl s hs, fun l1 q l2 e => ?_⟩
      cases l1 <;> cases e
    · obtain ⟨j, m, j1, j2, j3, m1, m2⟩ := g3 hp
      obtain ⟨l, h1, h0, h2, h3⟩ := ih j j1 (by omega)
      have hD : ∀ s, s < S → stD σ i s = nI ((((m, i) :: l).map Prod.fst).count s) := fun s hs => by
        rw [List.map_cons, List.count_cons]
        by_cases e : s = m
        · rw [((m2 s hs).2 e).1, h2 s hs, nI_1]
          simp [e]
        · rw [((m2 s hs).1 e).1, h2 s hs]
          have : ¬ ((m == s) = true) := by
            rw [beq_iff_eq]
            exact fun q => e q.symm
          simp [this]
      refine ⟨(m, i) :: l, ⟨rfl, hp, j3, j, j1, j2, h1⟩, (by rw [List.length_cons]; omega), hD, fun l1 q l2 e => ?_⟩
      cases l1 with
      | nil =>
        rw [List.nil_append] at e
        obtain ⟨rfl, rfl⟩ := List.cons.inj e
        refine ⟨m1, hi, ?_, fun _ _ _ => rfl⟩
        have := hD m m1
        rw [List.map_cons, List.count_cons_self] at this
        exact this
      | cons a l1 =>
        rw [List.cons_append] at e
        obtain ⟨rfl, e2⟩ := List.cons.inj e
        obtain ⟨q1, q2, q3, q4⟩ := h3 l1 q l2 e2
        refine ⟨q1, q2, q3, fun k hk hne => ?_⟩
        have hj := q4 k hk hne
        by_cases e : q.1 = m
        · rw [((m2 q.1 q1).2 e).2 k hk (by rw [hj]; exact hne), hj]
        · rw [((m2 q.1 q1).1 e).2 k hk, hj]
theorem len_24 {l : List Nat} (h4 : ∀ s ∈ l, s < 4) (hc : ∀ s, l.count s ≤ 6) : l.length ≤ 24 := by
  have key : ∀ (l : List Nat), (∀ s ∈ l, s < 4) → l.length = l.count 0 + l.count 1 + l.count 2 + l.count 3 := by
    intro l
    induction l with
    | nil => intro _; rfl
    | cons a l ih =>
      intro hl
      have h1 := ih (fun s hs => hl s (List.mem_cons_of_mem _ hs))
      have ha := hl a List.mem_cons_self
      rw [List.length_cons, h1, List.count_cons, List.count_cons, List.count_cons, List.count_cons]
      obtain rfl | rfl | rfl | rfl : a = 0 ∨ a = 1 ∨ a = 2 ∨ a = 3 := by omega
      all_goals simp
      all_goals omega
  rw [key l h4]
  have := hc 0
  have := hc 1
  have := hc 2
  have := hc 3
  omega
def naS (σ : kS) (AS AT : Nat → Int32) (m : Int32) : kS := va_up (va_up (va_up σ 288 AS) 289 AT) 232 (upd (σ 232) 72 m)
theorem naS_Ak {σ : kS} {n b R S N : Nat} {l : List (Nat × Nat)} {AS AT : Nat → Int32} (h : mTb σ n b) (hR : mRo σ n R) (hS4 : S ≤ 4) (hS : mSs σ n R S N) (hN : 0 < N) (hP : pthB σ S N (N - 1) l) (h24 : l.length ≤ 24) (hA : ∀ p q, l.reverse[p]? = some q → AS p = nI q.1 ∧ AT p = nI q.2) : mAk (naS σ AS AT (nI l.length)) n R S := by
  have hR4 := hR.1
  have hN6 := hS.1
  obtain ⟨p1, p2, p3⟩ := hP
  have hcnt : ∀ s, (l.map Prod.fst).count s < 2147483648 := fun s => by
    have := List.count_le_length (a := s) (l := l.map Prod.fst)
    rw [List.length_map] at this
    omega
  have hev : ∀ r, r < R → fN (σ 247 r) ≤ 6 := fun r hr => by
    obtain ⟨-, e, e1, e2⟩ := hR.2.2.1 r hr
    rw [e2, fN_nI (by omega)]
    exact e1
  have hel : (l.reverse.map Prod.fst).length = l.length := by simp
  refine Or.inr ⟨l.reverse.map Prod.fst, fun s k => stV σ (N - 1) (6 * s + k), by omega, ?_, fun i hi => ?_, fun s hs => ?_, fun i hi => ?_⟩
  · show nI l.length = _
    rw [hel]
  · have hi' : i < l.reverse.length := by simpa using hi
    have := (hA i l.reverse[i] (List.getElem?_eq_getElem hi')).1
    rw [List.getElem_map]
    exact this
  · have hs' : s ∈ l.map Prod.fst := by
      rw [List.map_reverse] at hs
      exact List.mem_reverse.mp hs
    obtain ⟨q, hq, e⟩ := List.mem_map.mp hs'
    obtain ⟨l1, l2, e2⟩ := List.append_of_mem hq
    have hsS : s < S := by
      rw [← e]
      exact (p3 l1 q l2 e2).1
    obtain ⟨r, dn, a1, a2, a3, a4, a5⟩ := (hS.2.2 (N - 1) (by omega)).1 s hsS
    have he := hev r a1
    have hdn : (l.map Prod.fst).count s = dn := nI_inj ((p2 s hsS).symm.trans a3) (hcnt s)
    have hcr : (l.reverse.map Prod.fst).count s = dn := by
      rw [List.map_reverse, List.count_reverse, hdn]
    have hfr : fN (σ 255 s) = r := by rw [a2]; exact fN_nI (by omega)
    refine ⟨hsS, ?_, fun k hk hb => ?_⟩
    · show (l.reverse.map Prod.fst).count s ≤ fN (σ 247 (fN (σ 255 s)))
      rw [hcr, hfr]
      exact a4
    · have hb : bdv σ (fN (σ 255 s)) ((l.reverse.map Prod.fst).count s) k := hb
      rw [hcr, hfr] at hb
      have := (a5 k hk).1 hb
      show mVz σ n (fN (σ 255 s)) k _ ∧ (σ 246 (6 * fN (σ 255 s) + k) ≠ nI 2 → _)
      rw [hfr]
      exact this
  · have hi' : i < l.reverse.length := by simpa using hi
    obtain ⟨q, hq⟩ : ∃ q, l.reverse[i] = q := ⟨_, rfl⟩
    have hA2 := (hA i q (by rw [List.getElem?_eq_getElem hi', hq])).2
    have hsplit : l.reverse = l.reverse.take i ++ q :: l.reverse.drop (i + 1) := by
      rw [← hq, ← List.drop_eq_getElem_cons hi', List.take_append_drop]
    have hl : l = (l.reverse.drop (i + 1)).reverse ++ q :: (l.reverse.take i).reverse := by
      have := congrArg List.reverse hsplit
      rw [List.reverse_reverse, List.reverse_append, List.reverse_cons, List.append_assoc] at this
      exact this
    obtain ⟨q1, q2, q3, q4⟩ := p3 _ q _ hl
    have hasi : (l.reverse.map Prod.fst)[i] = q.1 := by rw [List.getElem_map, hq]
    have htk : ((l.reverse.map Prod.fst).take i).count q.1 = (((l.reverse.take i).reverse).map Prod.fst).count q.1 := by
      rw [List.map_reverse (l := l.reverse.take i), List.count_reverse, List.map_take]
    obtain ⟨r, dn, a1, a2, a3, a4, a5⟩ := (hS.2.2 q.2 q2).1 q.1 q1
    have he := hev r a1
    have hle : ((l.reverse.map Prod.fst).take i).count q.1 ≤ 600 := by
      have := List.count_le_length (a := q.1) (l := (l.reverse.map Prod.fst).take i)
      rw [List.length_take] at this
      omega
    have hdn : ((l.reverse.map Prod.fst).take i).count q.1 + 1 = dn := by
      rw [← htk] at q3
      exact nI_inj (q3.symm.trans a3)
    have hfr : fN (σ 255 q.1) = r := by rw [a2]; exact fN_nI (by omega)
    refine ⟨q.2, by omega, hA2, fun k hk => ?_⟩
    rw [hasi]
    show σ 285 (24 * q.2 + 6 * q.1 + k) = cit (bdv σ (fN (σ 255 q.1)) (((l.reverse.map Prod.fst).take i).count q.1 + 1) k) (stV σ (N - 1) (6 * q.1 + k)) (-6)
    rw [hfr, hdn, show σ 285 (24 * q.2 + 6 * q.1 + k) = stV σ q.2 (6 * q.1 + k) by unfold stV; rw [show 24 * q.2 + (6 * q.1 + k) = 24 * q.2 + 6 * q.1 + k by omega]]
    by_cases hb : bdv σ r dn k
    · rw [cit_T hb, q4 k hk]
      exact (mVz_ne h ((a5 k hk).1 hb).1).1
    · rw [cit_F hb]
      exact (a5 k hk).2 hb
theorem pth_24 {σ : kS} {n R S N : Nat} {l : List (Nat × Nat)} (hR : mRo σ n R) (hS4 : S ≤ 4) (hS : mSs σ n R S N) (hN : 0 < N) (hP : pthB σ S N (N - 1) l) : l.length ≤ 24 := by
  have hN6 := hS.1
  obtain ⟨p1, p2, p3⟩ := hP
  have hm : ∀ s ∈ l.map Prod.fst, s < S := fun s hs => by
    obtain ⟨q, hq, rfl⟩ := List.mem_map.mp hs
    obtain ⟨l1, l2, e⟩ := List.append_of_mem hq
    exact (p3 l1 q l2 e).1
  have := len_24 (l := l.map Prod.fst) (fun s hs => by have := hm s hs; omega) (fun s => by
    by_cases hs : s < S
    · obtain ⟨r, dn, a1, a2, a3, a4, -⟩ := (hS.2.2 (N - 1) (by omega)).1 s hs
      obtain ⟨-, e, e1, e2⟩ := hR.2.2.1 r a1
      rw [e2, fN_nI (by omega)] at a4
      have hc := List.count_le_length (a := s) (l := l.map Prod.fst)
      rw [List.length_map] at hc
      have : (l.map Prod.fst).count s = dn := nI_inj ((p2 s hs).symm.trans a3)
      omega
    · have : (l.map Prod.fst).count s = 0 := List.count_eq_zero.mpr (fun q => hs (hm s q))
      omega)
  rw [List.length_map] at this
  exact this
set_option maxRecDepth 100000 in
set_option maxHeartbeats 4000000 in
theorem mr_noteAttack (L : Nat) (xs : Nat → Int32) (d : Nat) (σ : kS) (n b R S N : Nat) (h : mTb σ n b) (hR : mRo σ n R) (hS4 : S ≤ 4) (hS : mSs σ n R S N) (hN : 0 < N) : kXM kT L xs (d + 1) 219 [.ref 232] σ (fun r σ' => r = none ∧ ∃ AS AT x, σ' = naS σ AS AT x ∧ mAk σ' n R S) := by
  have hN6 := hS.1
  obtain ⟨l0, hp, hP⟩ := pth_ex hS (N - 1) (by omega)
  have h24 := pth_24 hR hS4 hS hN hP
  have hst : σ 232 69 = nI (N - 1 + 1) := by rw [hS.2.1, show N - 1 + 1 = N by omega]
  unfold kXM
  have loop2 : ∀ q : List (Nat × Nat) × Nat × (Nat → Int32) × (Nat → Int32), ((∃ l1, l0 = l1 ++ q.1) ∧ q.2.1 < 600 ∧ pthR σ q.2.1 q.1 ∧ ∀ p z, q.1.length ≤ p → l0.reverse[p]? = some z → q.2.2.1 p = nI z.1 ∧ q.2.2.2 p = nI z.2) → kX kT L xs (d + 1) 219 38 [(2, .int (nI q.2.1)), (1, .int (nI q.1.length)), (0, .ref 232)] [] (naS σ q.2.2.1 q.2.2.2 (nI l0.length)) (fun r σ' => r = none ∧ ∃ AS AT x, σ' = naS σ AS AT x ∧ mAk σ' n R S) := by
    refine kX_while (fun q : List (Nat × Nat) × Nat × (Nat → Int32) × (Nat → Int32) => [(2, .int (nI q.2.1)), (1, .int (nI q.1.length)), (0, .ref 232)]) (fun q => naS σ q.2.2.1 q.2.2.2 (nI l0.length)) _ (fun q => q.1.length) ?_
    rintro ⟨l, t, AS, AT⟩ ⟨⟨l1, i1⟩, i2, i3, i4⟩ ih
    dsimp only at i1 i2 i3 i4 ih ⊢
    rcases l with _ | ⟨⟨m, t'⟩, l⟩
    · have i3 : t = 0 := i3
      subst i3
      iterate 2 (refine kX_one rfl ?_)
      refine kX_ret (i := .return_) (len := 1) rfl (Or.inr rfl) rfl (⟨rfl, AS, AT, nI l0.length, rfl, naS_Ak h hR hS4 hS hN hP h24 (fun p z hz => i4 p z (Nat.zero_le _) hz)⟩)
    · obtain ⟨rfl, j0, j1, j, j2, j3, j4⟩ := i3
      have hll : l.length < 24 := by
        have := congrArg List.length i1
        simp at this
        omega
      have hat : l0.reverse[l.length]? = some (m, t') := by
        rw [i1, List.reverse_append, List.reverse_cons, List.append_assoc, List.getElem?_append_right (by simp)]
        simp
      iterate 1 (refine kX_one rfl ?_)
      repeat refine kX_one rfl ?_
      refine kX_ifF (decide_eq_false (nI_nle (by omega) (by omega))) ?_
      iterate 1 (refine kX_one rfl ?_)
      refine kX_lv [(2, .int (nI t')), (1, .int (nI l.length)), (0, .ref 232)] rfl rfl ?_ ?_
      · rw [show nI l.length = nI (l.length + 1) + Int32.ofInt (-1) from (pk_m1 _).symm]
        rfl
      iterate 6 (refine kX_one rfl ?_)
      refine kX_ialdV rfl rfl (by decide) (t') (by first | rfl | decide) (i2) (j1) ?_
      refine kX_iastN rfl rfl (by decide) (l.length) (by first | rfl | decide) (by omega) ?_
      iterate 4 (refine kX_one rfl ?_)
      refine kX_iastN rfl rfl (by decide) (l.length) (by first | rfl | decide) (by omega) ?_
      iterate 3 (refine kX_one rfl ?_)
      refine kX_ialdV rfl rfl (by decide) (t') (by first | rfl | decide) (i2) (j3) ?_
      iterate 2 (refine kX_one rfl ?_)
      have := ih (l, j, upd AS l.length (nI m), upd AT l.length (nI t')) ⟨⟨l1 ++ [(m, t')], by rw [i1]; simp⟩, by simp only; omega, j4, fun p z hpl hz => by
        simp only at hpl ⊢
        by_cases e : p = l.length
        · subst e
          rw [hat] at hz
          obtain rfl := Option.some.inj hz
          rw [pk_us, pk_us]
          exact ⟨rfl, rfl⟩
        · rw [pk_un e, pk_un e]
          exact i4 p z (by rw [List.length_cons]; omega) hz⟩ (by simp)
      dsimp only at this
      refine kX_to _ _ rfl rfl rfl ?_ this
      funext c; unfold naS va_up; repeat' split
      all_goals first | rfl | omega | (subst_vars; rfl) | (funext j; unfold upd; repeat' split; all_goals first | rfl | omega | (subst_vars; rfl))
  have loop1 : ∀ q : List (Nat × Nat) × Nat × Nat, (q.2.1 < 600 ∧ pthR σ q.2.1 q.1 ∧ q.2.2 + q.1.length = l0.length) → kX kT L xs (d + 1) 219 9 [(2, .int (nI q.2.1)), (1, .int (nI q.2.2)), (0, .ref 232)] [] σ (fun r σ' => r = none ∧ ∃ AS AT x, σ' = naS σ AS AT x ∧ mAk σ' n R S) := by
    refine kX_while (fun q : List (Nat × Nat) × Nat × Nat => [(2, .int (nI q.2.1)), (1, .int (nI q.2.2)), (0, .ref 232)]) (fun q => σ) _ (fun q => q.1.length) ?_
    rintro ⟨l, t, c⟩ ⟨i2, i3, i4⟩ ih
    dsimp only at i2 i3 i4 ih ⊢
    rcases l with _ | ⟨⟨m, t'⟩, l⟩
    · have i3 : t = 0 := i3
      subst i3
      have i4 : c = l0.length := i4
      subst i4
      iterate 7 (refine kX_one rfl ?_)
      refine kX_top (hst) ?_
      iterate 3 (refine kX_one rfl ?_)
      have := loop2 (l0, N - 1, σ 288, σ 289) ⟨⟨[], rfl⟩, by simp only; omega, hp, fun p z hpl hz => by
        have := (List.getElem?_eq_some_iff.mp hz).1
        simp at this hpl
        omega⟩
      dsimp only at this
      rw [← nI_pred] at this
      refine kX_to _ _ rfl rfl rfl ?_ this
      funext c; unfold naS va_up; repeat' split
      all_goals first | rfl | omega | (subst_vars; rfl) | (funext j; unfold upd; repeat' split; all_goals first | rfl | omega | (subst_vars; rfl))
    · obtain ⟨rfl, j0, j1, j, j2, j3, j4⟩ := i3
      iterate 1 (refine kX_one rfl ?_)
      repeat refine kX_one rfl ?_
      refine kX_ifF (decide_eq_false (nI_nle (by omega) (by omega))) ?_
      iterate 4 (refine kX_one rfl ?_)
      refine kX_ialdV rfl rfl (by decide) (t') (by first | rfl | decide) (i2) (j3) ?_
      iterate 2 (refine kX_one rfl ?_)
      have := ih (l, j, c + 1) ⟨by simp only; omega, j4, by
        simp only
        rw [List.length_cons] at i4
        omega⟩ (by simp)
      dsimp only at this
      rw [← nI_1] at this
      exact kX_lv _ rfl rfl rfl this
  iterate 4 (refine kX_one rfl ?_)
  refine kX_top (hst) ?_
  iterate 3 (refine kX_one rfl ?_)
  have := loop1 (l0, N - 1, 0) ⟨by simp only; omega, hp, by simp⟩
  dsimp only at this
  rw [← nI_pred] at this
  exact kX_lv _ rfl rfl rfl this
end
section
/-! the reference: search -/
set_option maxRecDepth 100000 in
set_option maxHeartbeats 4000000 in
theorem mr_se_k1 (L : Nat) (xs : Nat → Int32) (d : Nat) (σ : kS) (Q : Option Value → kS → Prop) (he : ∀ KD, (∀ j, j < 4 → KD j = σ 264 j) → kX kT L xs (d + 1) 220 25 [(0, .ref 232)] [] (va_up σ 290 KD) Q) :
    ∀ q : Nat × (Nat → Int32), (q.1 ≤ 4 ∧ ∀ j, j < q.1 → q.2 j = σ 264 j) → kX kT L xs (d + 1) 220 2 [(1, .int (nI q.1)), (0, .ref 232)] [] (va_up σ 290 q.2) Q := by
  refine kX_while (fun q : Nat × (Nat → Int32) => [(1, .int (nI q.1)), (0, .ref 232)]) (fun q => va_up σ 290 q.2) _ (fun q => 4 - q.1) ?_
  rintro ⟨k, A⟩ ⟨i1, i2⟩ ih
  dsimp only at i1 i2 ih ⊢
  iterate 2 (refine kX_one rfl ?_)
  repeat refine kX_one rfl ?_
  refine kX_if (fun q => ?_) (fun q => ?_)
  · have q := qge q k 4
    obtain rfl : k = 4 := by omega
    exact kX_lv _ rfl rfl rfl (he A i2)
  · have q := qgeF q k 4
    iterate 6 (refine kX_one rfl ?_)
    refine kX_ialdN rfl rfl (by decide) (k) (by first | rfl | decide) (q) ?_
    refine kX_iastN rfl rfl (by decide) (k) (by first | rfl | decide) (q) ?_
    iterate 2 (refine kX_one rfl ?_)
    have := ih (k + 1, upd A k (σ 264 k)) ⟨q, fun j hj => by
      simp only at hj ⊢
      by_cases e : j = k
      · subst e
        exact pk_us
      · rw [pk_un e]
        exact i2 j (by omega)⟩ (by simp only; omega)
    dsimp only at this
    rw [← nI_1] at this
    refine kX_to _ _ rfl rfl rfl ?_ this
    funext c; unfold  va_up; repeat' split
    all_goals first | rfl | omega | (subst_vars; rfl) | (funext j; unfold upd; repeat' split; all_goals first | rfl | omega | (subst_vars; rfl))
set_option maxRecDepth 100000 in
set_option maxHeartbeats 4000000 in
theorem mr_se_k2 (L : Nat) (xs : Nat → Int32) (d : Nat) (σ : kS) (Q : Option Value → kS → Prop) (he : ∀ KD, (∀ j, j < 24 → KD j = σ 265 j) → kX kT L xs (d + 1) 220 51 [(0, .ref 232)] [] (va_up σ 291 KD) Q) :
    ∀ q : Nat × (Nat → Int32), (q.1 ≤ 24 ∧ ∀ j, j < q.1 → q.2 j = σ 265 j) → kX kT L xs (d + 1) 220 27 [(1, .int (nI q.1)), (0, .ref 232)] [] (va_up σ 291 q.2) Q := by
  refine kX_while (fun q : Nat × (Nat → Int32) => [(1, .int (nI q.1)), (0, .ref 232)]) (fun q => va_up σ 291 q.2) _ (fun q => 24 - q.1) ?_
  rintro ⟨k, A⟩ ⟨i1, i2⟩ ih
  dsimp only at i1 i2 ih ⊢
  iterate 2 (refine kX_one rfl ?_)
  repeat refine kX_one rfl ?_
  refine kX_if (fun q => ?_) (fun q => ?_)
  · have q := qge q k 24
    obtain rfl : k = 24 := by omega
    exact kX_lv _ rfl rfl rfl (he A i2)
  · have q := qgeF q k 24
    iterate 6 (refine kX_one rfl ?_)
    refine kX_ialdN rfl rfl (by decide) (k) (by first | rfl | decide) (q) ?_
    refine kX_iastN rfl rfl (by decide) (k) (by first | rfl | decide) (q) ?_
    iterate 2 (refine kX_one rfl ?_)
    have := ih (k + 1, upd A k (σ 265 k)) ⟨q, fun j hj => by
      simp only at hj ⊢
      by_cases e : j = k
      · subst e
        exact pk_us
      · rw [pk_un e]
        exact i2 j (by omega)⟩ (by simp only; omega)
    dsimp only at this
    rw [← nI_1] at this
    refine kX_to _ _ rfl rfl rfl ?_ this
    funext c; unfold  va_up; repeat' split
    all_goals first | rfl | omega | (subst_vars; rfl) | (funext j; unfold upd; repeat' split; all_goals first | rfl | omega | (subst_vars; rfl))
set_option maxRecDepth 100000 in
set_option maxHeartbeats 4000000 in
theorem mr_se_r1 (L : Nat) (xs : Nat → Int32) (d : Nat) (σ : kS) (v : Int32) (Q : Option Value → kS → Prop) (he : ∀ KD, (∀ j, j < 4 → KD j = σ 290 j) → kX kT L xs (d + 1) 220 127 [(0, .ref 232), (1, .int v)] [] (va_up σ 264 KD) Q) :
    ∀ q : Nat × (Nat → Int32), (q.1 ≤ 4 ∧ ∀ j, j < q.1 → q.2 j = σ 290 j) → kX kT L xs (d + 1) 220 104 [(2, .int (nI q.1)), (0, .ref 232), (1, .int v)] [] (va_up σ 264 q.2) Q := by
  refine kX_while (fun q : Nat × (Nat → Int32) => [(2, .int (nI q.1)), (0, .ref 232), (1, .int v)]) (fun q => va_up σ 264 q.2) _ (fun q => 4 - q.1) ?_
  rintro ⟨k, A⟩ ⟨i1, i2⟩ ih
  dsimp only at i1 i2 ih ⊢
  iterate 2 (refine kX_one rfl ?_)
  repeat refine kX_one rfl ?_
  refine kX_if (fun q => ?_) (fun q => ?_)
  · have q := qge q k 4
    obtain rfl : k = 4 := by omega
    exact kX_lv _ rfl rfl rfl (he A i2)
  · have q := qgeF q k 4
    iterate 6 (refine kX_one rfl ?_)
    refine kX_ialdN rfl rfl (by decide) (k) (by first | rfl | decide) (q) ?_
    refine kX_iastN rfl rfl (by decide) (k) (by first | rfl | decide) (q) ?_
    iterate 2 (refine kX_one rfl ?_)
    have := ih (k + 1, upd A k (σ 290 k)) ⟨q, fun j hj => by
      simp only at hj ⊢
      by_cases e : j = k
      · subst e
        exact pk_us
      · rw [pk_un e]
        exact i2 j (by omega)⟩ (by simp only; omega)
    dsimp only at this
    rw [← nI_1] at this
    refine kX_to _ _ rfl rfl rfl ?_ this
    funext c; unfold  va_up; repeat' split
    all_goals first | rfl | omega | (subst_vars; rfl) | (funext j; unfold upd; repeat' split; all_goals first | rfl | omega | (subst_vars; rfl))
set_option maxRecDepth 100000 in
set_option maxHeartbeats 4000000 in
theorem mr_se_r2 (L : Nat) (xs : Nat → Int32) (d : Nat) (σ : kS) (v : Int32) (Q : Option Value → kS → Prop) (he : ∀ KD, (∀ j, j < 24 → KD j = σ 291 j) → kX kT L xs (d + 1) 220 153 [(0, .ref 232), (1, .int v)] [] (va_up σ 265 KD) Q) :
    ∀ q : Nat × (Nat → Int32), (q.1 ≤ 24 ∧ ∀ j, j < q.1 → q.2 j = σ 291 j) → kX kT L xs (d + 1) 220 129 [(2, .int (nI q.1)), (0, .ref 232), (1, .int v)] [] (va_up σ 265 q.2) Q := by
  refine kX_while (fun q : Nat × (Nat → Int32) => [(2, .int (nI q.1)), (0, .ref 232), (1, .int v)]) (fun q => va_up σ 265 q.2) _ (fun q => 24 - q.1) ?_
  rintro ⟨k, A⟩ ⟨i1, i2⟩ ih
  dsimp only at i1 i2 ih ⊢
  iterate 2 (refine kX_one rfl ?_)
  repeat refine kX_one rfl ?_
  refine kX_if (fun q => ?_) (fun q => ?_)
  · have q := qge q k 24
    obtain rfl : k = 24 := by omega
    exact kX_lv _ rfl rfl rfl (he A i2)
  · have q := qgeF q k 24
    iterate 6 (refine kX_one rfl ?_)
    refine kX_ialdN rfl rfl (by decide) (k) (by first | rfl | decide) (q) ?_
    refine kX_iastN rfl rfl (by decide) (k) (by first | rfl | decide) (q) ?_
    iterate 2 (refine kX_one rfl ?_)
    have := ih (k + 1, upd A k (σ 291 k)) ⟨q, fun j hj => by
      simp only at hj ⊢
      by_cases e : j = k
      · subst e
        exact pk_us
      · rw [pk_un e]
        exact i2 j (by omega)⟩ (by simp only; omega)
    dsimp only at this
    rw [← nI_1] at this
    refine kX_to _ _ rfl rfl rfl ?_ this
    funext c; unfold  va_up; repeat' split
    all_goals first | rfl | omega | (subst_vars; rfl) | (funext j; unfold upd; repeat' split; all_goals first | rfl | omega | (subst_vars; rfl))
set_option maxRecDepth 100000 in
set_option maxHeartbeats 4000000 in
theorem mr_se_end (L : Nat) (xs : Nat → Int32) (d : Nat) (τ : kS) (v : Int32) (Q : Option Value → kS → Prop)
    (he : ∀ x RD RV, (∀ j, j < 4 → RD j = τ 290 j) → (∀ j, j < 24 → RV j = τ 291 j) → Q (some (.int x)) (va_up (va_up (va_up τ 264 RD) 265 RV) 232 (upd (τ 232) 47 0))) :
    kX kT L xs (d + 1) 220 102 [(0, .ref 232), (1, .int v)] [] τ Q := by
  iterate 2 (refine kX_one rfl ?_)
  have h1 := mr_se_r1 L xs d τ v Q (fun RD hD => ?_) (0, τ 264) ⟨Nat.zero_le _, fun j hj => absurd hj (Nat.not_lt_zero j)⟩
  · refine kX_to _ _ rfl rfl rfl ?_ h1
    funext c; unfold  va_up; repeat' split
    all_goals first | rfl | omega | (subst_vars; rfl) | (funext j; unfold upd; repeat' split; all_goals first | rfl | omega | (subst_vars; rfl))
  · iterate 2 (refine kX_one rfl ?_)
    have h2 := mr_se_r2 L xs d (va_up τ 264 RD) v Q (fun RV hV => ?_) (0, τ 265) ⟨Nat.zero_le _, fun j hj => absurd hj (Nat.not_lt_zero j)⟩
    · refine kX_to _ _ rfl rfl rfl ?_ h2
      funext c; unfold  va_up; repeat' split
      all_goals first | rfl | omega | (subst_vars; rfl) | (funext j; unfold upd; repeat' split; all_goals first | rfl | omega | (subst_vars; rfl))
    · iterate 5 (refine kX_one rfl ?_)
      refine kX_st (va_up (va_up (va_up τ 264 RD) 265 RV) 232 (upd (τ 232) 47 0)) rfl ?_
      repeat refine kX_one rfl ?_
      refine kX_if (fun q => ?_) (fun q => ?_)
      · iterate 2 (refine kX_one rfl ?_)
        repeat refine kX_one rfl ?_
        refine kX_if (fun q2 => ?_) (fun q2 => ?_)
        · repeat refine kX_one rfl ?_
          refine kX_ret (i := .ireturn) (len := 1) rfl (Or.inr rfl) rfl (he _ RD RV hD hV)
        · repeat refine kX_one rfl ?_
          refine kX_ret (i := .ireturn) (len := 1) rfl (Or.inr rfl) rfl (he _ RD RV hD hV)
      · repeat refine kX_one rfl ?_
        refine kX_ret (i := .ireturn) (len := 1) rfl (Or.inr rfl) rfl (he _ RD RV hD hV)
theorem se_Rn {σ τ : kS} {n b b' R S : Nat} {ds : List Nat} {RD RV : Nat → Int32} (h : mTb σ n b) (hR : mRo σ n R) (hF : mSf σ τ n) (hS4 : S ≤ 4) (hS : mRn σ n R S ds) (hT : mTb τ n b') (hd : ∀ j, j < 4 → RD j = σ 264 j) (hv : ∀ j, j < 24 → RV j = σ 265 j) : mRn (va_up (va_up τ 264 RD) 265 RV) n R S ds := by
  have g := mFr_Rn (τ := pat σ τ) h hR (pat_fr hF) hS
  have hR1 : mRo (pat σ τ) n R := mFr_Ro (τ := pat σ τ) h (pat_fr hF) hR
  have hT1 : mTb (pat σ τ) n b' := hT
  have hR2 : mRo (va_up (va_up τ 264 RD) 265 RV) n R := hR1
  have hT2 : mTb (va_up (va_up τ 264 RD) 265 RV) n b' := hT
  refine ⟨g.1, g.2.1, g.2.2.1, fun s hs => ?_⟩
  have gs := g.2.2.2 s hs
  obtain ⟨r, r1, r2, -⟩ := gs
  obtain ⟨a1, a2, a3⟩ := mSn_iff hT1 hR1 (g.2.2.2 s hs) r2 r1
  refine mSn_of (r := r) hT2 hR2 r1 r2 ?_ a2 (fun k hk => ?_)
  · show RD s = _
    rw [hd s (by omega)]
    exact a1
  · have e : RV (6 * s + k) = σ 265 (6 * s + k) := hv _ (by omega)
    have := a3 k hk
    show (bdv τ r _ k → mVz τ n r k (RV (6 * s + k))) ∧ (¬ bdv τ r _ k → RV (6 * s + k) = -6)
    rw [e]
    exact this
/-- the first STATE -/
theorem se_cfg {σ : kS} {n b R S : Nat} {D V : Nat → Int32} (h : mTb σ n b) (hR : mRo σ n R) (hS : mSe σ n R S) (hD : ∀ s, s < S → D s = 0) (hV : ∀ s k, s < S → k < 6 → V (6 * s + k) = if k < fN (σ 244 (fN (σ 255 s))) then σ 256 (6 * s + k) else -6) : cfg (va_up (va_up σ 264 D) 265 V) n R S D V := by
  have hR4 := hR.1
  intro s hs
  obtain ⟨r, r1, r2, -⟩ := hS.2.2 s hs
  have hm := mSn_begin h hR hS hD hV s hs
  have hT2 : mTb (va_up (va_up σ 264 D) 265 V) n b := h
  have hR2 : mRo (va_up (va_up σ 264 D) 265 V) n R := hR
  obtain ⟨a1, a2, a3⟩ := mSn_iff hT2 hR2 hm r2 r1
  refine ⟨r, 0, r1, r2, hD s hs, a2, fun k hk => ⟨fun hb => ⟨(a3 k hk).1 hb, fun _ => ?_⟩, (a3 k hk).2⟩⟩
  have hb1 : k < fN (σ 244 r) := hb.1
  show V (6 * s + k) = σ 256 (6 * s + k)
  rw [hV s k hs hk, r2, fN_nI (by omega), if_pos hb1]
set_option maxRecDepth 100000 in
set_option maxHeartbeats 4000000 in
theorem mr_se_loop (L : Nat) (xs : Nat → Int32) (d : Nat) (σ : kS) (n b R S C : Nat) (kl : List Nat) (h : mTb σ n b) (hB : mBs σ n R S C kl) (Q : Option Value → kS → Prop)
    (he : ∀ v τ, (∃ N', ceR C N' (some (.int v)) ∧ mSf σ τ n ∧ (∃ b, mTb τ n b) ∧ mSs τ n R S N') → kX kT L xs (d + 11) 220 94 [(0, .ref 232), (1, .int v)] [] τ Q) :
    ∀ q : Nat × Int32 × kS, (q.1 ≤ 600 ∧ ∃ N', ceR C N' (some (.int q.2.1)) ∧ mSf σ q.2.2 n ∧ (∃ b, mTb q.2.2 n b) ∧ mSs q.2.2 n R S N') → kX kT L xs (d + 11) 220 68 [(2, .int (nI q.1)), (1, .int q.2.1), (0, .ref 232)] [] q.2.2 Q := by
  refine kX_while (fun q : Nat × Int32 × kS => [(2, .int (nI q.1)), (1, .int q.2.1), (0, .ref 232)]) (fun q => q.2.2) _ (fun q => 600 - q.1) ?_
  rintro ⟨i, v, τ⟩ ⟨i1, i2⟩ ih
  dsimp only at i1 i2 ih ⊢
  have hI := i2
  obtain ⟨N', g1, g2, ⟨b', g3⟩, g4⟩ := i2
  have hN6 := g4.1
  iterate 3 (refine kX_one rfl ?_)
  refine kX_top (g4.2.1) ?_
  repeat refine kX_one rfl ?_
  refine kX_if (fun q => ?_) (fun q => ?_)
  · exact kX_lv _ rfl rfl rfl (he v τ hI)
  · have q := qgeF q i N'
    iterate 2 (refine kX_one rfl ?_)
    repeat refine kX_one rfl ?_
    refine kX_if (fun q2 => ?_) (fun q2 => ?_)
    · exact kX_lv _ rfl rfl rfl (he v τ hI)
    · iterate 2 (refine kX_one rfl ?_)
      refine kX_cal (mr_goesOn L xs d τ n b' R S C N' i kl g3 (mBs_sf h g2 hB) g4 q) rfl (Or.inr rfl) rfl rfl rfl (fun r1 τ2 q1 => ?_)
      obtain ⟨N2, m1, m2, m3, m4, m5⟩ := q1
      have hgo : ∀ w : Int32, r1 = some (.int w) → kX kT L xs (d + 11) 220 87 [(2, .int (nI i)), (1, .int v), (0, .ref 232)] [.int w] τ2 Q := by
        intro w hw
        subst hw
        iterate 3 (refine kX_one rfl ?_)
        have := ih (i + 1, w, τ2) ⟨by simp only; omega, N2, m2, mSf_trans g2 m3, m4, m5⟩ (by simp only; omega)
        dsimp only at this
        rw [← nI_1] at this
        exact kX_lv _ rfl rfl rfl this
      rcases m2 with rfl | rfl | ⟨c', hc', rfl, -⟩
      · exact hgo _ rfl
      · exact hgo _ rfl
      · exact hgo _ rfl
end
section
/-! the reference: search, all of it -/
/-- what is kept -/
def seQ (σ : kS) (KD KV : Nat → Int32) : kS := va_up (va_up (va_up σ 290 KD) 291 KV) 232 (fgO (σ 232))
theorem se_after {σ τ : kS} {n b b' R S C : Nat} {kl : List Nat} {KD KV RD RV AS AT : Nat → Int32} {x : Int32} (h : mI σ n b R S C kl) (hF : mSf (seQ σ KD KV) τ n) (hT : mTb τ n b') (hA : mAk (naS τ AS AT x) n R S) (hd : ∀ j, j < 4 → RD j = σ 264 j) (hv : ∀ j, j < 24 → RV j = σ 265 j) : mAfter σ (va_up (va_up (va_up (naS τ AS AT x) 264 RD) 265 RV) 232 (upd (naS τ AS AT x 232) 47 0)) R := by
  obtain ⟨h1, h2, h3, h4, h5, h6, h7⟩ := h
  have hT0 : mTb (seQ σ KD KV) n b := h1
  have hB0 : mBs (seQ σ KD KV) n R S C kl := ⟨h2, h3, h4, h5⟩
  have hB := mBs_sf hT0 hF hB0
  refine ⟨fun c hc => ?_, n, b', S, C, kl, hT, hB.1, hB.2.1, hB.2.2.1, hB.2.2.2, ?_, hA⟩
  · have e1 : τ c = seQ σ KD KV c := hF.1 c (fun q => by
      simp only [rowC, List.mem_cons, List.not_mem_nil, or_false] at q
      omega) (fun q => by
      simp only [srX, List.mem_cons, List.not_mem_nil, or_false] at q
      omega)
    have e2 : seQ σ KD KV c = σ c := by
      unfold seQ va_up
      rw [if_neg (by omega), if_neg (by omega), if_neg (by omega)]
    rw [← e2, ← e1]
    unfold naS va_up
    rw [if_neg (by omega), if_neg (by omega), if_neg (by omega), if_neg (by omega), if_neg (by omega), if_neg (by omega)]
  · have er : τ 232 52 = σ 232 52 := hF.2.1 52 (by decide) (by decide)
    rcases h6 with h6 | ⟨h6, ds, g1, g2, g3⟩
    · exact Or.inl (er.trans h6)
    · have hS0 : mRn (seQ σ KD KV) n R S ds := g1
      have hB0 : mBi (seQ σ KD KV) ds := g2
      have hR0 : mRo (seQ σ KD KV) n R := h2
      have hB1 := mFr_Bi (τ := pat (seQ σ KD KV) τ) hT0 hR0 (pat_fr hF) hS0 hB0
      have hrn := se_Rn (τ := τ) (RD := RD) (RV := RV) hT0 hR0 hF h3.1 hS0 hT hd hv
      exact Or.inr ⟨er.trans h6, ds, hrn, hB1, Or.inl rfl⟩
set_option maxRecDepth 100000 in
set_option maxHeartbeats 4000000 in
theorem mp_search (L : Nat) (xs : Nat → Int32) (d : Nat) (σ : kS) (n b R S C : Nat) (kl : List Nat) (h : mI σ n b R S C kl) : kXM kT L xs (d + 11) 220 [.ref 232] σ (fun r σ' => (∃ x, r = some (.int x)) ∧ mAfter σ σ' R) := by
  have h0 := h
  obtain ⟨h1, h2, h3, h4, h5, h6, h7⟩ := h
  have hS4 := h3.1
  unfold kXM
  have k51 : ∀ KD KV, (∀ j, j < 4 → KD j = σ 264 j) → (∀ j, j < 24 → KV j = σ 265 j) → kX kT L xs (d + 11) 220 51 [(0, .ref 232)] [] (va_up (va_up σ 290 KD) 291 KV) (fun r σ' => (∃ x, r = some (.int x)) ∧ mAfter σ σ' R) := by
    intro KD KV hKD hKV
    have hT0 : mTb (seQ σ KD KV) n b := h1
    have hB0 : mBs (seQ σ KD KV) n R S C kl := ⟨h2, h3, h4, h5⟩
    have hat0 : seQ σ KD KV 232 72 = -6 := rfl
    have k94 : ∀ v τ, (∃ N', ceR C N' (some (.int v)) ∧ mSf (seQ σ KD KV) τ n ∧ (∃ b, mTb τ n b) ∧ mSs τ n R S N') → kX kT L xs (d + 11) 220 94 [(0, .ref 232), (1, .int v)] [] τ (fun r σ' => (∃ x, r = some (.int x)) ∧ mAfter σ σ' R) := by
      rintro v τ ⟨N', hr, hF, ⟨b', hT⟩, hS⟩
      have hkd : τ 290 = KD := hF.1 _ (by decide) (by decide)
      have hkv : τ 291 = KV := hF.1 _ (by decide) (by decide)
      have hat : τ 232 72 = -6 := (hF.2.1 _ (by decide) (by decide)).trans hat0
      have hneg : kX kT L xs (d + 11) 220 102 [(0, .ref 232), (1, .int v)] [] τ (fun r σ' => (∃ x, r = some (.int x)) ∧ mAfter σ σ' R) := by
        refine mr_se_end L xs (d + 10) τ v _ (fun x RD RV hD hV => ⟨⟨x, rfl⟩, ?_⟩)
        have hself : naS τ (τ 288) (τ 289) (-6) = τ := by
          rw [← hat]
          funext c; unfold naS va_up; repeat' split
          all_goals first | rfl | omega | (subst_vars; rfl) | (funext j; unfold upd; repeat' split; all_goals first | rfl | omega | (subst_vars; rfl))
        have := se_after (RD := RD) (RV := RV) (AS := τ 288) (AT := τ 289) (x := -6) h0 hF hT (Or.inl rfl) (fun j hj => by rw [hD j hj, hkd, hKD j hj]) (fun j hj => by rw [hV j hj, hkv, hKV j hj])
        rw [hself] at this
        exact this
      have hneg2 : ∀ w : Int32, v = w → w < 0 → kX kT L xs (d + 11) 220 94 [(0, .ref 232), (1, .int v)] [] τ (fun r σ' => (∃ x, r = some (.int x)) ∧ mAfter σ σ' R) := by
        intro w hw hlt
        iterate 1 (refine kX_one rfl ?_)
        repeat refine kX_one rfl ?_
        refine kX_ifT (decide_eq_true (by rw [hw]; exact hlt)) ?_
        exact hneg
      rcases hr with e | e | ⟨c, hc, e, hN⟩
      · exact hneg2 (-6) (Value.int.inj (Option.some.inj e)) (by decide)
      · exact hneg2 (-7) (Value.int.inj (Option.some.inj e)) (by decide)
      · have hC6 : C ≤ 6 := h5.1
        have e : v = nI c := Value.int.inj (Option.some.inj e)
        subst e
        iterate 1 (refine kX_one rfl ?_)
        repeat refine kX_one rfl ?_
        refine kX_ifF (decide_eq_false (nI_pos (by omega))) ?_
        iterate 1 (refine kX_one rfl ?_)
        refine kX_cal (mr_noteAttack L xs (d + 9) τ n b' R S N' hT (mBs_sf hT0 hF hB0).1 hS4 hS hN) rfl (Or.inr rfl) rfl rfl rfl (fun r1 τ2 q1 => ?_)
        obtain ⟨rfl, AS, AT, x, rfl, hA⟩ := q1
        refine kX_lv _ rfl rfl rfl (mr_se_end L xs (d + 10) (naS τ AS AT x) (nI c) _ (fun y RD RV hD hV => ⟨⟨y, rfl⟩, ?_⟩))
        exact se_after h0 hF hT hA (fun j hj => by rw [hD j hj, show naS τ AS AT x 290 = τ 290 from rfl, hkd, hKD j hj]) (fun j hj => by rw [hV j hj, show naS τ AS AT x 291 = τ 291 from rfl, hkv, hKV j hj])
    iterate 1 (refine kX_one rfl ?_)
    refine kX_cal (mr_forget L xs (d + 9) _) rfl (Or.inr rfl) rfl rfl rfl (fun r1 σ1 q1 => ?_)
    obtain ⟨rfl, rfl⟩ := q1
    refine kX_st (seQ σ KD KV) rfl ?_
    iterate 1 (refine kX_one rfl ?_)
    refine kX_cal (mr_begins L xs (d + 9) (seQ σ KD KV) n b R S hT0 h2 h3) rfl (Or.inr rfl) rfl rfl rfl (fun r1 σ1 q1 => ?_)
    obtain ⟨rfl, D, V, rfl, hD, hV⟩ := q1
    have hcf := se_cfg hT0 h2 h3 hD hV
    have hF1 : mSf (seQ σ KD KV) (va_up (va_up (seQ σ KD KV) 264 D) 265 V) n := mSf_trans (mSf_up (c := 264) (by decide)) (mSf_up (c := 265) (by decide))
    have hT1 : mTb (va_up (va_up (seQ σ KD KV) 264 D) 265 V) n b := h1
    have hB1 := mBs_sf hT0 hF1 hB0
    have hS1 : mSs (va_up (va_up (seQ σ KD KV) 264 D) 265 V) n R S 0 := ⟨Nat.zero_le _, rfl, fun i hi => absurd hi (Nat.not_lt_zero i)⟩
    have hcom := mr_comesToBe L xs (d + 2) (va_up (va_up (seQ σ KD KV) 264 D) 265 V) n b R S C 0 kl (-1) (-1) hT1 hB1 hS1 hcf (Or.inl ⟨rfl, hD⟩)
    generalize seQ σ KD KV = ρ0 at *
    generalize va_up (va_up ρ0 264 D) 265 V = ρ1 at *
    iterate 3 (refine kX_one rfl ?_)
    refine kX_cal hcom rfl (Or.inr rfl) rfl rfl rfl (fun r1 τ q1 => ?_)
    obtain ⟨N3, m1, m2, hr, hsf, hb3, hss, -⟩ := q1
    have hgo : ∀ w : Int32, r1 = some (.int w) → kX kT L xs (d + 11) 220 65 [(0, .ref 232)] [.int w] τ (fun r σ' => (∃ x, r = some (.int x)) ∧ mAfter σ σ' R) := by
      intro w hw
      subst hw
      iterate 3 (refine kX_one rfl ?_)
      have := mr_se_loop L xs d ρ0 n b R S C kl hT0 hB0 _ k94 (0, w, τ) ⟨Nat.zero_le _, N3, hr, mSf_trans hF1 hsf, hb3, hss⟩
      exact kX_lv _ rfl rfl rfl this
    rcases hr with rfl | rfl | ⟨c', hc', rfl, -⟩
    · exact hgo _ rfl
    · exact hgo _ rfl
    · exact hgo _ rfl
  iterate 2 (refine kX_one rfl ?_)
  have h1' := mr_se_k1 L xs (d + 10) σ (fun r σ' => (∃ x, r = some (.int x)) ∧ mAfter σ σ' R) (fun KD hKD => ?_) (0, σ 290) ⟨Nat.zero_le _, fun j hj => absurd hj (Nat.not_lt_zero j)⟩
  · refine kX_to _ _ rfl rfl rfl ?_ h1'
    funext c; unfold  va_up; repeat' split
    all_goals first | rfl | omega | (subst_vars; rfl) | (funext j; unfold upd; repeat' split; all_goals first | rfl | omega | (subst_vars; rfl))
  · iterate 2 (refine kX_one rfl ?_)
    have h2' := mr_se_k2 L xs (d + 10) (va_up σ 290 KD) (fun r σ' => (∃ x, r = some (.int x)) ∧ mAfter σ σ' R) (fun KV hKV => k51 KD KV hKD hKV) (0, σ 291) ⟨Nat.zero_le _, fun j hj => absurd hj (Nat.not_lt_zero j)⟩
    refine kX_to _ _ rfl rfl rfl ?_ h2'
    funext c; unfold  va_up; repeat' split
    all_goals first | rfl | omega | (subst_vars; rfl) | (funext j; unfold upd; repeat' split; all_goals first | rfl | omega | (subst_vars; rfl))
end
section
/-! the reference: play -/
set_option maxRecDepth 100000 in
set_option maxHeartbeats 4000000 in
theorem mr_pl_in (L : Nat) (xs : Nat → Int32) (d : Nat) (σ : kS) (s k st : Nat) (hs : s < 4) (hk : k < 24) (hst : st < 600) (hat : σ 289 k = nI st) (x y : Int32) (Q : Option Value → kS → Prop)
    (he : ∀ m V, m < 64 → (∀ p, p < 6 → (m / 2 ^ p % 2 = 1 ↔ σ 285 (24 * st + 6 * s + p) ≠ σ 265 (6 * s + p))) → (∀ p, p < 6 → V (6 * s + p) = σ 285 (24 * st + 6 * s + p)) → (∀ j, (∀ p, p < 6 → j ≠ 6 * s + p) → V j = σ 265 j) → kX kT L xs (d + 1) 223 142 [(4, .int (nI s)), (5, .int (nI m)), (0, .ref 232), (1, .int x), (2, .int y), (3, .int (nI k))] [] (va_up σ 265 V) Q) :
    ∀ q : Nat × Nat × (Nat → Int32), (q.1 ≤ 6 ∧ q.2.1 < 64 ∧ (∀ p, p < 6 → (q.2.1 / 2 ^ p % 2 = 1 ↔ p < q.1 ∧ σ 285 (24 * st + 6 * s + p) ≠ σ 265 (6 * s + p))) ∧ (∀ p, p < q.1 → q.2.2 (6 * s + p) = σ 285 (24 * st + 6 * s + p)) ∧ ∀ j, (∀ p, p < q.1 → j ≠ 6 * s + p) → q.2.2 j = σ 265 j) → kX kT L xs (d + 1) 223 57 [(6, .int (nI q.1)), (5, .int (nI q.2.1)), (4, .int (nI s)), (0, .ref 232), (1, .int x), (2, .int y), (3, .int (nI k))] [] (va_up σ 265 q.2.2) Q := by
  refine kX_while (fun q : Nat × Nat × (Nat → Int32) => [(6, .int (nI q.1)), (5, .int (nI q.2.1)), (4, .int (nI s)), (0, .ref 232), (1, .int x), (2, .int y), (3, .int (nI k))]) (fun q => va_up σ 265 q.2.2) _ (fun q => 6 - q.1) ?_
  rintro ⟨v, m, V⟩ ⟨i1, i2, i3, i4, i5⟩ ih
  dsimp only at i1 i2 i3 i4 i5 ih ⊢
  repeat refine kX_one rfl ?_
  refine kX_if (fun q => ?_) (fun q => ?_)
  · have q := qge q v 6
    obtain rfl : v = 6 := by omega
    exact kX_lv _ rfl rfl rfl (he m V i2 (fun p hp => by rw [i3 p hp]; exact ⟨fun z => z.2, fun z => ⟨hp, z⟩⟩) i4 i5)
  · have q := qgeF q v 6
    have hold : V (6 * s + v) = σ 265 (6 * s + v) := i5 _ (fun p hp => by omega)
    have k119 : ∀ m', m' < 64 → (∀ p, p < 6 → (m' / 2 ^ p % 2 = 1 ↔ p < v + 1 ∧ σ 285 (24 * st + 6 * s + p) ≠ σ 265 (6 * s + p))) → kX kT L xs (d + 1) 223 119 [(7, .int (σ 285 (24 * st + 6 * s + v))), (6, .int (nI v)), (5, .int (nI m)), (4, .int (nI s)), (0, .ref 232), (1, .int x), (2, .int y), (3, .int (nI k))] [.int (nI m')] (va_up σ 265 V) Q := by
      intro m' hm' hb
      iterate 9 (refine kX_one rfl ?_)
      refine kX_iastN rfl rfl (by decide) (6 * s + v) (ix6 s v) (by omega) ?_
      iterate 2 (refine kX_one rfl ?_)
      have := ih (v + 1, m', upd V (6 * s + v) (σ 285 (24 * st + 6 * s + v))) ⟨q, hm', hb, fun p hp => by
        simp only at hp ⊢
        by_cases e : p = v
        · subst e
          exact pk_us
        · rw [pk_un (by omega)]
          exact i4 p (by omega), fun j hj => by
        simp only at hj ⊢
        rw [pk_un (hj v (by omega))]
        exact i5 j (fun p hp => hj p (by omega))⟩ (by simp only; omega)
      dsimp only at this
      rw [← nI_1] at this
      refine kX_to _ _ rfl rfl rfl ?_ this
      funext c; unfold  va_up; repeat' split
      all_goals first | rfl | omega | (subst_vars; rfl) | (funext j; unfold upd; repeat' split; all_goals first | rfl | omega | (subst_vars; rfl))
    iterate 6 (refine kX_one rfl ?_)
    refine kX_ialdV rfl rfl (by decide) (k) (by first | rfl | decide) (hk) (hat) ?_
    iterate 7 (refine kX_one rfl ?_)
    refine kX_ialdN rfl rfl (by decide) (24 * st + 6 * s + v) (ix24 st s v) (by omega) ?_
    iterate 9 (refine kX_one rfl ?_)
    refine kX_ialdV rfl rfl (by decide) (6 * s + v) (ix6 s v) (by omega) (hold) ?_
    repeat refine kX_one rfl ?_
    refine kX_if (fun q2 => ?_) (fun q2 => ?_)
    · have q2 : σ 285 (24 * st + 6 * s + v) ≠ σ 265 (6 * s + v) := qne q2
      obtain ⟨o1, o2⟩ := bm_lt m i2 v q
      iterate 5 (refine kX_one rfl ?_)
      refine kX_top (bm_or m i2 v q) ?_
      refine kX_lv _ rfl rfl rfl (k119 (orb m v) o1 (fun p hp => ?_))
      rw [o2 p hp, i3 p hp]
      constructor
      · rintro (rfl | ⟨z1, z2⟩)
        · exact ⟨by omega, q2⟩
        · exact ⟨by omega, z2⟩
      · rintro ⟨z1, z2⟩
        by_cases e : p = v
        · exact Or.inl e
        · exact Or.inr ⟨by omega, z2⟩
    · have q2 : σ 285 (24 * st + 6 * s + v) = σ 265 (6 * s + v) := qneF q2
      iterate 2 (refine kX_one rfl ?_)
      refine kX_lv _ rfl rfl rfl (k119 m i2 (fun p hp => ?_))
      rw [i3 p hp]
      constructor
      · rintro ⟨z1, z2⟩
        exact ⟨by omega, z2⟩
      · rintro ⟨z1, z2⟩
        refine ⟨?_, z2⟩
        have : p ≠ v := fun e => z2 (by rw [e]; exact q2)
        omega
/-- the ATTACK as it was noted -/
def akD (σ : kS) (n S : Nat) (as : List Nat) (fin : Nat → Nat → Int32) : Prop := lst (σ 288) as ∧
  (∀ s ∈ as, s < S ∧ as.count s ≤ fN (σ 247 (fN (σ 255 s))) ∧ ∀ k, k < 6 → bdv σ (fN (σ 255 s)) (as.count s) k → mVz σ n (fN (σ 255 s)) k (fin s k) ∧ (σ 246 (6 * fN (σ 255 s) + k) ≠ nI 2 → fin s k = σ 256 (6 * s + k))) ∧
  ∀ i (h : i < as.length), ∃ st, st < 600 ∧ σ 289 i = nI st ∧ ∀ k, k < 6 → σ 285 (24 * st + 6 * (as[i]'h) + k) = cit (bdv σ (fN (σ 255 (as[i]'h))) ((as.take i).count (as[i]'h) + 1) k) (fin (as[i]'h) k) (-6)
/-- the RUN is as far as k EVENTS of it -/
def plI (σ τ : kS) (n b R S C : Nat) (kl as : List Nat) (fin : Nat → Nat → Int32) (k : Nat) : Prop := (mTb τ n b ∧ mRo τ n R ∧ mSe τ n R S ∧ mKn τ n kl ∧ mCl τ R C) ∧ τ 232 52 = 1 ∧ τ 232 47 = 0 ∧ τ 232 72 = nI as.length ∧ akD τ n S as fin ∧ mRn τ n R S (as.take k) ∧ mBi τ (as.take k) ∧ (∀ s ∈ as, ∀ v, v < 6 → τ 265 (6 * s + v) = cit (bdv τ (fN (τ 255 s)) ((as.take k).count s) v) (fin s v) (-6)) ∧ mLow σ τ
theorem count_take_succ {as : List Nat} {k : Nat} (hk : k < as.length) : (as.take (k + 1)).count as[k] = (as.take k).count as[k] + 1 := by
  rw [List.take_succ_eq_append_getElem hk, List.count_append]
  simp
theorem pl_step {σ τ : kS} {n b R S C k st m : Nat} {kl as : List Nat} {fin : Nat → Nat → Int32} {V : Nat → Int32} (h : plI σ τ n b R S C kl as fin k) (hk : k < as.length) (h24 : as.length ≤ 24) (hst : τ 289 k = nI st) (hst6 : st < 600) (hm : m < 64) (hmb : ∀ p, p < 6 → (m / 2 ^ p % 2 = 1 ↔ τ 285 (24 * st + 6 * as[k] + p) ≠ τ 265 (6 * as[k] + p))) (hV : ∀ p, p < 6 → V (6 * as[k] + p) = τ 285 (24 * st + 6 * as[k] + p)) (hVo : ∀ j, (∀ p, p < 6 → j ≠ 6 * as[k] + p) → V j = τ 265 j) : plI σ (stS τ V as[k] k ((as.take k).count as[k]) (nI m)) n b R S C kl as fin (k + 1) := by
  obtain ⟨⟨h1, h2, h3, h4, h5⟩, h6, h7, h8, h9, h10, h11, h12, h13⟩ := h
  have hR4 := h2.1
  have hS4 := h3.1
  have hmem : as[k] ∈ as := List.getElem_mem hk
  have hlen : (as.take k).length = k := by rw [List.length_take]; omega
  have hcs := count_take_succ hk
  obtain ⟨s1, s2, s3⟩ := h9.2.1 _ hmem
  obtain ⟨st', t1, t2, t3⟩ := h9.2.2 k hk
  obtain rfl : st = st' := nI_inj (hst.symm.trans t2)
  obtain ⟨r, r1, r2, -⟩ := h3.2.2 _ s1
  have hfr : fN (τ 255 as[k]) = r := by rw [r2]; exact fN_nI (by omega)
  have hcle : (as.take k).count as[k] + 1 ≤ as.count as[k] := by
    rw [← hcs]
    exact count_take_le _ _ _
  rw [hfr] at s2 s3 t3
  have hz : ∀ p, p < 6 → bdv τ r ((as.take k).count as[k] + 1) p → mVz τ n r p (fin as[k] p) := fun p hp hb => (s3 p hp (bdv_mono hcle hb)).1
  have hval : ∀ p, p < 6 → V (6 * as[k] + p) = cit (bdv τ r ((as.take k).count as[k] + 1) p) (fin as[k] p) (-6) := fun p hp => (hV p hp).trans (t3 p hp)
  have hold : ∀ p, p < 6 → τ 265 (6 * as[k] + p) = cit (bdv τ r ((as.take k).count as[k]) p) (fin as[k] p) (-6) := fun p hp => by
    have := h12 _ hmem p hp
    rw [hfr] at this
    exact this
  have hp := mRn_push (V := V) (m := m) (bd := nI m) (s := as[k]) (r := r) h1 h2 hS4 h10 h11 s1 r1 r2 (by omega) hVo (fun p hp => ⟨fun hb => by
      rw [hval p hp, cit_T hb]
      exact hz p hp hb, fun hb => by
      rw [hval p hp, cit_F hb]⟩) hm rfl (fun p hp => by
      rw [hmb p hp, ← hV p hp, hval p hp, hold p hp]
      by_cases hb : bdv τ r ((as.take k).count as[k]) p
      · rw [cit_T hb, cit_T (bdv_mono (by omega) hb)]
        exact ⟨fun z => absurd rfl z, fun z => absurd hb z.2⟩
      · rw [cit_F hb]
        by_cases hb2 : bdv τ r ((as.take k).count as[k] + 1) p
        · rw [cit_T hb2]
          exact ⟨fun _ => ⟨hb2, hb⟩, fun _ => (mVz_ne h1 (hz p hp hb2)).1⟩
        · rw [cit_F hb2]
          exact ⟨fun z => absurd rfl z, fun z => absurd z.1 hb2⟩)
  rw [hlen] at hp
  have htk : as.take k ++ [as[k]] = as.take (k + 1) := (List.take_succ_eq_append_getElem hk).symm
  rw [htk] at hp
  refine ⟨⟨h1, h2, h3, h4, h5⟩, h6, h7, h8, h9, hp.1, hp.2, fun s hs v hv => ?_, fun c hc => ?_⟩
  · show V (6 * s + v) = cit (bdv τ (fN (τ 255 s)) ((as.take (k + 1)).count s) v) (fin s v) (-6)
    by_cases e : s = as[k]
    · rw [e, hfr, hcs]
      exact hval v hv
    · have ec : (as.take (k + 1)).count s = (as.take k).count s := by
        rw [← htk, List.count_append]
        simp [Ne.symm e]
      rw [ec, hVo _ (fun p hp => by omega)]
      exact h12 s hs v hv
  · have := h13 c hc
    rw [← this]
    unfold stS va_up
    rw [if_neg (by omega), if_neg (by omega), if_neg (by omega), if_neg (by omega), if_neg (by omega)]
set_option maxRecDepth 100000 in
set_option maxHeartbeats 4000000 in
theorem mp_play (L : Nat) (xs : Nat → Int32) (d : Nat) (σ : kS) (n b R S C : Nat) (kl : List Nat) (x : Int32) (h : mI σ n b R S C kl) : kXM kT L xs (d + 8) 223 [.ref 232, .int x] σ (fun r σ' => (∃ x, r = some (.int x)) ∧ mAfter σ σ' R) := by
  have h0 := h
  obtain ⟨h1, h2, h3, h4, h5, h6, h7⟩ := h
  have hS4 := h3.1
  unfold kXM
  rcases h7 with h7 | ⟨as, fin, a0, a1, a2, a3, a4⟩
  · iterate 2 (refine kX_one rfl ?_)
    refine kX_top (h7) ?_
    repeat refine kX_one rfl ?_
    refine kX_ret (i := .ireturn) (len := 1) rfl (Or.inr rfl) rfl (⟨⟨_, rfl⟩, mAfter_same h0⟩)
  · iterate 2 (refine kX_one rfl ?_)
    refine kX_top (a1) ?_
    repeat refine kX_one rfl ?_
    refine kX_ifT (decide_eq_true (Int32.not_lt.mp (nI_pos (by omega)))) ?_
    iterate 5 (refine kX_one rfl ?_)
    refine kX_top (a1) ?_
    iterate 1 (refine kX_one rfl ?_)
    refine kX_cal (mr_in L xs (d + 7) σ _ _ _) rfl (Or.inr rfl) rfl rfl rfl (fun r1 σ1 q1 => ?_)
    obtain ⟨rfl, rfl⟩ := q1
    rw [isB_dec]
    repeat refine kX_one rfl ?_
    refine kX_if (fun q => ?_) (fun q => ?_)
    · obtain ⟨m, -, hm, rfl⟩ := in_R (lo := 0) (hi := as.length) (by omega) (by omega) (isB_ne.mp (qne q)).1 (isB_ne.mp (qne q)).2
      have k156 : ∀ τ k, plI σ τ n b R S C kl as fin k → kX kT L xs (d + 8) 223 156 [(0, .ref 232)] [] τ (fun r σ' => (∃ x, r = some (.int x)) ∧ mAfter σ σ' R) := by
        rintro τ k ⟨⟨p1, p2, p3, p4, p5⟩, p6, p7, p8, p9, p10, p11, p12, p13⟩
        have hI : mI (va_up τ 232 (upd (τ 232) 47 0)) n b R S C kl := ⟨p1, p2, p3, p4, p5, Or.inr ⟨p6, as.take k, p10, p11, Or.inl rfl⟩, Or.inr ⟨as, fin, a0, p8, p9.1, p9.2.1, p9.2.2⟩⟩
        have hr : (va_up τ 232 (upd (τ 232) 47 0)) 232 52 = 1 := p6
        have hRn : mRn (va_up τ 232 (upd (τ 232) 47 0)) n R S (as.take k) := p10
        have hBi : mBi (va_up τ 232 (upd (τ 232) 47 0)) (as.take k) := p11
        have hlo : mLow σ (va_up τ 232 (upd (τ 232) 47 0)) := mLow_trans p13 (mLow_up τ _ (by decide))
        have hrt : mRt (va_up τ 232 (upd (τ 232) 47 0)) n b kl (as.take k) := Or.inl rfl
        iterate 3 (refine kX_one rfl ?_)
        refine kX_st (va_up τ 232 (upd (τ 232) 47 0)) rfl ?_
        generalize va_up τ 232 (upd (τ 232) 47 0) = ρ at *
        iterate 1 (refine kX_one rfl ?_)
        refine kX_cal (mr_row L xs d ρ n b R S C kl (as.take k) hI hr hRn hBi hrt) rfl (Or.inr rfl) rfl rfl rfl (fun r1 σ1 q1 => ?_)
        obtain ⟨rfl, f1, f2, b', l, f3, f4, f5, f6, f7⟩ := q1
        have hI1 := (mI_there hI hr hRn hBi f1 f2 f3 f4 f5 f6 f7).1
        repeat refine kX_one rfl ?_
        refine kX_ret (i := .ireturn) (len := 1) rfl (Or.inr rfl) rfl (⟨⟨_, rfl⟩, mLow_trans hlo (mLow_fr f1), n, b', S, C, kl, hI1⟩)
      have loop : ∀ q : Nat × kS, (q.1 ≤ m ∧ plI σ q.2 n b R S C kl as fin q.1) → kX kT L xs (d + 8) 223 34 [(3, .int (nI q.1)), (0, .ref 232), (1, .int (nI m)), (2, .int (nI S))] [] q.2 (fun r σ' => (∃ x, r = some (.int x)) ∧ mAfter σ σ' R) := by
        refine kX_while (fun q : Nat × kS => [(3, .int (nI q.1)), (0, .ref 232), (1, .int (nI m)), (2, .int (nI S))]) (fun q => q.2) _ (fun q => m - q.1) ?_
        rintro ⟨k, τ⟩ ⟨i1, i2⟩ ih
        dsimp only at i1 i2 ih ⊢
        iterate 2 (refine kX_one rfl ?_)
        repeat refine kX_one rfl ?_
        refine kX_if (fun q => ?_) (fun q => ?_)
        · exact kX_lv _ rfl rfl rfl (k156 τ k i2)
        · have q := qgeF q k m
          have hk : k < as.length := by omega
          have hI := i2
          obtain ⟨⟨p1, p2, p3, p4, p5⟩, p6, p7, p8, p9, p10, p11, p12, p13⟩ := i2
          obtain ⟨s1, s2, -⟩ := p9.2.1 _ (List.getElem_mem hk)
          obtain ⟨st, t1, t2, -⟩ := p9.2.2 k hk
          have hlen : (as.take k).length = k := by rw [List.length_take]; omega
          iterate 1 (refine kX_one rfl ?_)
          repeat refine kX_one rfl ?_
          refine kX_ifF (decide_eq_false (nI_pos (by omega))) ?_
          iterate 3 (refine kX_one rfl ?_)
          refine kX_ialdV rfl rfl (by decide) (k) (by first | rfl | decide) (by omega) (p9.1 k hk) ?_
          iterate 5 (refine kX_one rfl ?_)
          have := mr_pl_in L xs (d + 7) τ as[k] k st (by omega) (by omega) t1 t2 (nI m) (nI S) (fun r σ' => (∃ x, r = some (.int x)) ∧ mAfter σ σ' R) (fun m' V b1 b2 b3 b4 => ?_) (0, 0, τ 265) ⟨Nat.zero_le _, Nat.succ_pos _, fun p hp => by
            rw [Nat.zero_div]
            exact ⟨fun z => absurd z (by decide), fun z => absurd z.1 (Nat.not_lt_zero p)⟩, fun p hp => absurd hp (Nat.not_lt_zero p), fun j _ => rfl⟩
          · refine kX_to _ _ rfl rfl rfl ?_ this
            funext c; unfold  va_up; repeat' split
            all_goals first | rfl | omega | (subst_vars; rfl) | (funext j; unfold upd; repeat' split; all_goals first | rfl | omega | (subst_vars; rfl))
          · have hst := pl_step hI hk a0 t2 t1 b1 b2 b3 b4
            obtain ⟨-, -, r3, -⟩ := p10.2.2.2 _ s1
            have hdo : (va_up τ 265 V) 264 as[k] = nI ((as.take k).count as[k]) := by
              obtain ⟨r, -, -, r3, -⟩ := p10.2.2.2 _ s1
              exact r3
            have hdid : (va_up τ 265 V) 232 55 = nI k := by
              have := p10.1
              rw [hlen] at this
              exact this
            iterate 3 (refine kX_one rfl ?_)
            refine kX_cal (mr_does L xs (d + 6) (va_up τ 265 V) as[k] k ((as.take k).count as[k]) (nI m') (by omega) hdid (by omega) hdo) rfl (Or.inr rfl) rfl rfl rfl (fun r1 σ1 q1 => ?_)
            obtain ⟨rfl, rfl⟩ := q1
            refine kX_st (stS τ V as[k] k ((as.take k).count as[k]) (nI m')) rfl ?_
            generalize stS τ V as[k] k ((as.take k).count as[k]) (nI m') = ρ at *
            iterate 2 (refine kX_one rfl ?_)
            have := ih (k + 1, ρ) ⟨q, hst⟩ (by simp only; omega)
            dsimp only at this
            rw [← nI_1] at this
            exact kX_lv _ rfl rfl rfl this
      iterate 1 (refine kX_one rfl ?_)
      refine kX_cal (mr_begin L xs (d + 5) σ n b R S C kl h0) rfl (Or.inr rfl) rfl rfl rfl (fun r1 σ1 q1 => ?_)
      obtain ⟨rfl, hlo, hI1, D, V, rfl, hD, hV⟩ := q1
      iterate 3 (refine kX_one rfl ?_)
      have hst : plI σ (va_up (va_up (va_up σ 264 D) 265 V) 232 (upd (upd (upd (σ 232) 52 1) 55 0) 47 0)) n b R S C kl as fin 0 := by
        obtain ⟨g1, g2, g3, g4, g5, g6, g7⟩ := hI1
        refine ⟨⟨g1, g2, g3, g4, g5⟩, rfl, rfl, a1, ⟨a2, a3, a4⟩, ?_, fun k hk => absurd hk (Nat.not_lt_zero k), fun s hs v hv => ?_, hlo⟩
        · exact ⟨rfl, lst_nil _, fun s h9 => (by cases h9), fun s hss => mSn_begin h1 h2 h3 hD hV s hss⟩
        · obtain ⟨s1, s2, s3⟩ := a3 s hs
          obtain ⟨r, r1, r2, -⟩ := h3.2.2 s s1
          have hR4 := h2.1
          have hfr : fN (σ 255 s) = r := by rw [r2]; exact fN_nI (by omega)
          show V (6 * s + v) = cit (bdv σ (fN (σ 255 s)) 0 v) (fin s v) (-6)
          obtain ⟨-, -, c3⟩ := mSn_iff (σ := va_up (va_up σ 264 D) 265 V) (b := b) h1 h2 (mSn_begin h1 h2 h3 hD hV s s1) r2 r1
          by_cases hb : bdv σ r 0 v
          · rw [hfr, cit_T hb]
            have ha : σ 246 (6 * r + v) ≠ nI 2 := hb.2.elim id (fun ⟨e, e1, _⟩ => absurd e1 (Nat.not_lt_zero e))
            rw [hfr] at s3
            rw [(s3 v hv (bdv_mono (Nat.zero_le _) hb)).2 ha, hV s v s1 hv, hfr, if_pos hb.1]
          · rw [hfr, cit_F hb]
            exact (c3 v hv).2 hb
      exact kX_lv _ rfl rfl rfl (loop (0, _) ⟨Nat.zero_le _, hst⟩)
    · repeat refine kX_one rfl ?_
      refine kX_ret (i := .ireturn) (len := 1) rfl (Or.inr rfl) rfl (⟨⟨_, rfl⟩, mAfter_same h0⟩)
end
