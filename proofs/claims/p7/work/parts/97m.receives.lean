/-! the reference: receives -/
def rcB (σ τ : kS) (n R S N : Nat) (op : List Nat) : Prop := mSf σ τ n ∧ (∃ N', N ≤ N' ∧ mSs τ n R S N') ∧ (∀ i, i < N → (∀ u, u < S → stD τ i u = stD σ i u) ∧ ∀ u k, u < S → k < 6 → stV τ i (6 * u + k) = stV σ i (6 * u + k)) ∧ lst (τ 292) op
def rcR (τ : kS) (n : Nat) : Prop := ∃ b l, b ≤ 776 ∧ mTb τ n b ∧ mRq τ (mvG τ n b) l ∧ mJd τ n b l
def rcD (σ τ : kS) (S i : Nat) : Prop := ∀ u, u < S → τ 264 u = stD σ i u
def rcV (σ τ : kS) (S i s : Nat) (op : List Nat) : Prop := ∀ u k, u < S → k < 6 → (∀ p (h : p < op.length), 6 * u + k ≠ 6 * s + fN (σ 241 op[p])) → τ 265 (6 * u + k) = stV σ i (6 * u + k)
/-- what receives leaves -/
def rcP (σ τ : kS) (n R S C N i : Nat) (r : Option Value) : Prop := ∃ N', N ≤ N' ∧ ceR C N' r ∧ mSf σ τ n ∧ (∃ b, mTb τ n b) ∧ mSs τ n R S N' ∧ (∀ i, i < N → (∀ u, u < S → stD τ i u = stD σ i u) ∧ ∀ u k, u < S → k < 6 → stV τ i (6 * u + k) = stV σ i (6 * u + k)) ∧ (r = some (.int (-6)) → rcR τ n ∧ rcD σ τ S i ∧ ∀ u k, u < S → k < 6 → τ 265 (6 * u + k) = stV σ i (6 * u + k))
set_option maxRecDepth 100000 in
set_option maxHeartbeats 4000000 in
theorem mr_rc_end (L : Nat) (xs : Nat → Int32) (d : Nat) (σ τ : kS) (n R S C N i : Nat) (op : List Nat) (hSe : mSe σ n R S) (hN : N ≤ 600) (hi : i < N) (hB : rcB σ τ n R S N op) (hR : rcR τ n) (s t : Int32) :
    kX kT L xs (d + 2) 217 414 [(0, .ref 232), (1, .int (nI i)), (2, .int s), (3, .int t)] [] τ (fun r σ' => rcP σ σ' n R S C N i r) := by
  obtain ⟨b1, ⟨N', n1, n2⟩, b3, b4⟩ := hB
  have hse : τ 232 27 = nI S := (b1.2.1 _ (by decide) (by decide)).trans hSe.2.1
  have hS4 := hSe.1
  iterate 2 (refine kX_one rfl ?_)
  refine kX_cal (mr_takeState L xs d τ S i hse hSe.1 (by omega)) rfl (Or.inr rfl) rfl rfl rfl (fun r1 σ1 q1 => ?_)
  obtain ⟨rfl, D, V, rfl, hD, hV⟩ := q1
  obtain ⟨b, l, e1, e2, e3, e4⟩ := hR
  repeat refine kX_one rfl ?_
  refine kX_ret (i := .ireturn) (len := 1) rfl (Or.inr rfl) rfl ⟨N', n1, Or.inl rfl, mSf_trans b1 (mSf_trans (mSf_up (c := 264) (by decide)) (mSf_up (c := 265) (by decide))), ⟨b, e2⟩, n2, b3, fun _ => ⟨⟨b, l, e1, e2, e3, e4⟩, fun u hu => ?_, fun u k hu hk => ?_⟩⟩
  · show D u = _
    rw [hD u hu]
    exact (b3 i hi).1 u hu
  · show V (6 * u + k) = _
    rw [hV u k hu hk, ← (b3 i hi).2 u k hu hk]
    show _ = τ 285 (24 * i + (6 * u + k))
    rw [show 24 * i + (6 * u + k) = 24 * i + 6 * u + k by omega]
set_option maxRecDepth 100000 in
set_option maxHeartbeats 4000000 in
theorem mr_rc_turn (L : Nat) (xs : Nat → Int32) (d : Nat) (σ τ : kS) (n b0 R S C N i s : Nat) (op : List Nat) (c : Nat → Nat) (h : mTb σ n b0) (hSe : mSe σ n R S) (hN : N ≤ 600) (hi : i < N) (h6 : op.length ≤ 6) (h200 : ∀ u ∈ op, u < 200) (hz : ∀ u ∈ op, ∃ z, z < n ∧ ofs σ u z) (hB : rcB σ τ n R S N op) (hR : rcR τ n) (hD : rcD σ τ S i) (hV : rcV σ τ S i s op) (hC : chI σ n op (τ 293) c 0 op.length) (sv t : Int32) (my : Int64)
    (ih : ∀ τ' c', rcB σ τ' n R S N op → rcR τ' n → rcD σ τ' S i → rcV σ τ' S i s op → chI σ n op (τ' 293) c' 0 op.length → oM c' op.length < oM c op.length → kX kT L xs (d + 3) 217 192 [(7, .int 1), (0, .ref 232), (1, .int (nI i)), (2, .int sv), (3, .int t), (4, .int (nI op.length)), (5, .long my)] [] τ' (fun r σ' => rcP σ σ' n R S C N i r)) :
    kX kT L xs (d + 3) 217 308 [(0, .ref 232), (1, .int (nI i)), (2, .int sv), (3, .int t), (4, .int (nI op.length)), (5, .long my)] [] τ (fun r σ' => rcP σ σ' n R S C N i r) := by
  have hn := h.1
  have hR0 := hR
  obtain ⟨b, l, e1, e2, e3, e4⟩ := hR
  have hofs : ∀ u z, z < n → (ofs τ u z ↔ ofs σ u z) := fun u z hz' => ofs_sf h hB.1 hz'
  have hz2 : ∀ u ∈ op, ∃ z, z < n ∧ ofs τ u z := fun u hu => by
    obtain ⟨z, z1, z2⟩ := hz u hu
    exact ⟨z, z1, (hofs u z z1).mpr z2⟩
  have hC2 : chI τ n op (τ 293) c 0 op.length := fun p hp a1 a2 => by
    obtain ⟨c1, c2, c3⟩ := hC p hp a1 a2
    exact ⟨c1, c2, (hofs _ _ c2).mpr c3⟩
  iterate 4 (refine kX_one rfl ?_)
  have hdown := mr_rc_down L xs d τ n b op c e2 h6 hB.2.2.2 h200 hz2 (nI i) sv t my (fun r σ' => rcP σ σ' n R S C N i r) (fun K CH c' hK g1 g2 g3 => ?_) (op.length, τ 293, c) ⟨Nat.le_refl _, hC2, fun p _ => rfl⟩
  · refine kX_to _ _ rfl rfl rfl ?_ hdown
    funext c; unfold  va_up; repeat' split
    all_goals first | rfl | omega | (subst_vars; rfl) | (funext j; unfold upd; repeat' split; all_goals first | rfl | omega | (subst_vars; rfl))
  · have hB' : ∀ CH', rcB σ (va_up τ 293 CH') n R S N op := fun CH' => ⟨mSf_trans hB.1 (mSf_up (by decide)), hB.2.1, hB.2.2.1, hB.2.2.2⟩
    have hR' : ∀ CH', rcR (va_up τ 293 CH') n := fun CH' => ⟨b, l, e1, e2, e3, e4⟩
    rcases Nat.eq_zero_or_pos K with rfl | hKp
    · iterate 9 (refine kX_one rfl ?_)
      exact kX_lv _ rfl rfl rfl (mr_rc_end L xs (d + 1) σ (va_up τ 293 CH) n R S C N i op hSe hN hi (hB' CH) (hR' CH) sv t)
    · obtain ⟨k, rfl⟩ : ∃ k, K = k + 1 := ⟨K - 1, by omega⟩
      have hk : k < op.length := hK
      obtain ⟨w1, w2, w3⟩ := g1 k hk (Nat.zero_le _) hk
      have ek := g2 k (by omega)
      obtain ⟨z0, z01, z02, z03⟩ := g3 k hk rfl
      have hmem : op[k] ∈ op := List.getElem_mem hk
      rw [nI_pred]
      iterate 1 (refine kX_one rfl ?_)
      repeat refine kX_one rfl ?_
      refine kX_ifF (decide_eq_false (nI_pos (by omega))) ?_
      iterate 12 (refine kX_one rfl ?_)
      refine kX_ialdV rfl rfl (by decide) (k) (by first | rfl | decide) (by omega) (hB.2.2.2 k hk) ?_
      iterate 3 (refine kX_one rfl ?_)
      refine kX_ialdV rfl rfl (by decide) (k) (by first | rfl | decide) (by omega) (w1) ?_
      iterate 2 (refine kX_one rfl ?_)
      refine kX_top (nI_1 (c' k)) ?_
      refine kX_cal (mr_nextOf L xs d (va_up τ 293 CH) n b op[k] (c' k + 1) e2 (h200 _ hmem) w2) rfl (Or.inr rfl) rfl rfl rfl (fun r1 σ1 q1 => ?_)
      obtain ⟨hx, rfl⟩ := q1
      rcases hx with ⟨rfl, hx⟩ | ⟨z, zl, z1, z2, -, rfl⟩
      · exact absurd z03 (hx z0 (by omega) z02)
      · refine kX_iastN rfl rfl (by decide) (k) (by first | rfl | decide) (by omega) ?_
        iterate 1 (refine kX_one rfl ?_)
        obtain ⟨c2, hc2, hc3⟩ : ∃ c2 : Nat → Nat, c2 k = z ∧ ∀ p, p ≠ k → c2 p = c' p := ⟨fun p => if p = k then z else c' p, if_pos rfl, fun p hp => if_neg hp⟩
        refine kX_to [(7, .int 1), (0, .ref 232), (1, .int (nI i)), (2, .int sv), (3, .int t), (4, .int (nI op.length)), (5, .long my)] (va_up τ 293 (upd CH k (nI z))) rfl rfl rfl ?_ (ih _ c2 (hB' _) (hR' _) hD hV (fun p hp a1 a2 => ?_) (oM_lt (q := k) (fun p hp => ?_) (by omega) (by omega) _ hk))
        · funext c; unfold  va_up; repeat' split
          all_goals first | rfl | omega | (subst_vars; rfl) | (funext j; unfold upd; repeat' split; all_goals first | rfl | omega | (subst_vars; rfl))
        · show upd CH k (nI z) p = _ ∧ _
          by_cases e : p = k
          · subst e
            rw [pk_us, hc2]
            exact ⟨rfl, z1, (hofs _ _ z1).mp z2⟩
          · rw [pk_un e, hc3 p e]
            obtain ⟨c1, c2, c3⟩ := g1 p hp a1 a2
            exact ⟨c1, c2, (hofs _ _ c2).mp c3⟩
        · rw [hc3 p (by omega)]
          exact g2 p (by omega)
set_option maxRecDepth 100000 in
set_option maxHeartbeats 4000000 in
theorem mr_rc_main (L : Nat) (xs : Nat → Int32) (d : Nat) (σ : kS) (n b0 R S C N i s r dn t : Nat) (kl op : List Nat) (h : mTb σ n b0) (hB : mBs σ n R S C kl) (hS : mSs σ n R S N) (hi : i < N) (hs : s < S) (r1 : r < R) (r2 : σ 255 s = nI r) (r3 : stD σ i s = nI dn) (hdn : dn < fN (σ 247 r)) (hse : σ 249 (6 * r + dn) = 0) (ht : t < n) (het : σ 248 (6 * r + dn) = nI t) (hop : ∀ u, u ∈ op ↔ u ∈ tvs (σ 233) (σ 234) (σ 235) t ∧ stV σ i (6 * s + fN (σ 241 u)) < 0) (h6 : op.length ≤ 6) (hN : opN σ op) (hz : ∀ u ∈ op, ∃ z, z < n ∧ ofs σ u z) (my : Int64) :
    ∀ q : kS × (Nat → Nat), (rcB σ q.1 n R S N op ∧ rcR q.1 n ∧ rcD σ q.1 S i ∧ rcV σ q.1 S i s op ∧ chI σ n op (q.1 293) q.2 0 op.length) → kX kT L xs (d + 9) 217 192 [(7, .int 1), (0, .ref 232), (1, .int (nI i)), (2, .int (nI s)), (3, .int (nI t)), (4, .int (nI op.length)), (5, .long my)] [] q.1 (fun r σ' => rcP σ σ' n R S C N i r) := by
  have hn := h.1
  have hS4 := hB.2.1.1
  have hN6 := hS.1
  have h200 : ∀ u ∈ op, u < 200 := fun u hu => by
    obtain ⟨p, hp, rfl⟩ := List.mem_iff_getElem.mp hu
    exact (hN.1 p hp).1
  refine kX_while (fun q : kS × (Nat → Nat) => [(7, .int 1), (0, .ref 232), (1, .int (nI i)), (2, .int (nI s)), (3, .int (nI t)), (4, .int (nI op.length)), (5, .long my)]) (fun q => q.1) _ (fun q => oM q.2 op.length) ?_
  rintro ⟨τ, c⟩ ⟨i1, i2, i3, i4, i5⟩ ih
  dsimp only at i1 i2 i3 i4 i5 ih ⊢
  have k308 : ∀ τ', rcB σ τ' n R S N op → rcR τ' n → rcD σ τ' S i → rcV σ τ' S i s op → chI σ n op (τ' 293) c 0 op.length → kX kT L xs (d + 9) 217 308 [(0, .ref 232), (1, .int (nI i)), (2, .int (nI s)), (3, .int (nI t)), (4, .int (nI op.length)), (5, .long my)] [] τ' (fun r σ' => rcP σ σ' n R S C N i r) := by
    intro τ' g1 g2 g3 g4 g5
    exact mr_rc_turn L xs (d + 6) σ τ' n b0 R S C N i s op c h hB.2.1 hN6 hi h6 h200 hz g1 g2 g3 g4 g5 (nI s) (nI t) my (fun τ2 c2 a1 a2 a3 a4 a5 a6 => ih (τ2, c2) ⟨a1, a2, a3, a4, a5⟩ a6)
  have hofn : τ 241 = σ 241 := i1.1.1 _ (by decide) (by decide)
  obtain ⟨b, l, e1, e2, e3, e4⟩ := i2
  obtain ⟨N', n0, hSs⟩ := i1.2.1
  have hN'6 := hSs.1
  have hval : ∀ V, opV τ op s c (τ 265) V op.length → (∀ p (h : p < op.length), V (6 * s + fN (σ 241 op[p])) = nI (c p)) ∧ ∀ u k, u < S → k < 6 → (∀ p (h : p < op.length), 6 * u + k ≠ 6 * s + fN (σ 241 op[p])) → V (6 * u + k) = stV σ i (6 * u + k) := fun V hV => ⟨fun p hp => by
      have := hV.1 p hp hp
      rw [hofn] at this
      exact this, fun u k hu hk hne => by
      rw [hV.2 (6 * u + k) (by rw [hofn]; exact hne)]
      exact i4 u k hu hk hne⟩
  have hof : ∀ p (h : p < op.length), c p < n ∧ ofs σ op[p] (c p) := fun p hp => ⟨(i5 p hp (Nat.zero_le _) hp).2.1, (i5 p hp (Nat.zero_le _) hp).2.2⟩
  have k299 : ∀ σ2, rcB σ σ2 n R S N op → (∃ b, mTb σ2 n b) → σ2 293 = τ 293 → kX kT L xs (d + 9) 217 299 [(0, .ref 232), (1, .int (nI i)), (2, .int (nI s)), (3, .int (nI t)), (4, .int (nI op.length)), (5, .long my)] [] σ2 (fun r σ' => rcP σ σ' n R S C N i r) := by
    rintro σ2 g1 ⟨b2, g2⟩ g3
    have hse2 : σ2 232 27 = nI S := (g1.1.2.1 _ (by decide) (by decide)).trans hB.2.1.2.1
    obtain ⟨N2, n2, hSs2⟩ := g1.2.1
    iterate 2 (refine kX_one rfl ?_)
    refine kX_cal (mr_takeState L xs (d + 7) σ2 S i hse2 hS4 (by omega)) rfl (Or.inr rfl) rfl rfl rfl (fun r1 σ3 q1 => ?_)
    obtain ⟨rfl, D, V, rfl, hD, hV⟩ := q1
    have hF3 : mSf σ2 (va_up (va_up σ2 264 D) 265 V) n := mSf_trans (mSf_up (c := 264) (by decide)) (mSf_up (c := 265) (by decide))
    have hB2 := mBs_sf h g1.1 hB
    have hB3 := mBs_sf g2 hF3 hB2
    have hT3 : mTb (va_up (va_up σ2 264 D) 265 V) n b2 := g2
    have hc3 : cfg (va_up (va_up σ2 264 D) 265 V) n R S D V := cfg_sf g2 hB2.1 hF3 (cfg_ext (fun u hu => hD u hu) (fun u k hu hk => by
      rw [hV u k hu hk]
      unfold stV
      rw [show 24 * i + (6 * u + k) = 24 * i + 6 * u + k by omega]) (hSs2.2.2 i (by omega)).1)
    have hSs3 : mSs (va_up (va_up σ2 264 D) 265 V) n R S N2 := mSs_sf g2 hB2.1 hF3 rfl rfl rfl rfl rfl hSs2
    iterate 1 (refine kX_one rfl ?_)
    refine kX_cal (mr_stateRow L xs (d + 1) _ n b2 R S kl hT3 hB3.2.2.1 hB3.1 hS4 (cfg_Sv hT3 hB3.1 hB3.2.1 hc3)) rfl (Or.inr rfl) rfl rfl rfl (fun r1 σ4 q1 => ?_)
    obtain ⟨rfl, -, b', l', hb', f1, f2, f3, f4, -⟩ := q1
    have esd : σ4 284 = σ2 284 := f1.1 _ (by decide)
    have esv : σ4 285 = σ2 285 := f1.1 _ (by decide)
    have eop : σ4 292 = σ2 292 := f1.1 _ (by decide)
    have ech : σ4 293 = σ2 293 := f1.1 _ (by decide)
    have edo : σ4 264 = D := f1.1 _ (by decide)
    have eva : σ4 265 = V := f1.1 _ (by decide)
    refine kX_lv _ rfl rfl rfl (k308 σ4 ⟨mSf_trans g1.1 (mSf_trans hF3 (mSf_fr f1)), ⟨N2, n2, mSs_fr hT3 hB3.1 f1 hSs3⟩, fun j hj => ?_, ?_⟩ ⟨b', l', hb', f2, f3, f4⟩ (fun u hu => ?_) (fun u k hu hk _ => ?_) ?_)
    · have := g1.2.2.1 j hj
      unfold stD stV at this ⊢
      rw [esd, esv]
      exact this
    · rw [eop]
      exact g1.2.2.2
    · rw [edo, hD u hu]
      exact (g1.2.2.1 i hi).1 u hu
    · rw [eva, hV u k hu hk, ← (g1.2.2.1 i hi).2 u k hu hk]
      unfold stV
      rw [show 24 * i + (6 * u + k) = 24 * i + 6 * u + k by omega]
    · rw [ech, g3]
      exact i5
  have k271 : ∀ ρ V, opV τ op s c (τ 265) V op.length → mFr (va_up τ 265 V) ρ n → mTb ρ n b → kX kT L xs (d + 9) 217 271 [(0, .ref 232), (1, .int (nI i)), (2, .int (nI s)), (3, .int (nI t)), (4, .int (nI op.length)), (5, .long my)] [] ρ (fun r σ' => rcP σ σ' n R S C N i r) := by
    intro ρ V hV hF hT
    have hR1 : mRo (va_up τ 265 V) n R := mSf_Ro h (mSf_trans i1.1 (mSf_up (c := 265) (by decide))) hB.1
    have hSs1 : mSs (va_up τ 265 V) n R S N' := hSs
    have hSs2 := mSs_fr (b := b) (σ := va_up τ 265 V) e2 hR1 hF hSs1
    have edo : ρ 264 = τ 264 := hF.1 _ (by decide)
    have eva : ρ 265 = V := hF.1 _ (by decide)
    have eop : ρ 292 = τ 292 := hF.1 _ (by decide)
    have ech : ρ 293 = τ 293 := hF.1 _ (by decide)
    have esd : ρ 284 = τ 284 := hF.1 _ (by decide)
    have esv : ρ 285 = τ 285 := hF.1 _ (by decide)
    obtain ⟨c1, c2, -⟩ := rc_cfg (D := stD σ i) (W := stV σ i) (V := V) h hB.1 (hS.2.2 i hi).1 hs r1 r2 r3 hdn hse ht het hop hof (hval V hV).1 (hval V hV).2
    have hds : ρ 264 s = nI dn := by rw [edo, i3 s hs, r3]
    have hF1 : mSf σ (va_up ρ 264 (upd (ρ 264) s (nI (dn + 1)))) n := mSf_trans i1.1 (mSf_trans (mSf_up (c := 265) (by decide)) (mSf_trans (mSf_fr hF) (mSf_up (c := 264) (by decide))))
    have hdo : ∀ u, u < S → upd (ρ 264) s (nI (dn + 1)) u = upd (stD σ i) s (nI (dn + 1)) u := fun u hu => by
      by_cases e : u = s
      · subst e
        rw [pk_us, pk_us]
      · rw [pk_un e, pk_un e, edo]
        exact i3 u hu
    have hvo : ∀ u k, u < S → k < 6 → ρ 265 (6 * u + k) = V (6 * u + k) := fun u k _ _ => by rw [eva]
    have hc1 : cfg (va_up ρ 264 (upd (ρ 264) s (nI (dn + 1)))) n R S (upd (ρ 264) s (nI (dn + 1))) (ρ 265) := cfg_sf h hB.1 hF1 (cfg_ext hdo hvo c1)
    have hSs3 : mSs (va_up ρ 264 (upd (ρ 264) s (nI (dn + 1)))) n R S N' := hSs2
    have hst : ∀ j, j < N → (∀ u, u < S → stD (va_up ρ 264 (upd (ρ 264) s (nI (dn + 1)))) j u = stD σ j u) ∧ ∀ u k, u < S → k < 6 → stV (va_up ρ 264 (upd (ρ 264) s (nI (dn + 1)))) j (6 * u + k) = stV σ j (6 * u + k) := fun j hj => by
      have := i1.2.2.1 j hj
      unfold stD stV at this ⊢
      show (∀ u, u < S → ρ 284 (4 * j + u) = _) ∧ ∀ u k, u < S → k < 6 → ρ 285 (24 * j + (6 * u + k)) = _
      rw [esd, esv]
      exact this
    have hlink : stp S (stD (va_up ρ 264 (upd (ρ 264) s (nI (dn + 1)))) i) (stV (va_up ρ 264 (upd (ρ 264) s (nI (dn + 1)))) i) (upd (ρ 264) s (nI (dn + 1))) (ρ 265) s := stp_ext (hst i hi).1 (hst i hi).2 hdo hvo c2
    have hT1 : mTb (va_up ρ 264 (upd (ρ 264) s (nI (dn + 1)))) n b := hT
    iterate 4 (refine kX_one rfl ?_)
    refine kX_ialdV rfl rfl (by decide) (s) (by first | rfl | decide) (by omega) (hds) ?_
    iterate 2 (refine kX_one rfl ?_)
    refine kX_top (nI_1 dn) ?_
    refine kX_iastN rfl rfl (by decide) (s) (by first | rfl | decide) (by omega) ?_
    have ho1 : (va_up ρ 264 (upd (ρ 264) s (nI (dn + 1)))) 292 = τ 292 := eop
    have hch1 : (va_up ρ 264 (upd (ρ 264) s (nI (dn + 1)))) 293 = τ 293 := ech
    have hcom := mr_comesToBe L xs d (va_up ρ 264 (upd (ρ 264) s (nI (dn + 1)))) n b R S C N' kl (nI i) (nI s) hT1 (mBs_sf h hF1 hB) hSs3 hc1 (Or.inr ⟨i, s, by omega, rfl, rfl, hlink⟩)
    generalize va_up ρ 264 (upd (ρ 264) s (nI (dn + 1))) = ρ1 at *
    iterate 3 (refine kX_one rfl ?_)
    refine kX_cal hcom rfl (Or.inr rfl) rfl rfl rfl (fun r1 σ2 q1 => ?_)
    obtain ⟨N3, m1, m2, hr, hsf, ⟨b3, hb3⟩, hss, hdd, hvv, hoo, hcc, hst3⟩ := q1
    have hB2 : rcB σ σ2 n R S N op := ⟨mSf_trans hF1 hsf, ⟨N3, by omega, hss⟩, fun j hj => ⟨fun u hu => ((hst3 j (by omega)).1 u hu).trans ((hst j hj).1 u hu), fun u k hu hk => ((hst3 j (by omega)).2 u k hu hk).trans ((hst j hj).2 u k hu hk)⟩, by rw [hoo, ho1]; exact i1.2.2.2⟩
    rcases hr with rfl | rfl | ⟨c', hc', rfl, hN3⟩
    · iterate 4 (refine kX_one rfl ?_)
      exact kX_lv _ rfl rfl rfl (k299 σ2 hB2 ⟨b3, hb3⟩ (hcc.trans hch1))
    · repeat refine kX_one rfl ?_
      refine kX_ret (i := .ireturn) (len := 1) rfl (Or.inr rfl) rfl ⟨N3, by omega, Or.inr (Or.inl rfl), hB2.1, ⟨b3, hb3⟩, hss, hB2.2.2.1, fun e => ?_⟩
      exact absurd (Value.int.inj (Option.some.inj e)) (by decide)
    · have hC6 : C ≤ 6 := hB.2.2.2.1
      have h0 : ¬ nI c' < 0 := nI_pos (by omega)
      repeat refine kX_one rfl ?_
      refine kX_if (fun q => ?_) (fun q => ?_)
      · exfalso
        have q : nI c' = -6 := qeq q
        rw [q] at h0
        exact h0 (by decide)
      · repeat refine kX_one rfl ?_
        refine kX_ret (i := .ireturn) (len := 1) rfl (Or.inr rfl) rfl ⟨N3, by omega, Or.inr (Or.inr ⟨c', hc', rfl, hN3⟩), hB2.1, ⟨b3, hb3⟩, hss, hB2.2.2.1, fun e => ?_⟩
        exfalso
        rw [Value.int.inj (Option.some.inj e)] at h0
        exact h0 (by decide)
  iterate 4 (refine kX_one rfl ?_)
  have hset := mr_rc_set L xs (d + 8) τ s op c (by omega) h6 (by unfold opN; rw [hofn]; exact hN) i1.2.2.2 (fun p hp => (i5 p hp (Nat.zero_le _) hp).1) (nI i) (nI t) 1 my (fun r σ' => rcP σ σ' n R S C N i r) (fun V hV => ?_) (0, τ 265) ⟨Nat.zero_le _, fun p hp h0 => absurd h0 (Nat.not_lt_zero p), fun j _ => rfl⟩
  · refine kX_to _ _ rfl rfl rfl ?_ hset
    funext c; unfold  va_up; repeat' split
    all_goals first | rfl | omega | (subst_vars; rfl) | (funext j; unfold upd; repeat' split; all_goals first | rfl | omega | (subst_vars; rfl))
  · obtain ⟨-, -, c3⟩ := rc_cfg (D := stD σ i) (W := stV σ i) (V := V) h hB.1 (hS.2.2 i hi).1 hs r1 r2 r3 hdn hse ht het hop hof (hval V hV).1 (hval V hV).2
    have hst : mSt (va_up τ 265 V) n s t := by
      have etv := (mFr_all h (pat_fr i1.1) ht).2.2
      have etv : tvs (τ 233) (τ 234) (τ 235) t = tvs (σ 233) (σ 234) (σ 235) t := etv
      intro u hu
      have hu : u ∈ tvs (τ 233) (τ 234) (τ 235) t := hu
      rw [etv] at hu
      obtain ⟨p, z, p1, p2, p3, p4, p5, p6⟩ := c3 u hu
      have etg := (mFr_all h (pat_fr i1.1) p2).2.1
      have etg : tgd (τ 233) (τ 234) (τ 235) z = tgd (σ 233) (σ 234) (σ 235) z := etg
      refine ⟨p, z, p1, p2, ?_, p4, etg.trans p5, ?_⟩
      · show τ 241 u = _
        rw [hofn]
        exact p3
      · show τ 240 u = _ → τ 233 z = _
        rw [i1.1.1 240 (by decide) (by decide), (i1.1.2.2 z (by omega)).1]
        exact p6
    refine mr_rc_try L xs (d + 3) (va_up τ 265 V) n b s t l e2 e1 e3 e4 (by omega) ht hst (nI i) (nI op.length) 1 my (fun r σ' => rcP σ σ' n R S C N i r) (fun ρ P hF hT hq hj => ?_)
    have hR1 : mRo (va_up τ 265 V) n R := mSf_Ro h (mSf_trans i1.1 (mSf_up (c := 265) (by decide))) hB.1
    have hSs1 : mSs (va_up τ 265 V) n R S N' := hSs
    repeat refine kX_one rfl ?_
    refine kX_if (fun q => ?_) (fun q => ?_)
    · refine kX_lv _ rfl rfl rfl (k308 ρ ⟨mSf_trans i1.1 (mSf_trans (mSf_up (c := 265) (by decide)) (mSf_fr hF)), ⟨N', n0, mSs_fr (b := b) (σ := va_up τ 265 V) e2 hR1 hF hSs1⟩, fun j hj => ?_, ?_⟩ ⟨b, l, e1, hT, hq, hj⟩ (fun u hu => ?_) (fun u k hu hk hne => ?_) ?_)
      · have := i1.2.2.1 j hj
        unfold stD stV at this ⊢
        rw [hF.1 284 (by decide), hF.1 285 (by decide)]
        exact this
      · rw [hF.1 292 (by decide)]
        exact i1.2.2.2
      · rw [hF.1 264 (by decide)]
        exact i3 u hu
      · rw [hF.1 265 (by decide)]
        exact (hval V hV).2 u k hu hk hne
      · rw [hF.1 293 (by decide)]
        exact i5
    · exact kX_lv _ rfl rfl rfl (k271 ρ V hV hF hT)
