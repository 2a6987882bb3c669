/-! alike: undo -/
def udS (σ : kS) (V : Nat → Int32) (s k dn : Nat) : kS := va_up (va_up (va_up (va_up σ 232 (upd (σ 232) 55 (nI k))) 264 (upd (σ 264) s (nI dn))) 265 V) 232 (upd (upd (σ 232) 55 (nI k)) 47 0)
set_option maxRecDepth 100000 in
set_option maxHeartbeats 4000000 in
theorem mg_undo (L : Nat) (xs : Nat → Int32) (d : Nat) (σ : kS) (n b R S C : Nat) (kl : List Nat) (Q : Option Value → kS → Prop) (h : mI σ n b R S C kl) (hS : σ 232 52 = 0 → Q (some (.int (-3))) σ) (hO : σ 232 52 = 1 → σ 232 55 = nI 0 → Q (some (.int (-5))) σ)
    (hN : ∀ ds0 s r V, σ 232 52 = 1 → mRn σ n R S (ds0 ++ [s]) → s < S → r < R → σ 255 s = nI r → σ 264 s = nI (ds0.count s + 1) → ds0.count s + 1 ≤ fN (σ 247 r) → (∀ j, (∀ k, k < 6 → j ≠ 6 * s + k) → V j = σ 265 j) → (∀ k, k < 6 → V (6 * s + k) = cit (nbv σ r (ds0.count s) k) (-6) (σ 265 (6 * s + k))) → mI (udS σ V s ds0.length (ds0.count s)) n b R S C kl → Q (some (.int (nI ds0.length))) (udS σ V s ds0.length (ds0.count s))) : kXM kT L xs (d + 1) 208 [.ref 232] σ Q := by
  have h0 := h
  obtain ⟨h1, h2, h3, h4, h5, h6, h7⟩ := h
  have hS4 := h3.1
  have hR4 := h2.1
  unfold kXM
  rcases h6 with h6 | ⟨h6, ds, g1, g2, g3⟩
  · iterate 2 (refine kX_one rfl ?_)
    refine kX_top (h6) ?_
    repeat refine kX_one rfl ?_
    refine kX_ret (i := .ireturn) (len := 1) rfl (Or.inr rfl) rfl (hS h6)
  have hlen := mRn_len h2 hS4 g1
  iterate 2 (refine kX_one rfl ?_)
  refine kX_top (h6) ?_
  iterate 3 (refine kX_one rfl ?_)
  refine kX_top (g1.1) ?_
  rcases snoc_cases ds with rfl | ⟨ds0, s, rfl⟩
  · have hd0 := g1.1
    repeat refine kX_one rfl ?_
    refine kX_ret (i := .ireturn) (len := 1) rfl (Or.inr rfl) rfl (hO h6 hd0)
  have hl1 : (ds0 ++ [s]).length = ds0.length + 1 := by simp
  have hs : s < S := g1.2.2.1 s (by simp)
  have hcs : (ds0 ++ [s]).count s = ds0.count s + 1 := by rw [List.count_append]; simp
  obtain ⟨r, r1, r2, r3, r4, -⟩ := g1.2.2.2 s hs
  rw [hcs] at r3 r4
  obtain ⟨-, v2, v3⟩ := mSn_iff h1 h2 (g1.2.2.2 s hs) r2 r1
  rw [hcs] at v2 v3
  have hfr : fN (σ 255 s) = r := by rw [r2]; exact fN_nI (by omega)
  obtain ⟨m, m1, m2, m3⟩ := g2 ds0.length (by simp)
  have e1 : (ds0 ++ [s])[ds0.length]'(by simp) = s := by simp
  have e2 : (ds0 ++ [s]).take ds0.length = ds0 := by simp
  rw [e1, e2, hfr] at m3
  obtain ⟨p1, p2⟩ := lst_pop g1.2.1
  repeat refine kX_one rfl ?_
  refine kX_ifT (decide_eq_true (by rw [hl1]; exact nI_ne0 (by omega) (by omega))) ?_
  iterate 3 (refine kX_one rfl ?_)
  refine kX_top (g1.1) ?_
  rw [hl1]
  iterate 2 (refine kX_one rfl ?_)
  refine kX_top (nI_pred ds0.length) ?_
  iterate 5 (refine kX_one rfl ?_)
  refine kX_ialdV (v := nI s) rfl rfl (by decide) ds0.length rfl (by omega) p1 ?_
  repeat refine kX_one rfl ?_
  refine kX_ialdV rfl rfl (by decide) (s) (by first | rfl | decide) (by omega) (r3) ?_
  iterate 2 (refine kX_one rfl ?_)
  refine kX_top (nI_pred (ds0.count s)) ?_
  refine kX_iastN rfl rfl (by decide) (s) (by first | rfl | decide) (by omega) ?_
  iterate 2 (refine kX_one rfl ?_)
  have loop := kX_while (T := kT) (L := L) (xs := xs) (d := d + 1) (mi := 208) (pc := 52) (Q := Q)
    (fun q : Nat × (Nat → Int32) => [(2, .int (nI q.1)), (1, .int (nI s)), (0, .ref 232)]) (fun q => va_up (va_up (va_up σ 232 (upd (σ 232) 55 (nI ds0.length))) 264 (upd (σ 264) s (nI (ds0.count s)))) 265 q.2) (fun q => q.1 ≤ 6 ∧ (∀ j, (∀ k, k < 6 → j ≠ 6 * s + k) → q.2 j = σ 265 j) ∧ (∀ k, k < q.1 → q.2 (6 * s + k) = if m / 2 ^ k % 2 = 1 then -6 else σ 265 (6 * s + k)) ∧ ∀ k, q.1 ≤ k → k < 6 → q.2 (6 * s + k) = σ 265 (6 * s + k)) (fun q => 6 - q.1) ?_ (0, σ 265) ⟨Nat.zero_le _, fun _ _ => rfl, fun k hk => absurd hk (Nat.not_lt_zero k), fun _ _ _ => rfl⟩
  · refine kX_to _ _ rfl rfl rfl ?_ loop
    funext c; unfold  va_up; repeat' split
    all_goals first | rfl | omega | (subst_vars; rfl) | (funext j; unfold upd; repeat' split; all_goals first | rfl | omega | (subst_vars; rfl))
  · rintro ⟨i, V⟩ ⟨i1, i2, i3, i4⟩ ih
    dsimp only at i1 i2 i3 i4 ih ⊢
    repeat refine kX_one rfl ?_
    refine kX_if (fun q => ?_) (fun q => ?_)
    · have q := qge q i 6
      obtain rfl : i = 6 := by omega
      repeat refine kX_one rfl ?_
      have hv' : ∀ k, k < 6 → (bdv σ r (ds0.count s) k → mVz σ n r k (V (6 * s + k))) ∧ (¬ bdv σ r (ds0.count s) k → V (6 * s + k) = -6) := fun k hk => by
        rw [i3 k hk]
        constructor
        · intro hb
          have : ¬ (m / 2 ^ k % 2 = 1) := fun z => ((m3 k hk).mp z).2 hb
          rw [if_neg this]
          exact (v3 k hk).1 (bdv_mono (by omega) hb)
        · intro hb
          by_cases hb1 : bdv σ r (ds0.count s + 1) k
          · rw [if_pos ((m3 k hk).mpr ⟨hb1, hb⟩)]
          · split
            · rfl
            · exact (v3 k hk).2 hb1
      have hRn : mRn (va_up (va_up (va_up (va_up σ 232 (upd (σ 232) 55 (nI ds0.length))) 264 (upd (σ 264) s (nI (ds0.count s)))) 265 V) 232 (upd (upd (σ 232) 55 (nI ds0.length)) 47 0)) n R S ds0 := by
        refine ⟨rfl, p2, fun s' hs' => g1.2.2.1 s' (List.mem_append_left _ hs'), fun s' hs' => ?_⟩
        by_cases e : s' = s
        · subst e
          exact mSn_of (b := b) h1 h2 r1 r2 pk_us (show ds0.count s' ≤ fN (σ 247 r) by omega) hv'
        · have ec : (ds0 ++ [s]).count s' = ds0.count s' := by rw [List.count_append]; simp [Ne.symm e]
          have hsn := g1.2.2.2 s' hs'
          rw [ec] at hsn
          obtain ⟨r', r1', r2', -⟩ := id hsn
          obtain ⟨b1, b2, b3⟩ := mSn_iff h1 h2 hsn r2' r1'
          refine mSn_of (b := b) h1 h2 r1' r2' ?_ b2 (fun k hk => ?_)
          · show upd (σ 264) s (nI (ds0.count s)) s' = _
            rw [pk_un e]
            exact b1
          · have ev : V (6 * s' + k) = σ 265 (6 * s' + k) := i2 _ (fun k' hk' => by omega)
            show (bdv σ r' (ds0.count s') k → mVz σ n r' k (V (6 * s' + k))) ∧ (¬ bdv σ r' (ds0.count s') k → V (6 * s' + k) = -6)
            rw [ev]
            exact b3 k hk
      have hBi : mBi (va_up (va_up (va_up (va_up σ 232 (upd (σ 232) 55 (nI ds0.length))) 264 (upd (σ 264) s (nI (ds0.count s)))) 265 V) 232 (upd (upd (σ 232) 55 (nI ds0.length)) 47 0)) ds0 := by
        intro k hk
        obtain ⟨m', n1, n2, n3⟩ := g2 k (by simp; omega)
        have e3 : (ds0 ++ [s])[k]'(by simp; omega) = ds0[k] := List.getElem_append_left hk
        rw [e3, List.take_append_of_le_length (by omega)] at n3
        exact ⟨m', n1, n2, n3⟩
      refine kX_ret (i := .ireturn) (len := 1) rfl (Or.inr rfl) rfl (hN ds0 s r V h6 g1 hs r1 r2 r3 v2 i2 (fun k hk => ?_) ⟨h1, h2, h3, h4, h5, Or.inr ⟨h6, ds0, hRn, hBi, Or.inl rfl⟩, h7⟩)
      rw [i3 k hk]
      by_cases hz : m / 2 ^ k % 2 = 1
      · rw [if_pos hz, cit_T ((m3 k hk).mp hz)]
      · rw [if_neg hz, cit_F (fun z => hz ((m3 k hk).mpr z))]
    · have q := qgeF q i 6
      repeat refine kX_one rfl ?_
      refine kX_ialdV (v := nI m) rfl rfl (by decide) ds0.length rfl (by omega) m2 ?_
      iterate 4 (refine kX_one rfl ?_)
      refine kX_top (bm_bit m m1 i q) ?_
      have hb2 : m / 2 ^ i % 2 < 2 := Nat.mod_lt _ (by decide)
      have back : ∀ V' : Nat → Int32, (∀ j, (∀ k, k < 6 → j ≠ 6 * s + k) → V' j = σ 265 j) → (∀ k, k < i + 1 → V' (6 * s + k) = if m / 2 ^ k % 2 = 1 then -6 else σ 265 (6 * s + k)) → (∀ k, i + 1 ≤ k → k < 6 → V' (6 * s + k) = σ 265 (6 * s + k)) → kX kT L xs (d + 1) 208 88 [(2, .int (nI i)), (1, .int (nI s)), (0, .ref 232)] [] (va_up (va_up (va_up σ 232 (upd (σ 232) 55 (nI ds0.length))) 264 (upd (σ 264) s (nI (ds0.count s)))) 265 V') Q := by
        intro V' j1 j2 j3
        iterate 2 (refine kX_one rfl ?_)
        have := ih (i + 1, V') ⟨by simp only; omega, j1, j2, j3⟩ (by simp only; omega)
        rw [← nI_1] at this
        exact this
      repeat refine kX_one rfl ?_
      refine kX_if (fun q2 => ?_) (fun q2 => ?_)
      · have q2 : ¬ (m / 2 ^ i % 2 = 1) := fun e => qne q2 (by rw [e]; rfl)
        refine back V i2 (fun k hk => ?_) (fun k hk hk6 => i4 k (by omega) hk6)
        by_cases e : k = i
        · subst e
          rw [if_neg q2]
          exact i4 k (Nat.le_refl _) q
        · exact i3 k (by omega)
      · have q2 : m / 2 ^ i % 2 = 1 := nI_inj (qneF q2)
        iterate 7 (refine kX_one rfl ?_)
        iterate 1 (refine kX_one rfl ?_)
        refine kX_iastN rfl rfl (by decide) (6 * s + i) (ix6 s i) (by omega) ?_
        rw [kup_up]
        refine back (upd V (6 * s + i) _) (fun j hj => ?_) (fun k hk => ?_) (fun k hk hk6 => ?_)
        · rw [pk_un (hj i q)]
          exact i2 j hj
        · by_cases e : k = i
          · subst e
            rw [pk_us, if_pos q2]
            rfl
          · rw [pk_un (by omega)]
            exact i3 k (by omega)
        · rw [pk_un (by omega)]
          exact i4 k (by omega) hk6
set_option maxRecDepth 100000 in
set_option maxHeartbeats 4000000 in
theorem mf_eventOf (L : Nat) (xs : Nat → Int32) (d : Nat) (σ : kS) (n R S s r ev : Nat) (x : Int32) (hRo : cRo σ n R) (hS4 : S ≤ 4) (hr : r < R) (hr2 : σ 15 s = nI r) (hev : σ (23 + 35 * r) 5 = nI ev) (hs : s < S) (hev6 : ev ≤ 6) : kXM kT L xs (d + 1) 69 [.ref 181, .int (nI s), .int x] σ (fun q σ' => ((q = some .null ∧ ∀ k, k < ev → x ≠ nI k) ∨ ∃ k, k < ev ∧ x = nI k ∧ q = some (.ref (28 + 35 * r + 5 * k)) ∧ cE σ n (28 + 35 * r + 5 * k)) ∧ σ = σ') := by
  have hR4 := hRo.1
  obtain ⟨v, e, v1, e1, v2, e2, so1, ev1⟩ := hRo.2.2 r hr
  obtain rfl : ev = e := by
    have := e2.symm.trans hev
    by_cases hq : ev < 2147483648
    · exact (nI_inj this).symm
    · exact absurd hev6 (by omega)
  have hr4 : r < 4 := by omega
  unfold kXM
  have k39 : (∀ k, k < ev → x ≠ nI k) → kX kT L xs (d + 1) 69 39 [(3, .ref (23 + 35 * r)), (0, .ref 181), (1, .int (nI s)), (2, .int x)] [] σ (fun q σ' => ((q = some .null ∧ ∀ k, k < ev → x ≠ nI k) ∨ ∃ k, k < ev ∧ x = nI k ∧ q = some (.ref (28 + 35 * r + 5 * k)) ∧ cE σ n (28 + 35 * r + 5 * k)) ∧ σ = σ') := by
    intro hno
    iterate 1 (refine kX_one rfl ?_)
    refine kX_ret (i := .areturn) (len := 1) rfl (Or.inr rfl) rfl ⟨Or.inl ⟨rfl, hno⟩, rfl⟩
  iterate 7 (refine kX_one rfl ?_)
  refine kX_ialdV rfl rfl (by decide) (s) (by first | rfl | decide) (by omega) (hr2) ?_
  refine kX_aaldN rfl (rfl) (by decide) (by decide) (by decide) (r) (by first | rfl | decide) (hr4) (ro_at hr4) ?_
  iterate 2 (refine kX_one rfl ?_)
  repeat refine kX_one rfl ?_
  refine kX_if (fun q => ?_) (fun q => ?_)
  · have q : x < 0 := of_decide_eq_true q
    exact kX_lv _ rfl rfl rfl (k39 (fun k hk z => by rw [z] at q; exact nI_pos (by omega) q))
  · have q : ¬ x < 0 := of_decide_eq_false q
    obtain ⟨k, hk, rfl⟩ := nI_of q
    iterate 2 (refine kX_one rfl ?_)
    refine kX_getN rfl rfl (kT_ro hr4) rfl ?_
    refine kX_top (e2) ?_
    repeat refine kX_one rfl ?_
    refine kX_if (fun q2 => ?_) (fun q2 => ?_)
    · have q2 := qge q2 k ev
      exact kX_lv _ rfl rfl rfl (k39 (fun k' hk' z => by have := nI_inj z; omega))
    · have q2 := qgeF q2 k ev
      have hk6 : k < 6 := by omega
      iterate 1 (refine kX_one rfl ?_)
      refine kX_getN rfl rfl (kT_ro hr4) rfl ?_
      iterate 1 (refine kX_one rfl ?_)
      refine kX_aaldN rfl (kT_re hr4) (by decide) (by decide) (by decide) (k) (by first | rfl | decide) (hk6) (ev_at hk6) ?_
      iterate 1 (refine kX_one rfl ?_)
      refine kX_ret (i := .areturn) (len := 1) rfl (Or.inr rfl) rfl ⟨Or.inr ⟨k, q2, rfl, rfl, ev1 k q2⟩, rfl⟩
