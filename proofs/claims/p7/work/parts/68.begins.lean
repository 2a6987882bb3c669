/-! the reference: SESSIONS begin, next EVENTS -/
/-- cells of the class are as they were -/
def mLow (σ τ : kS) : Prop := ∀ c, c < 232 → τ c = σ c
theorem mLow_refl (σ : kS) : mLow σ σ := fun _ _ => rfl
theorem mLow_trans {σ τ ρ : kS} (h1 : mLow σ τ) (h2 : mLow τ ρ) : mLow σ ρ := fun c hc => (h2 c hc).trans (h1 c hc)
theorem mLow_up (σ : kS) {a : Nat} (f : Nat → Int32) (h : 232 ≤ a) : mLow σ (va_up σ a f) := fun c hc => kup_ne (by omega)
theorem mLow_fr {σ τ : kS} {n : Nat} (h : mFr σ τ n) : mLow σ τ := fun c hc => h.1 c (fun q => by
  simp only [rowC, List.mem_cons, List.not_mem_nil, or_false] at q
  omega)
set_option maxRecDepth 100000 in
set_option maxHeartbeats 4000000 in
theorem mr_begins (L : Nat) (xs : Nat → Int32) (d : Nat) (σ : kS) (n b R S : Nat) (h : mTb σ n b) (hR : mRo σ n R) (hS : mSe σ n R S) : kXM kT L xs (d + 1) 175 [.ref 232] σ (fun r σ' => r = none ∧ ∃ D V, σ' = va_up (va_up σ 264 D) 265 V ∧ (∀ s, s < S → D s = 0) ∧ (∀ s k, s < S → k < 6 → V (6 * s + k) = if k < fN (σ 244 (fN (σ 255 s))) then σ 256 (6 * s + k) else -6)) := by
  have hS4 := hS.1
  have hR4 := hR.1
  unfold kXM
  iterate 2 (refine kX_one rfl ?_)
  have loopA := kX_while (T := kT) (L := L) (xs := xs) (d := d + 1) (mi := 175) (pc := 2) (Q := fun r σ' => r = none ∧ ∃ D V, σ' = va_up (va_up σ 264 D) 265 V ∧ (∀ s, s < S → D s = 0) ∧ (∀ s k, s < S → k < 6 → V (6 * s + k) = if k < fN (σ 244 (fN (σ 255 s))) then σ 256 (6 * s + k) else -6))
    (fun q : Nat × (Nat → Int32) × (Nat → Int32) => [(1, .int (nI q.1)), (0, .ref 232)]) (fun q => va_up (va_up σ 264 q.2.1) 265 q.2.2) (fun q => q.1 ≤ S ∧ (∀ s, s < q.1 → q.2.1 s = 0) ∧ (∀ s k, s < q.1 → k < 6 → q.2.2 (6 * s + k) = if k < fN (σ 244 (fN (σ 255 s))) then σ 256 (6 * s + k) else -6)) (fun q => S - q.1) ?_ (0, σ 264, σ 265) ⟨Nat.zero_le _, fun s hs => absurd hs (Nat.not_lt_zero s), fun s k hs => absurd hs (Nat.not_lt_zero s)⟩
  · refine kX_st _ ?_ loopA
    funext c; unfold  va_up; repeat' split
    all_goals first | rfl | omega | (subst_vars; rfl) | (funext j; unfold upd; repeat' split; all_goals first | rfl | omega | (subst_vars; rfl))
  · rintro ⟨s, D, V⟩ ⟨i1, i2, i3⟩ ih
    dsimp only at i1 i2 i3 ih ⊢
    iterate 3 (refine kX_one rfl ?_)
    refine kX_top (hS.2.1) ?_
    repeat refine kX_one rfl ?_
    refine kX_if (fun q => ?_) (fun q => ?_)
    · have q := qge q s S
      obtain rfl : s = S := by omega
      refine kX_ret (i := .return_) (len := 1) rfl (Or.inr rfl) rfl (⟨rfl, D, V, rfl, i2, i3⟩)
    · have q := qgeF q s S
      obtain ⟨r, r1, r2, -⟩ := hS.2.2 s q
      obtain ⟨⟨v, hv6, hv⟩, -⟩ := hR.2.2.1 r r1
      have hfr : fN (σ 255 s) = r := by rw [r2]; exact fN_nI (by omega)
      have hfv : fN (σ 244 r) = v := by rw [hv]; exact fN_nI (by omega)
      repeat refine kX_one rfl ?_
      refine kX_iastN rfl rfl (by decide) (s) (by first | rfl | decide) (by omega) ?_
      iterate 2 (refine kX_one rfl ?_)
      have loopB := kX_while (T := kT) (L := L) (xs := xs) (d := d + 1) (mi := 175) (pc := 19) (Q := fun r σ' => r = none ∧ ∃ D V, σ' = va_up (va_up σ 264 D) 265 V ∧ (∀ s, s < S → D s = 0) ∧ (∀ s k, s < S → k < 6 → V (6 * s + k) = if k < fN (σ 244 (fN (σ 255 s))) then σ 256 (6 * s + k) else -6))
        (fun q : Nat × (Nat → Int32) => [(2, .int (nI q.1)), (1, .int (nI s)), (0, .ref 232)]) (fun q => va_up (va_up σ 264 (upd D s 0)) 265 q.2) (fun q => q.1 ≤ 6 ∧ (∀ s' k, s' < s → k < 6 → q.2 (6 * s' + k) = if k < fN (σ 244 (fN (σ 255 s'))) then σ 256 (6 * s' + k) else -6) ∧ ∀ k, k < q.1 → q.2 (6 * s + k) = if k < v then σ 256 (6 * s + k) else -6) (fun q => 6 - q.1) ?_ (0, V) ⟨Nat.zero_le _, i3, fun k hk => absurd hk (Nat.not_lt_zero k)⟩
      · refine kX_st _ ?_ loopB
        funext c; unfold  va_up; repeat' split
        all_goals first | rfl | omega | (subst_vars; rfl) | (funext j; unfold upd; repeat' split; all_goals first | rfl | omega | (subst_vars; rfl))
      · rintro ⟨k, V2⟩ ⟨j1, j2, j3⟩ ih2
        dsimp only at j1 j2 j3 ih2 ⊢
        repeat refine kX_one rfl ?_
        refine kX_if (fun q2 => ?_) (fun q2 => ?_)
        · have q2 := qge q2 k 6
          obtain rfl : k = 6 := by omega
          iterate 2 (refine kX_one rfl ?_)
          have := ih (s + 1, upd D s 0, V2) ⟨by simp only; omega, fun s' hs' => by
            simp only at hs' ⊢
            by_cases e : s' = s
            · subst e
              exact pk_us
            · rw [pk_un e]
              exact i2 s' (by omega), fun s' k hs' hk => by
            simp only at hs' ⊢
            by_cases e : s' = s
            · subst e
              rw [hfr, hfv]
              exact j3 k hk
            · exact j2 s' k (by omega) hk⟩ (by simp only; omega)
          rw [← nI_1] at this
          exact kX_lv _ rfl rfl rfl this
        · have q2 := qgeF q2 k 6
          have back : ∀ x : Int32, x = (if k < v then σ 256 (6 * s + k) else -6) → kX kT L xs (d + 1) 175 66 [(2, .int (nI k)), (1, .int (nI s)), (0, .ref 232)] [.int x, .int (nI (6 * s + k)), .ref 265] (va_up (va_up σ 264 (upd D s 0)) 265 V2) (fun r σ' => r = none ∧ ∃ D V, σ' = va_up (va_up σ 264 D) 265 V ∧ (∀ s, s < S → D s = 0) ∧ (∀ s k, s < S → k < 6 → V (6 * s + k) = if k < fN (σ 244 (fN (σ 255 s))) then σ 256 (6 * s + k) else -6)) := by
            intro x hx
            refine kX_iastN rfl rfl (by decide) (6 * s + k) (by first | rfl | decide) (by omega) ?_
            iterate 2 (refine kX_one rfl ?_)
            rw [kup_up]
            have := ih2 (k + 1, upd V2 (6 * s + k) x) ⟨by simp only; omega, fun s' k' hs' hk' => by
              simp only
              rw [pk_un (by omega)]
              exact j2 s' k' hs' hk', fun k' hk' => by
              simp only at hk' ⊢
              by_cases e : k' = k
              · subst e
                rw [pk_us]
                exact hx
              · rw [pk_un (by omega)]
                exact j3 k' (by omega)⟩ (by simp only; omega)
            rw [← nI_1] at this
            exact this
          iterate 7 (refine kX_one rfl ?_)
          refine kX_top (ix6 s k) ?_
          repeat refine kX_one rfl ?_
          refine kX_ialdV rfl rfl (by decide) (s) (by first | rfl | decide) (by omega) (r2) ?_
          refine kX_ialdV rfl rfl (by decide) (r) (by first | rfl | decide) (by omega) (hv) ?_
          repeat refine kX_one rfl ?_
          refine kX_if (fun q3 => ?_) (fun q3 => ?_)
          · have q3 := qge q3 k v
            iterate 1 (refine kX_one rfl ?_)
            exact back _ (by rw [if_neg (by omega)]; rfl)
          · have q3 := qgeF q3 k v
            repeat refine kX_one rfl ?_
            refine kX_ialdV (v := σ 256 (6 * s + k)) rfl rfl (by decide) (6 * s + k) (ix6 s k) (by omega) rfl ?_
            iterate 1 (refine kX_one rfl ?_)
            exact back _ (by rw [if_pos q3])
/-- SESSIONS at their beginning -/
theorem mSn_begin {σ : kS} {n b R S : Nat} {D V : Nat → Int32} (h : mTb σ n b) (hR : mRo σ n R) (hS : mSe σ n R S) (hD : ∀ s, s < S → D s = 0) (hV : ∀ s k, s < S → k < 6 → V (6 * s + k) = if k < fN (σ 244 (fN (σ 255 s))) then σ 256 (6 * s + k) else -6) : ∀ s, s < S → mSn (va_up (va_up σ 264 D) 265 V) n R s 0 := by
  intro s hs
  have hn := h.1
  obtain ⟨r, r1, r2, r3, r4⟩ := hS.2.2 s hs
  have hR4 := hR.1
  have hfr : fN (σ 255 s) = r := by rw [r2]; exact fN_nI (by omega)
  have hv6 : fN (σ 244 r) ≤ 6 := by
    obtain ⟨⟨v, h1, h2⟩, -⟩ := hR.2.2.1 r r1
    rw [h2, fN_nI (by omega)]
    exact h1
  refine ⟨r, r1, r2, (hD s hs).trans nI_0.symm, Nat.zero_le _, fun k hk => ?_, fun e he => absurd he (Nat.not_lt_zero e), fun k hk ha hne => ?_⟩
  · show (V (6 * s + k) = -6 ∧ (k < fN (σ 244 r) → σ 246 (6 * r + k) = nI 2)) ∨ ∃ z, z < n ∧ V (6 * s + k) = nI z ∧ tgd (σ 233) (σ 234) (σ 235) z = true ∧ k < fN (σ 244 r) ∧ (σ 240 (fN (σ 245 (6 * r + k))) = nI 3 ∨ σ 240 (fN (σ 245 (6 * r + k))) = σ 233 z)
    rw [hV s k hs hk, hfr]
    by_cases hkv : k < fN (σ 244 r)
    · rw [if_pos hkv]
      obtain ⟨as, a1, a2⟩ := r4 k hkv
      rcases a2 with ⟨rfl, a2⟩ | ⟨a2, z, z1, z2, z3⟩
      · exact Or.inl ⟨a2, fun _ => a1⟩
      · refine Or.inr ⟨z, z1, z2, ?_, hkv, Or.inr z3.symm⟩
        obtain ⟨t, so, as', t1, t2, t3, t4, t5, t6, t7, t8, t9, t10, t11⟩ := hR.2.2.2.1 r k r1 hkv
        have has : as = as' := nI_inj (a1.symm.trans t9)
        subst has
        have hso : so ≤ 2 := by
          obtain rfl | rfl : as = 0 ∨ as = 1 := by omega
          · have := t10 rfl
            omega
          · have := t11 rfl
            omega
        rw [t2, fN_nI (by omega), t7] at z3
        rw [tgd_0 z3 (by omega)]
        exact decide_eq_true (by omega)
    · rw [if_neg hkv]
      exact Or.inl ⟨rfl, fun q => absurd q hkv⟩
  · exfalso
    apply hne
    show V (6 * s + k) = -6
    have hk' : k < fN (σ 244 r) := hk
    rw [hV s k hs (by omega), hfr, if_pos hk']
    obtain ⟨as, a1, a2⟩ := r4 k hk'
    have : as = 2 := by
      have ha' : σ 246 (6 * r + k) = nI 2 := ha
      rcases a2 with ⟨e, -⟩ | ⟨e, -⟩
      · exact e
      · exact nI_inj (a1.symm.trans ha')
    rcases a2 with ⟨-, a2⟩ | ⟨a2, -⟩
    · exact a2
    · omega
set_option maxRecDepth 100000 in
set_option maxHeartbeats 4000000 in
theorem mr_nextEvent (L : Nat) (xs : Nat → Int32) (d : Nat) (σ : kS) (n R s r dn : Nat) (hR : mRo σ n R) (hs : s < 4) (r1 : r < R) (r2 : σ 255 s = nI r) (r3 : σ 264 s = nI dn) (hdn : dn ≤ 6) : kXM kT L xs (d + 1) 193 [.ref 232, .int (nI s)] σ (fun x σ' => x = some (.int (if dn < fN (σ 247 r) then nI (6 * r + dn) else -1)) ∧ σ = σ') := by
  obtain ⟨-, ev, he6, hev⟩ := hR.2.2.1 r r1
  have hR4 := hR.1
  have hfe : fN (σ 247 r) = ev := by rw [hev]; exact fN_nI (by omega)
  unfold kXM
  repeat refine kX_one rfl ?_
  refine kX_ialdV rfl rfl (by decide) (s) (by first | rfl | decide) (hs) (r2) ?_
  repeat refine kX_one rfl ?_
  refine kX_ialdV rfl rfl (by decide) (s) (by first | rfl | decide) (hs) (r3) ?_
  repeat refine kX_one rfl ?_
  refine kX_ialdV rfl rfl (by decide) (r) (by first | rfl | decide) (by omega) (hev) ?_
  repeat refine kX_one rfl ?_
  refine kX_if (fun q => ?_) (fun q => ?_)
  · have q := qge q dn ev
    repeat refine kX_one rfl ?_
    refine kX_ret (i := .ireturn) (len := 1) rfl (Or.inr rfl) rfl (⟨by rw [if_neg (by omega)]; rfl, rfl⟩)
  · have q := qgeF q dn ev
    repeat refine kX_one rfl ?_
    refine kX_ialdV rfl rfl (by decide) (s) (by first | rfl | decide) (hs) (r3) ?_
    iterate 1 (refine kX_one rfl ?_)
    refine kX_top (ix6 r dn) ?_
    repeat refine kX_one rfl ?_
    refine kX_ret (i := .ireturn) (len := 1) rfl (Or.inr rfl) rfl (⟨by rw [if_pos (by omega)], rfl⟩)
set_option maxRecDepth 100000 in
set_option maxHeartbeats 4000000 in
theorem mr_does (L : Nat) (xs : Nat → Int32) (d : Nat) (σ : kS) (s k dn : Nat) (bd : Int32) (hs : s < 4) (h1 : σ 232 55 = nI k) (hk : k < 24) (h2 : σ 264 s = nI dn) : kXM kT L xs (d + 1) 194 [.ref 232, .int (nI s), .int bd] σ (fun x σ' => x = none ∧ σ' = va_up (va_up (va_up (va_up σ 274 (upd (σ 274) k (nI s))) 275 (upd (σ 275) k bd)) 232 (upd (σ 232) 55 (nI (k + 1)))) 264 (upd (σ 264) s (nI (dn + 1)))) := by
  unfold kXM
  repeat refine kX_one rfl ?_
  refine kX_iastN rfl rfl (by decide) k h1 hk ?_
  repeat refine kX_one rfl ?_
  refine kX_iastN rfl rfl (by decide) k h1 hk ?_
  iterate 3 (refine kX_one rfl ?_)
  refine kX_top (h1) ?_
  iterate 2 (refine kX_one rfl ?_)
  refine kX_top (nI_1 k) ?_
  repeat refine kX_one rfl ?_
  refine kX_ialdV rfl rfl (by decide) (s) (by first | rfl | decide) (hs) (h2) ?_
  iterate 2 (refine kX_one rfl ?_)
  refine kX_top (nI_1 dn) ?_
  refine kX_iastN rfl rfl (by decide) (s) (by first | rfl | decide) (hs) ?_
  refine kX_ret (i := .return_) (len := 1) rfl (Or.inr rfl) rfl (⟨rfl, rfl⟩)
