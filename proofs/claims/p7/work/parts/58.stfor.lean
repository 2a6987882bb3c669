/-! the reference: standsFor, walked -/
def w1 (q : Nat) : Int32 := if q = 0 then -1 else nI (q - 1)
theorem w1_dec (q : Nat) : nI q + Int32.ofInt (-1) = w1 q := by
  unfold w1
  split
  · next e => subst e; decide
  · next e =>
    obtain ⟨p, rfl⟩ : ∃ p, q = p + 1 := ⟨q - 1, by omega⟩
    exact pk_m1 p
set_option maxRecDepth 100000 in
set_option maxHeartbeats 4000000 in
theorem mr_standsFor (L : Nat) (xs : Nat → Int32) (d : Nat) (σ : kS) (n b s t : Nat) (h : mTb σ n b) (hb : b ≤ 976) (hs : s < 4) (ht : t < n) (hst : mSt σ n s t) : kXM kT L xs (d + 5) 176 [.ref 232, .int (nI s), .int (nI t)] σ (fun r ρ => ∃ u b', r = some (.int (nI u)) ∧ mEx σ ρ n b b' ∧ b' ≤ b + 24 ∧ mv n b' u ∧ tvl (ρ 233) (ρ 234) (ρ 235) u = tin σ s t ∧ tgd (ρ 233) (ρ 234) (ρ 235) u = true) := by
  have hn := h.1
  have hV := h.2.2.2.2.2.1.1
  have htv : mv n b t := Or.inl ht
  have hGt := h.2.2.2.2.2.2.1 t htv
  obtain ⟨l1, l2, l3⟩ := tsl_all hV (t + 1) t (by omega) htv
  have l4 := tsl_tvs hV (t + 1) t (by omega) htv
  have hsz : (tsl (σ 233) (σ 234) (σ 235) (t + 1) t).length ≤ 24 := by
    rw [l1]
    exact h.2.2.2.2.2.2.2.2.2 t ht
  generalize tsl (σ 233) (σ 234) (σ 235) (t + 1) t = Ls at l1 l2 l3 l4 hsz
  unfold kXM
  repeat refine kX_one rfl ?_
  refine kX_baldV rfl rfl (by decide) (t) (by first | rfl | decide) (by omega) (hGt) ?_
  repeat refine kX_one rfl ?_
  refine kX_if (fun q => ?_) (fun q => ?_)
  · /- the third loop -/
    have loop3 : ∀ N : Nat → Int32, (∀ u, u ≤ t → N u = 0 ∨ N u = 1) → N t = 1 → (∀ u, u ≤ t → N u ≠ 0 → u ∈ Ls) → (∀ u, u ≤ t → N u ≠ 0 → (∀ x, σ 234 u = nI x → x < 1000 → N x ≠ 0) ∧ ∀ y, σ 235 u = nI y → y < 1000 → N y ≠ 0) → ∀ I : Nat → Int32,
        kX kT L xs (d + 5) 176 103 [(3, .int (nI 0)), (0, .ref 232), (1, .int (nI s)), (2, .int (nI t))] [] (va_up (va_up σ 266 N) 267 I) (fun r ρ => ∃ u b', r = some (.int (nI u)) ∧ mEx σ ρ n b b' ∧ b' ≤ b + 24 ∧ mv n b' u ∧ tvl (ρ 233) (ρ 234) (ρ 235) u = tin σ s t ∧ tgd (ρ 233) (ρ 234) (ρ 235) u = true) := by
      intro N n1 n2 n3 n4 I
      have hc24 : ∀ i, i ≤ t + 1 → cnt (fun u => u ≤ t ∧ N u ≠ 0) i ≤ 24 := fun i hi => Nat.le_trans (cnt_mono (fun u hu => n3 u hu.1 hu.2) i) (Nat.le_trans (cnt_mem Ls i) hsz)
      refine kX_while (fun q : Nat × Nat × kS => [(3, .int (nI q.1)), (0, .ref 232), (1, .int (nI s)), (2, .int (nI t))]) (fun q => q.2.2) (fun q => q.1 ≤ t + 1 ∧ mEx σ q.2.2 n b q.2.1 ∧ q.2.1 ≤ b + cnt (fun u => u ≤ t ∧ N u ≠ 0) q.1 ∧ q.2.2 266 = N ∧ ∀ u, u < q.1 → N u ≠ 0 → ∃ u', q.2.2 267 u = nI u' ∧ mIn σ q.2.2 n q.2.1 s u u') (fun q => t + 1 - q.1) ?_ (0, b, va_up (va_up σ 266 N) 267 I) ⟨Nat.zero_le _, mEx_refl h rfl, Nat.le_refl _, rfl, fun u hu => absurd hu (Nat.not_lt_zero u)⟩
      rintro ⟨i, b', τ⟩ ⟨i1, i2, i3, i4, i5⟩ ih
      dsimp only at i1 i2 i3 i4 i5 ih ⊢
      have hc := hc24 i i1
      repeat refine kX_one rfl ?_
      refine kX_if (fun q2 => ?_) (fun q2 => ?_)
      · have q2 := qgt q2 i t
        obtain ⟨u', e1, e2⟩ := i5 t q2 (by rw [n2]; decide)
        repeat refine kX_one rfl ?_
        refine kX_ialdV (v := nI u') rfl rfl (by decide) t rfl (by omega) e1 ?_
        refine kX_ret (i := .ireturn) (len := 1) rfl (Or.inr rfl) rfl (⟨u', b', rfl, i2, by omega, e2.1, e2.2.1, e2.2.2.1⟩)
      · have q2 := qgtF q2 i t
        repeat refine kX_one rfl ?_
        refine kX_baldV (v := N i) rfl rfl (by decide) i rfl (by omega) (by rw [i4]) ?_
        repeat refine kX_one rfl ?_
        refine kX_if (fun q3 => ?_) (fun q3 => ?_)
        · have q3 : N i = 0 := qeq q3
          iterate 2 (refine kX_one rfl ?_)
          have := ih (i + 1, b', τ) ⟨by simp only; omega, i2, Nat.le_trans i3 (Nat.add_le_add_left (cnt_up _ (by simp only; omega)) b), i4, fun u hu hN => i5 u (by
            simp only at hu
            have : u ≠ i := fun e => hN (by rw [e]; exact q3)
            omega) hN⟩ (by simp only; omega)
          rw [← nI_1] at this
          exact this
        · have q3 : N i ≠ 0 := qeqF q3
          have hiL := n3 i q2 q3
          obtain ⟨a1, a2, -, -⟩ := l3 i hiL
          have hin : i < n := by omega
          have hcs : cnt (fun u => u ≤ t ∧ N u ≠ 0) (i + 1) = cnt (fun u => u ≤ t ∧ N u ≠ 0) i + 1 := by
            rw [show cnt (fun u => u ≤ t ∧ N u ≠ 0) (i + 1) = cnt (fun u => u ≤ t ∧ N u ≠ 0) i + @ite _ (i ≤ t ∧ N i ≠ 0) (Classical.propDecidable _) 1 0 from rfl, if_pos ⟨q2, q3⟩]
          have hc2 := hc24 (i + 1) (by omega)
          have hcl := n4 i q2 q3
          have hok := (hV i a1).2
          have hstI : mSt σ n s i := fun u hu => hst u (l4 i hiL u hu)
          repeat refine kX_one rfl ?_
          refine kX_cal (mr_one L xs d σ τ n b b' s i h i2 (by omega) hs hin hstI (fun k x hk3 hk9 hx1 ek ex => ?_) (fun y hy1 ey => ?_)) rfl (Or.inr rfl) rfl rfl rfl (fun r1 ρ q1 => ?_)
          · rcases hok with ⟨k', h3, hk', -, -⟩ | ⟨k', x', y', h3, hk', hx', hy', h4, h5, h6, h7⟩ | ⟨k', x', h3, hk', hx', hy', h4, h6⟩
            · have := nI_inj (ek.symm.trans hk')
              omega
            · have e9 := (hV x' h6).1
              have : x = x' := nI_inj (ex.symm.trans hx')
              exact i5 x (by omega) (hcl.1 x ex hx1)
            · have e9 := (hV x' h6).1
              have : x = x' := nI_inj (ex.symm.trans hx')
              exact i5 x (by omega) (hcl.1 x ex hx1)
          · rcases hok with ⟨k', h3, hk', hF', hS'⟩ | ⟨k', x', y', h3, hk', hx', hy', h4, h5, h6, h7⟩ | ⟨k', x', h3, hk', hx', hy', h4, h6⟩
            · exact absurd (hS'.symm.trans ey).symm (nI_m1 (by omega))
            · have e9 := (hV y' h7).1
              have : y = y' := nI_inj (ey.symm.trans hy')
              exact i5 y (by omega) (hcl.2 y ey hy1)
            · exact absurd (hy'.symm.trans ey).symm (nI_m1 (by omega))
          · obtain ⟨u, b'', rfl, f1, f2, f3, f4, f5⟩ := q1
            refine kX_iastN rfl rfl (by decide) (i) (by first | rfl | decide) (by omega) ?_
            iterate 2 (refine kX_one rfl ?_)
            have hE : mEx ρ (va_up ρ 267 (upd (ρ 267) i (nI u))) n b'' b'' := mEx_refl f1.1 (N := ρ 266) (I := upd (ρ 267) i (nI u)) (by rw [kup_self])
            have hE2 := mEx_trans f1 hE
            have := ih (i + 1, b'', va_up ρ 267 (upd (ρ 267) i (nI u))) ⟨by simp only; omega, mEx_trans i2 hE2, by simp only; omega, by
              show ρ 266 = N
              rw [f4, i4], fun v hv hN => by
              simp only at hv ⊢
              by_cases e : v = i
              · subst e
                exact ⟨u, pk_us, mIn_ex f1.1 f3 hE⟩
              · obtain ⟨v', g1, g2⟩ := i5 v (by omega) hN
                refine ⟨v', ?_, mIn_ex i2.1 g2 hE2⟩
                show upd (ρ 267) i (nI u) v = _
                rw [pk_un e, f5]
                exact g1⟩ (by simp only; omega)
            rw [← nI_1] at this
            exact this
    /- the second loop -/
    have loop2 : ∀ N : Nat → Int32, (∀ u, u ≤ t → N u = 0 ∨ N u = 1) → N t = 1 → (∀ u, u ≤ t → N u ≠ 0 → u ∈ Ls) →
        kX kT L xs (d + 5) 176 40 [(3, .int (w1 (t + 1))), (0, .ref 232), (1, .int (nI s)), (2, .int (nI t))] [] (va_up σ 266 N) (fun r ρ => ∃ u b', r = some (.int (nI u)) ∧ mEx σ ρ n b b' ∧ b' ≤ b + 24 ∧ mv n b' u ∧ tvl (ρ 233) (ρ 234) (ρ 235) u = tin σ s t ∧ tgd (ρ 233) (ρ 234) (ρ 235) u = true) := by
      intro N0 n1 n2 n3
      refine kX_while (fun q : Nat × (Nat → Int32) => [(3, .int (w1 q.1)), (0, .ref 232), (1, .int (nI s)), (2, .int (nI t))]) (fun q => va_up σ 266 q.2) (fun q => q.1 ≤ t + 1 ∧ (∀ u, u ≤ t → q.2 u = 0 ∨ q.2 u = 1) ∧ q.2 t = 1 ∧ (∀ u, u ≤ t → q.2 u ≠ 0 → u ∈ Ls) ∧ ∀ u, q.1 ≤ u → u ≤ t → q.2 u ≠ 0 → (∀ x, σ 234 u = nI x → x < 1000 → q.2 x ≠ 0) ∧ ∀ y, σ 235 u = nI y → y < 1000 → q.2 y ≠ 0) (fun q => q.1) ?_ (t + 1, N0) ⟨Nat.le_refl _, n1, n2, n3, fun u h1 h2 => by simp only at h1; omega⟩
      rintro ⟨q, N⟩ ⟨i1, i2, i3, i4, i5⟩ ih
      dsimp only at i1 i2 i3 i4 i5 ih ⊢
      cases q with
      | zero =>
        iterate 4 (refine kX_one rfl ?_)
        refine kX_to [(3, .int (nI 0)), (0, .ref 232), (1, .int (nI s)), (2, .int (nI t))] (va_up (va_up σ 266 N) 267 (σ 267)) rfl rfl rfl ?_ (loop3 N i2 i3 i4 (fun u hu => i5 u (Nat.zero_le _) hu) (σ 267))
        funext c; unfold  va_up; repeat' split
        all_goals first | rfl | omega | (subst_vars; rfl) | (funext j; unfold upd; repeat' split; all_goals first | rfl | omega | (subst_vars; rfl))
      | succ q =>
        have ew : w1 (q + 1) = nI q := by unfold w1; rw [if_neg (by omega)]; rfl
        rw [ew]
        iterate 2 (refine kX_one rfl ?_)
        repeat refine kX_one rfl ?_
        refine kX_ifF (decide_eq_false (nI_pos (by omega))) ?_
        repeat refine kX_one rfl ?_
        refine kX_baldN rfl rfl (by decide) (q) (by first | rfl | decide) (by omega) ?_
        have back : ∀ (N' : Nat → Int32), (∀ u, u ≤ t → N' u = 0 ∨ N' u = 1) → N' t = 1 → (∀ u, u ≤ t → N' u ≠ 0 → u ∈ Ls) → (∀ u, q ≤ u → u ≤ t → N' u ≠ 0 → (∀ x, σ 234 u = nI x → x < 1000 → N' x ≠ 0) ∧ ∀ y, σ 235 u = nI y → y < 1000 → N' y ≠ 0) → kX kT L xs (d + 5) 176 95 [(3, .int (nI q)), (0, .ref 232), (1, .int (nI s)), (2, .int (nI t))] [] (va_up σ 266 N') (fun r ρ => ∃ u b', r = some (.int (nI u)) ∧ mEx σ ρ n b b' ∧ b' ≤ b + 24 ∧ mv n b' u ∧ tvl (ρ 233) (ρ 234) (ρ 235) u = tin σ s t ∧ tgd (ρ 233) (ρ 234) (ρ 235) u = true) := by
          intro N' m1 m2 m3 m4
          iterate 2 (refine kX_one rfl ?_)
          have := ih (q, N') ⟨by simp only; omega, m1, m2, m3, m4⟩ (by simp only; omega)
          rw [← w1_dec] at this
          exact this
        repeat refine kX_one rfl ?_
        refine kX_if (fun q3 => ?_) (fun q3 => ?_)
        · have q3 : N q = 0 := qeq q3
          exact back N i2 i3 i4 (fun u h1 h2 h3 => i5 u (by
            have : u ≠ q := fun e => h3 (by rw [e]; exact q3)
            omega) h2 h3)
        · have q3 : N q ≠ 0 := qeqF q3
          have hqL := i4 q (by omega) q3
          obtain ⟨a1, a2, a3, a4⟩ := l3 q hqL
          have mono : ∀ (x : Nat), ∀ u, N u ≠ 0 → upd N x 1 u ≠ 0 := fun x u hu => by
            unfold upd
            split
            · decide
            · exact hu
          rcases (hV q a1).2 with ⟨k, h3, hk, hF, hS⟩ | ⟨k, x, y, h3, hk, hx, hy, h4, h5, h6, h7⟩ | ⟨k, x, h3, hk, hx, hy, h4, h6⟩
          · repeat refine kX_one rfl ?_
            refine kX_ialdV (v := -1) rfl rfl (by decide) q rfl (by omega) hF ?_
            repeat refine kX_one rfl ?_
            refine kX_ialdV (v := -1) rfl rfl (by decide) q rfl (by omega) hS ?_
            iterate 1 (refine kX_one rfl ?_)
            refine back N i2 i3 i4 (fun u h1 h2 h3 => ?_)
            by_cases e : u = q
            · subst e
              exact ⟨fun x ex hx => absurd (hF.symm.trans ex).symm (nI_m1 (by omega)), fun y ey hy => absurd (hS.symm.trans ey).symm (nI_m1 (by omega))⟩
            · exact i5 u (by omega) h2 h3
          · repeat refine kX_one rfl ?_
            refine kX_ialdV (v := nI x) rfl rfl (by decide) q rfl (by omega) hx ?_
            repeat refine kX_one rfl ?_
            refine kX_ifF (decide_eq_false (nI_pos (by omega))) ?_
            repeat refine kX_one rfl ?_
            refine kX_ialdV (v := nI x) rfl rfl (by decide) q rfl (by omega) hx ?_
            iterate 1 (refine kX_one rfl ?_)
            refine kX_bastN rfl rfl (by decide) (x) (by first | rfl | decide) (by omega) (Or.inr rfl) ?_
            repeat refine kX_one rfl ?_
            refine kX_ialdV (v := nI y) rfl rfl (by decide) q rfl (by omega) hy ?_
            repeat refine kX_one rfl ?_
            refine kX_ifF (decide_eq_false (nI_pos (by omega))) ?_
            repeat refine kX_one rfl ?_
            refine kX_ialdV (v := nI y) rfl rfl (by decide) q rfl (by omega) hy ?_
            iterate 1 (refine kX_one rfl ?_)
            refine kX_bastN rfl rfl (by decide) (y) (by first | rfl | decide) (by omega) (Or.inr rfl) ?_
            rw [kup_up, kup_up]
            refine back (upd (upd N x 1) y 1) (fun u hu => ?_) ?_ (fun u hu hN => ?_) (fun u h1 h2 h3 => ?_)
            · unfold upd
              split
              · exact Or.inr rfl
              · split
                · exact Or.inr rfl
                · exact i2 u hu
            · rw [pk_un (by omega), pk_un (by omega)]
              exact i3
            · by_cases ey : u = y
              · subst ey
                exact a4 u hy (by omega)
              · rw [pk_un ey] at hN
                by_cases ex : u = x
                · subst ex
                  exact a3 u hx (by omega)
                · rw [pk_un ex] at hN
                  exact i4 u hu hN
            · by_cases e : u = q
              · subst e
                refine ⟨fun z ez hz => ?_, fun z ez hz => ?_⟩
                · have : x = z := nI_inj (hx.symm.trans ez)
                  subst this
                  unfold upd
                  split
                  · decide
                  · rw [if_pos rfl]
                    decide
                · have : y = z := nI_inj (hy.symm.trans ez)
                  subst this
                  rw [pk_us]
                  decide
              · have hu0 : N u ≠ 0 := by
                  rw [pk_un (by omega), pk_un (by omega)] at h3
                  exact h3
                obtain ⟨g1, g2⟩ := i5 u (by omega) h2 hu0
                have up : ∀ z, N z ≠ 0 → upd (upd N x 1) y 1 z ≠ 0 := fun z hz => by
                  unfold upd
                  split
                  · decide
                  · split
                    · decide
                    · exact hz
                exact ⟨fun z ez hz => up z (g1 z ez hz), fun z ez hz => up z (g2 z ez hz)⟩
          · repeat refine kX_one rfl ?_
            refine kX_ialdV (v := nI x) rfl rfl (by decide) q rfl (by omega) hx ?_
            repeat refine kX_one rfl ?_
            refine kX_ifF (decide_eq_false (nI_pos (by omega))) ?_
            repeat refine kX_one rfl ?_
            refine kX_ialdV (v := nI x) rfl rfl (by decide) q rfl (by omega) hx ?_
            iterate 1 (refine kX_one rfl ?_)
            refine kX_bastN rfl rfl (by decide) (x) (by first | rfl | decide) (by omega) (Or.inr rfl) ?_
            repeat refine kX_one rfl ?_
            refine kX_ialdV (v := -1) rfl rfl (by decide) q rfl (by omega) hy ?_
            iterate 1 (refine kX_one rfl ?_)
            rw [kup_up]
            refine back (upd N x 1) (fun u hu => ?_) ?_ (fun u hu hN => ?_) (fun u h1 h2 h3 => ?_)
            · unfold upd
              split
              · exact Or.inr rfl
              · exact i2 u hu
            · rw [pk_un (by omega)]
              exact i3
            · by_cases ex : u = x
              · subst ex
                exact a3 u hx (by omega)
              · rw [pk_un ex] at hN
                exact i4 u hu hN
            · by_cases e : u = q
              · subst e
                refine ⟨fun z ez hz => ?_, fun z ez hz => absurd (hy.symm.trans ez).symm (nI_m1 (by omega))⟩
                have : x = z := nI_inj (hx.symm.trans ez)
                subst this
                rw [pk_us]
                decide
              · have hu0 : N u ≠ 0 := by
                  rw [pk_un (by omega)] at h3
                  exact h3
                obtain ⟨g1, g2⟩ := i5 u (by omega) h2 hu0
                exact ⟨fun z ez hz => mono x z (g1 z ez hz), fun z ez hz => mono x z (g2 z ez hz)⟩
    /- the first loop -/
    iterate 2 (refine kX_one rfl ?_)
    have loop1 := kX_while (T := kT) (L := L) (xs := xs) (d := d + 5) (mi := 176) (pc := 13) (Q := fun r ρ => ∃ u b', r = some (.int (nI u)) ∧ mEx σ ρ n b b' ∧ b' ≤ b + 24 ∧ mv n b' u ∧ tvl (ρ 233) (ρ 234) (ρ 235) u = tin σ s t ∧ tgd (ρ 233) (ρ 234) (ρ 235) u = true)
      (fun q : Nat × (Nat → Int32) => [(3, .int (nI q.1)), (0, .ref 232), (1, .int (nI s)), (2, .int (nI t))]) (fun q => va_up σ 266 q.2) (fun q => q.1 ≤ t + 1 ∧ ∀ u, u < q.1 → q.2 u = 0) (fun q => t + 1 - q.1) ?_ (0, σ 266) ⟨Nat.zero_le _, fun u hu => absurd hu (Nat.not_lt_zero u)⟩
    · rw [kup_self] at loop1
      exact loop1
    · rintro ⟨i, N⟩ ⟨i1, i2⟩ ih
      dsimp only at i1 i2 ih ⊢
      repeat refine kX_one rfl ?_
      refine kX_if (fun q2 => ?_) (fun q2 => ?_)
      · have q2 := qgt q2 i t
        repeat refine kX_one rfl ?_
        refine kX_bastN rfl rfl (by decide) (t) (by first | rfl | decide) (by omega) (Or.inr rfl) ?_
        iterate 2 (refine kX_one rfl ?_)
        rw [kup_up]
        have := loop2 (upd N t 1) (fun u hu => by
          by_cases e : u = t
          · subst e
            exact Or.inr pk_us
          · rw [pk_un e]
            exact Or.inl (i2 u (by omega))) pk_us (fun u hu hN => by
          by_cases e : u = t
          · subst e
            exact l2
          · rw [pk_un e] at hN
            exact absurd (i2 u (by omega)) hN)
        have ew : w1 (t + 1) = nI t := by unfold w1; rw [if_neg (by omega)]; rfl
        rw [ew] at this
        exact this
      · have q2 := qgtF q2 i t
        repeat refine kX_one rfl ?_
        refine kX_bastN rfl rfl (by decide) (i) (by first | rfl | decide) (by omega) (Or.inl rfl) ?_
        iterate 2 (refine kX_one rfl ?_)
        rw [kup_up]
        have := ih (i + 1, upd N i 0) ⟨by simp only; omega, fun u hu => by
          simp only at hu ⊢
          by_cases e : u = i
          · subst e
            exact pk_us
          · rw [pk_un e]
            exact i2 u (by omega)⟩ (by simp only; omega)
        rw [← nI_1] at this
        exact this
  · have q := (bI_ne _).mp (qeqF q)
    repeat refine kX_one rfl ?_
    refine kX_ret (i := .ireturn) (len := 1) rfl (Or.inr rfl) rfl (⟨t, b, rfl, mEx_refl h (N := σ 266) (I := σ 267) (by rw [kup_self, kup_self]), by omega, htv, (tin_gd h t htv q).symm, q⟩)
