/-! alike: event, the reference's half -/
set_option maxRecDepth 100000 in
set_option maxHeartbeats 4000000 in
theorem mg_event (L : Nat) (xs : Nat → Int32) (d : Nat) (σ : kS) (n b R S C : Nat) (kl : List Nat) (x y z : Int32) (hy : y = 0 ∨ y = 1) (Q : Option Value → kS → Prop) (h : mI σ n b R S C kl) (hU : ¬ (isN x R ∧ isN z n) → Q (some (.int (-1))) σ) (hS : ∀ r t, r < R → x = nI r → t < n → z = nI t → σ 250 r ≠ 0 → Q (some (.int (-3))) σ) (hF : ∀ r t, r < R → x = nI r → t < n → z = nI t → σ 250 r = 0 → σ 247 r = nI 6 → Q (some (.int (-4))) σ) (hO : ∀ r t ev W ST m A, r < R → x = nI r → t < n → z = nI t → σ 250 r = 0 → σ 247 r = nI ev → ev < 6 → ¬ (∀ u ∈ tvs (σ 233) (σ 234) (σ 235) t, okU σ r ev y u) → mI (evS σ W ST m A) n b R S C kl → Q (some (.int (-5))) (evS σ W ST m A))
    (hN : ∀ r t ev W ST m A, r < R → x = nI r → t < n → z = nI t → σ 250 r = 0 → σ 247 r = nI ev → ev < 6 → (∀ u ∈ tvs (σ 233) (σ 234) (σ 235) t, okU σ r ev y u) → mI (evN (evS σ W ST m A) r ev (nI t) y) n b R S C kl → Q (some (.int (nI (ev + 1)))) (evN (evS σ W ST m A) r ev (nI t) y)) : kXM kT L xs (d + 3) 166 [.ref 232, .int x, .int y, .int z] σ Q := by
  have h1 := h.1
  have h2 := h.2.1
  have h3 := h.2.2.1
  have hn := h1.1
  have hR4 := h2.1
  unfold kXM
  repeat refine kX_one rfl ?_
  refine kX_cal (mr_isRole L xs (d + 1) σ R x h2.2.1 (by omega)) rfl (Or.inr rfl) rfl rfl rfl (fun r1 σ1 q1 => ?_)
  obtain ⟨rfl, rfl⟩ := q1
  repeat refine kX_one rfl ?_
  refine kX_if (fun q => ?_) (fun q => ?_)
  · have q := qeq q
    repeat refine kX_one rfl ?_
    refine kX_ret (i := .ireturn) (len := 1) rfl (Or.inr rfl) rfl (hU (fun e => isB_ne.mpr e.1 q))
  · obtain ⟨r, hr, rfl⟩ := isB_ne.mp (qeqF q)
    repeat refine kX_one rfl ?_
    refine kX_cal (mr_isTerm L xs (d + 1) σ n z h1.2.2.2.1 (by omega)) rfl (Or.inr rfl) rfl rfl rfl (fun r1 σ1 q1 => ?_)
    obtain ⟨rfl, rfl⟩ := q1
    repeat refine kX_one rfl ?_
    refine kX_if (fun q => ?_) (fun q => ?_)
    · obtain ⟨t, ht, rfl⟩ := isB_ne.mp (qne q)
      obtain ⟨-, ev, he6, hev⟩ := h2.2.2.1 r hr
      have hfe : fN (σ 247 r) = ev := by rw [hev]; exact fN_nI (by omega)
      repeat refine kX_one rfl ?_
      refine kX_baldN rfl rfl (by decide) (r) (by first | rfl | decide) (by omega) ?_
      repeat refine kX_one rfl ?_
      refine kX_if (fun q => ?_) (fun q => ?_)
      · have hcl : σ 250 r = 0 := qeq q
        repeat refine kX_one rfl ?_
        refine kX_ialdV rfl rfl (by decide) (r) (by first | rfl | decide) (by omega) (hev) ?_
        repeat refine kX_one rfl ?_
        refine kX_if (fun q => ?_) (fun q => ?_)
        · have hev6 : ev ≠ 6 := fun e => qne q (by rw [e]; rfl)
          repeat refine kX_one rfl ?_
          refine kX_cal (mr_findVariables L xs (d + 1) σ n b t h1 ht) rfl (Or.inr rfl) rfl rfl rfl (fun r1 σ1 q1 => ?_)
          obtain ⟨rfl, W, ST, rfl, g1, g2⟩ := q1
          generalize hacc : ddl [] (tvs (σ 233) (σ 234) (σ 235) t) = acc at g1 g2
          have hmem : ∀ u, u ∈ acc ↔ u ∈ tvs (σ 233) (σ 234) (σ 235) t := fun u => by
            rw [← hacc, ddl_mem]
            exact ⟨fun q => q.elim (fun q => by cases q) id, Or.inr⟩
          have hlt : ∀ u ∈ acc, u < n := fun u q => by
            have := (tvs_mem (mTb_num h1) t ht u ((hmem u).mp q)).2.2
            omega
          have loop2 : ∀ (A : Nat → Int32), (∀ i (hi : i < acc.length), A i = nI acc[i]) → ∀ q : Nat × (Nat → Int32) × (Nat → Int32) × Int32, (q.1 ≤ acc.length ∧ ∀ i (hi : i < acc.length), i < q.1 → okU σ r ev y acc[i]) → kX kT L xs (d + 3) 166 88 [(5, .int (nI q.1)), (4, .int (nI acc.length)), (0, .ref 232), (1, .int (nI r)), (2, .int y), (3, .int (nI t))] [] (evS σ q.2.1 q.2.2.1 q.2.2.2 A) Q := by
            intro A hA
            refine kX_while (fun q : Nat × (Nat → Int32) × (Nat → Int32) × Int32 => [(5, .int (nI q.1)), (4, .int (nI acc.length)), (0, .ref 232), (1, .int (nI r)), (2, .int y), (3, .int (nI t))]) (fun q => evS σ q.2.1 q.2.2.1 q.2.2.2 A) _ (fun q => acc.length - q.1) ?_
            rintro ⟨k, W', ST', m'⟩ ⟨i1, i2⟩ ih
            dsimp only at i1 i2 ih ⊢
            have hI := mI_ev h W' ST' m' A
            have bad : ∀ u, u ∈ tvs (σ 233) (σ 234) (σ 235) t → ¬ okU σ r ev y u → ∀ W' ST' m', Q (some (.int (-5))) (evS σ W' ST' m' A) := fun u hu hno W' ST' m' => hO r t ev W' ST' m' A hr rfl ht rfl hcl hev (by omega) (fun e => hno (e u hu)) (mI_ev h W' ST' m' A)
            iterate 2 (refine kX_one rfl ?_)
            repeat refine kX_one rfl ?_
            refine kX_if (fun q => ?_) (fun q => ?_)
            · have q := qge q k acc.length
              repeat refine kX_one rfl ?_
              refine kX_ialdV rfl rfl (by decide) (r) (by first | rfl | decide) (by omega) (hev) ?_
              repeat refine kX_one rfl ?_
              refine kX_iastN rfl rfl (by decide) (6 * r + ev) (ix6 r ev) (by omega) ?_
              repeat refine kX_one rfl ?_
              refine kX_ialdV rfl rfl (by decide) (r) (by first | rfl | decide) (by omega) (hev) ?_
              repeat refine kX_one rfl ?_
              refine kX_bastN rfl rfl (by decide) (6 * r + ev) (ix6 r ev) (by omega) (hy) ?_
              repeat refine kX_one rfl ?_
              refine kX_ialdV rfl rfl (by decide) (r) (by first | rfl | decide) (by omega) (hev) ?_
              repeat refine kX_one rfl ?_
              refine kX_iastN rfl rfl (by decide) (r) (by first | rfl | decide) (by omega) ?_
              repeat refine kX_one rfl ?_
              refine kX_ialdN rfl rfl (by decide) (r) (by first | rfl | decide) (by omega) ?_
              refine kX_top (y := nI (ev + 1)) (pk_us.trans (nI_1 ev)) ?_
              refine kX_st (evN (evS σ W' ST' m' A) r ev (nI t) y) ?_ ?_
              · rw [evN, nI_succ ev]
                rfl
              have hall : ∀ u ∈ tvs (σ 233) (σ 234) (σ 235) t, okU σ r ev y u := fun u hu => by
                obtain ⟨i, hi, rfl⟩ := List.mem_iff_getElem.mp ((hmem u).mpr hu)
                exact i2 i hi (by omega)
              have hF' := roF_ev (evS σ W' ST' m' A) r ev (nI t) y
              refine kX_ret (i := .ireturn) (len := 1) rfl (Or.inr rfl) rfl (hN r t ev W' ST' m' A hr rfl ht rfl hcl hev (by omega) hall (mI_ro hI (Nat.le_refl R) hF' (fun s hs => ?_) (fun t ht => ⟨rfl, rfl⟩) h1 (mRo_ev hI.2.1 hr hev (by omega) ht (fun u hu => ?_)) (fun _ _ => Nat.le_refl _)))
              · obtain ⟨r', r1, r2, r3, -⟩ := h3.2.2 s hs
                rw [show evS σ W' ST' m' A 255 s = nI r' from r2, fN_nI (by omega)]
                have hne : r' ≠ r := fun e => r3 (by rw [e]; exact hcl)
                exact ⟨rfl, pk_un hne, rfl, fun k hk => ⟨rfl, rfl, pk_un (by omega), pk_un (by omega)⟩⟩
              · exact hall u hu
            · have q := qgeF q k acc.length
              have hku := hlt acc[k] (List.getElem_mem q)
              generalize hu : acc[k] = u at hku
              have back : ∀ (W' ST' : Nat → Int32) (m' : Int32) (w : Value), okU σ r ev y u → kX kT L xs (d + 3) 166 153 [(6, w), (5, .int (nI k)), (4, .int (nI acc.length)), (0, .ref 232), (1, .int (nI r)), (2, .int y), (3, .int (nI t))] [] (evS σ W' ST' m' A) Q := by
                intro W' ST' m' w hok
                iterate 2 (refine kX_one rfl ?_)
                have := ih (k + 1, W', ST', m') ⟨q, fun i hi hik => by
                  by_cases e : i = k
                  · subst e
                    rw [hu]
                    exact hok
                  · exact i2 i hi (by simp only at hik; omega)⟩ (by simp only; omega)
                dsimp only at this
                rw [← nI_1] at this
                exact kX_lv _ rfl rfl rfl this
              repeat refine kX_one rfl ?_
              refine kX_ialdV rfl rfl (by decide) k rfl (by omega) (show A k = nI u by rw [hA k q, hu]) ?_
              repeat refine kX_one rfl ?_
              refine kX_ialdN rfl rfl (by decide) (u) (by first | rfl | decide) (by omega) ?_
              have hut0 : u ∈ tvs (σ 233) (σ 234) (σ 235) t := (hmem u).mp (by rw [← hu]; exact List.getElem_mem _)
              repeat refine kX_one rfl ?_
              refine kX_if (fun q => ?_) (fun q => ?_)
              · have qr : σ 239 u ≠ nI r := qne q
                repeat refine kX_one rfl ?_
                refine kX_ret (i := .ireturn) (len := 1) rfl (Or.inr rfl) rfl (bad u hut0 (fun e => qr e.1) _ _ _)
              · have qr : σ 239 u = nI r := qneF q
                have hut : u ∈ tvs (σ 233) (σ 234) (σ 235) t := (hmem u).mp (by rw [← hu]; exact List.getElem_mem _)
                obtain ⟨r', p, a1, a2, a3⟩ := h2.2.2.2.2.1 u hku (tvs_mem (mTb_num h1) t ht u hut).2.1
                obtain ⟨t', so', as', b1, b2, b3, b4, b5, -⟩ := h2.2.2.2.1 r' p a1 a2
                obtain rfl : u = t' := nI_inj (a3.symm.trans b2)
                obtain rfl : r' = r := nI_inj (b4.symm.trans qr)
                obtain ⟨⟨v, hv6, hv⟩, -⟩ := h2.2.2.1 r' hr
                have hp6 : p < 6 := by rw [hv, fN_nI (by omega)] at a2; omega
                have hfp : fN (σ 241 u) = p := by rw [b5]; exact fN_nI (by omega)
                repeat refine kX_one rfl ?_
                refine kX_if (fun q => ?_) (fun q => ?_)
                · refine kX_lv _ rfl rfl rfl (back W' ST' m' (.int (nI u)) ⟨qr, fun z => absurd (qeq q) z⟩)
                · repeat refine kX_one rfl ?_
                  refine kX_ialdV rfl rfl (by decide) (u) (by first | rfl | decide) (by omega) (b5) ?_
                  repeat refine kX_one rfl ?_
                  refine kX_ialdN rfl rfl (by decide) (6 * r' + p) (ix6 r' p) (by omega) ?_
                  repeat refine kX_one rfl ?_
                  refine kX_if (fun q2 => ?_) (fun q2 => ?_)
                  · refine kX_lv _ rfl rfl rfl (back W' ST' m' (.int (nI u)) ⟨qr, fun _ z => absurd (by rw [hfp] at z; exact z) (qne q2)⟩)
                  · repeat refine kX_one rfl ?_
                    refine kX_cal (mr_isReceived L xs d (evS σ W' ST' m' A) n b R r' u h1 hI.2.1 hr hku) rfl (Or.inr rfl) rfl rfl rfl (fun r1 σ1 q1 => ?_)
                    obtain ⟨rfl, W2, ST2, m2, rfl⟩ := q1
                    have e2 : fvS (evS σ W' ST' m' A) W2 ST2 m2 = evS σ W2 ST2 m2 A := by
                      funext c; unfold evS fvS va_up; repeat' split
                      all_goals first | rfl | omega | (subst_vars; rfl) | (funext j; unfold upd; repeat' split; all_goals first | rfl | omega | (subst_vars; rfl))
                    rw [e2]
                    repeat refine kX_one rfl ?_
                    refine kX_if (fun q3 => ?_) (fun q3 => ?_)
                    · have q3 : rcv σ r' (fN (σ 247 r')) u := isB_ne.mp (qne q3)
                      rw [hfe] at q3
                      refine kX_lv _ rfl rfl rfl (back W2 ST2 m2 (.int (nI u)) ⟨qr, fun _ _ => q3⟩)
                    · have q3 : ¬ rcv σ r' (fN (σ 247 r')) u := fun e => isB_ne.mpr e (qneF q3)
                      rw [hfe] at q3
                      have hy0 : y ≠ 0 := qeqF q
                      have h22 : σ 246 (6 * r' + fN (σ 241 u)) = nI 2 := by rw [hfp]; exact qneF q2
                      repeat refine kX_one rfl ?_
                      refine kX_ret (i := .ireturn) (len := 1) rfl (Or.inr rfl) rfl (bad u hut0 (fun e => q3 (e.2 hy0 h22)) _ _ _)
          have loop1 : ∀ q : Nat × (Nat → Int32), (q.1 ≤ acc.length ∧ ∀ i (hi : i < acc.length), i < q.1 → q.2 i = nI acc[i]) → kX kT L xs (d + 3) 166 58 [(5, .int (nI q.1)), (4, .int (nI acc.length)), (0, .ref 232), (1, .int (nI r)), (2, .int y), (3, .int (nI t))] [] (evS σ W ST (nI acc.length) q.2) Q := by
            refine kX_while (fun q : Nat × (Nat → Int32) => [(5, .int (nI q.1)), (4, .int (nI acc.length)), (0, .ref 232), (1, .int (nI r)), (2, .int y), (3, .int (nI t))]) (fun q => evS σ W ST (nI acc.length) q.2) _ (fun q => acc.length - q.1) ?_
            rintro ⟨k, A⟩ ⟨i1, i2⟩ ih
            dsimp only at i1 i2 ih ⊢
            iterate 2 (refine kX_one rfl ?_)
            repeat refine kX_one rfl ?_
            refine kX_if (fun q => ?_) (fun q => ?_)
            · have q := qge q k acc.length
              iterate 2 (refine kX_one rfl ?_)
              exact kX_lv _ rfl rfl rfl (loop2 A (fun i hi => i2 i hi (by omega)) (0, W, ST, nI acc.length) ⟨Nat.zero_le _, fun i hi hz => absurd hz (Nat.not_lt_zero i)⟩)
            · have q := qgeF q k acc.length
              repeat refine kX_one rfl ?_
              refine kX_ialdV rfl rfl (by decide) k rfl (by omega) (show ST k = nI acc[k] from g1 k q) ?_
              refine kX_iastN rfl rfl (by decide) (k) (by first | rfl | decide) (by omega) ?_
              iterate 2 (refine kX_one rfl ?_)
              have := ih (k + 1, upd A k (nI acc[k])) ⟨q, fun i hi hik => by
                by_cases e : i = k
                · subst e
                  exact pk_us
                · simp only at hik ⊢
                  rw [pk_un e]
                  exact i2 i hi (by omega)⟩ (by simp only; omega)
              dsimp only at this
              rw [← nI_1] at this
              refine kX_to _ _ rfl rfl rfl ?_ this
              funext c; unfold evS fvS va_up; repeat' split
              all_goals first | rfl | omega | (subst_vars; rfl) | (funext j; unfold upd; repeat' split; all_goals first | rfl | omega | (subst_vars; rfl))
          iterate 5 (refine kX_one rfl ?_)
          refine kX_to _ _ rfl rfl rfl ?_ (loop1 (0, σ 253) ⟨Nat.zero_le _, fun i hi hz => absurd hz (Nat.not_lt_zero i)⟩)
          funext c; unfold evS fvS va_up; repeat' split
          all_goals first | rfl | omega | (subst_vars; rfl) | (funext j; unfold upd; repeat' split; all_goals first | rfl | omega | (subst_vars; rfl))
        · have q : ev = 6 := nI_inj (qneF q)
          repeat refine kX_one rfl ?_
          refine kX_ret (i := .ireturn) (len := 1) rfl (Or.inr rfl) rfl (hF r t hr rfl ht rfl hcl (by rw [hev, q]))
      · have q := qeqF q
        repeat refine kX_one rfl ?_
        refine kX_ret (i := .ireturn) (len := 1) rfl (Or.inr rfl) rfl (hS r t hr rfl ht rfl q)
    · have q := qneF q
      repeat refine kX_one rfl ?_
      refine kX_ret (i := .ireturn) (len := 1) rfl (Or.inr rfl) rfl (hU (fun e => isB_ne.mpr e.2 q))
