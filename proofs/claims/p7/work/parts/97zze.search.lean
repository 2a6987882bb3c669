/-! the class: goThrough, start, search -/
theorem ix28 (i : Nat) : nI i * (Int8.ofInt 28).toInt32 = nI (28 * i) := by
  rw [show (Int8.ofInt 28).toInt32 = nI 28 from rfl, pk_mul, Nat.mul_comm i 28]
set_option maxRecDepth 100000 in
set_option maxHeartbeats 4000000 in
theorem mc_goThrough (L : Nat) (xs : Nat → Int32) (d : Nat) (σ τ : kS) (n R S C N i : Nat) (h : cJ σ n R S C) (hI : sI σ τ n S N) (hi : i < N) : kXM kT L xs (d + 56) 82 [.ref 195, .int (nI i)] τ (fun q ω => q = none ∧ ∃ N', N ≤ N' ∧ sI σ ω n S N') := by
  have hS4 := h.2.2.1.1
  have hT := h.1
  have hN := hI.2.2.2.1.1
  obtain ⟨kn, kn1, kn2⟩ := h.2.2.2.2.1
  have loop : ∀ q : Nat × Int32 × kS × Nat, (q.1 ≤ S ∧ sI σ q.2.2.1 n S q.2.2.2 ∧ N ≤ q.2.2.2) → kX kT L xs (d + 56) 82 10 [(4, .int (nI q.1)), (3, .int q.2.1), (2, .int (nI (28 * i))), (0, .ref 195), (1, .int (nI i))] [] q.2.2.1 (fun q ω => q = none ∧ ∃ N', N ≤ N' ∧ sI σ ω n S N') := by
    refine kX_while (fun q : Nat × Int32 × kS × Nat => [(4, .int (nI q.1)), (3, .int q.2.1), (2, .int (nI (28 * i))), (0, .ref 195), (1, .int (nI i))]) (fun q => q.2.2.1) _ (fun q => S - q.1) ?_
    rintro ⟨s, fl, ω, N1⟩ ⟨j1, j2, j3⟩ ih
    dsimp only at j1 j2 j3 ih ⊢
    have hB := cB_sI h j2
    have hTo := cT_sF j2.1 hT
    have hN1 := j2.2.2.2.1.1
    have hVa := j2.2.2.2.1.2.2.1 i (by omega)
    have hkn : ω 13 10 = nI kn := by rw [sF_13 j2.1 13 (by decide) (by decide)]; exact kn2
    iterate 4 (refine kX_one rfl ?_)
    refine kX_top (hB.2.1.2.1) ?_
    repeat refine kX_one rfl ?_
    refine kX_if (fun q => ?_) (fun q => ?_)
    · refine kX_ret (i := .return_) (len := 1) rfl (Or.inr rfl) rfl (⟨rfl, N1, j3, j2⟩)
    · have q := qgeF q s S
      have hs4 : s < 4 := by omega
      repeat refine kX_one rfl ?_
      refine kX_if (fun q2 => ?_) (fun q2 => ?_)
      · refine kX_ret (i := .return_) (len := 1) rfl (Or.inr rfl) rfl (⟨rfl, N1, j3, j2⟩)
      · have k185 : ∀ fl' ρ N2, sI σ ρ n S N2 → N ≤ N2 → ∀ lv, nk lv = true → ([(4, .int (nI s)), (3, .int fl'), (2, .int (nI (28 * i))), (0, .ref 195), (1, .int (nI i))] : jL).map (fun q => jl lv q.1) = ([(4, .int (nI s)), (3, .int fl'), (2, .int (nI (28 * i))), (0, .ref 195), (1, Value.int (nI i))] : jL).map (fun q => some q.2) → kX kT L xs (d + 56) 82 185 lv [] ρ (fun q ω => q = none ∧ ∃ N', N ≤ N' ∧ sI σ ω n S N') := by
          intro fl' ρ N2 r1 r2 lv hk hlv
          refine kX_lv _ hk rfl hlv ?_
          iterate 2 (refine kX_one rfl ?_)
          have := ih (s + 1, fl', ρ, N2) ⟨q, r1, r2⟩ (by simp only; omega)
          dsimp only at this
          rw [← nI_1] at this
          exact kX_lv _ rfl rfl rfl this
        iterate 7 (refine kX_one rfl ?_)
        refine kX_cal (mc_due L xs (d + 53) ω n R S 197 16800 (28 * i) s (fun _ => 0) hB.1 hS4 hB.2.1.2.2 q rfl (by decide) (by omega)) rfl (Or.inr rfl) rfl rfl rfl (fun r1 σ1 q1 => ?_)
        obtain ⟨hq, rfl⟩ := q1
        rcases hq with rfl | ⟨r, k, hr4, hk6, rfl, hE⟩
        · iterate 4 (refine kX_one rfl ?_)
          exact k185 fl ω N1 j2 j3 _ rfl rfl
        · have b4 := ev_b r k 4 hr4 hk6 (by decide)
          have hEs : cE σ n (28 + 35 * r + 5 * k) := cE_up (Nat.le_refl _) (fun j hj => (sF_13 j2.1 _ (by omega) (by omega)).symm) hE
          iterate 11 (refine kX_one rfl ?_)
          refine kX_acpyN (n0 := 16800) (n1 := 28) (f0 := fun _ => 0) (g0 := fun _ => 0) rfl rfl rfl rfl rfl rfl (28 * i) 0 28 rfl rfl rfl (by omega) (by decide) (by decide) (by decide) (Nat.zero_le 8) ?_
          iterate 5 (refine kX_one rfl ?_)
          refine kX_top (y := nI (7 * s)) (ix7s s) ?_
          iterate 1 (refine kX_one rfl ?_)
          refine kX_ialdN rfl rfl (by decide) (7 * s) (by first | rfl | decide) (by omega) ?_
          iterate 2 (refine kX_one rfl ?_)
          refine kX_iastN rfl rfl (by decide) (7 * s) (by first | rfl | decide) (by omega) ?_
          have hV1 : cV ω n S (upd (va_cpy (ω 197) (ω 202) (28 * i) 0 28) (7 * s) ((va_cpy (ω 197) (ω 202) (28 * i) 0 28) (7 * s) + Int32.ofInt 1)) 0 := fun s' k' hs' hk' => by
            rw [pk_un (by omega), va_cpy, if_pos (by omega)]
            have := hVa s' k' hs' hk'
            rw [show 28 * i + (0 + 7 * s' + 1 + k' - 0) = 28 * i + 7 * s' + 1 + k' by omega]
            exact this
          refine kX_st (va_up ω 202 (upd (va_cpy (ω 197) (ω 202) (28 * i) 0 28) (7 * s) ((va_cpy (ω 197) (ω 202) (28 * i) 0 28) (7 * s) + Int32.ofInt 1))) ?_ ?_
          · funext c; unfold  va_up; repeat' split
            all_goals first | rfl | omega | (subst_vars; rfl) | (funext j; unfold upd; repeat' split; all_goals first | rfl | omega | (subst_vars; rfl))
          generalize upd (va_cpy (ω 197) (ω 202) (28 * i) 0 28) (7 * s) ((va_cpy (ω 197) (ω 202) (28 * i) 0 28) (7 * s) + Int32.ofInt 1) = D at *
          have hI1 : sI σ (va_up ω 202 D) n S N1 := sI_eq j2 (fun c _ a _ _ _ _ => up_ne a) rfl j2.2.2.2.2.1
          have hV2 : cV (va_up ω 202 D) n S ((va_up ω 202 D) 202) 0 := hV1
          have hVa2 : cV (va_up ω 202 D) n S ((va_up ω 202 D) 197) (28 * i) := hVa
          have hkn2 : (va_up ω 202 D) 13 10 = nI kn := hkn
          generalize va_up ω 202 D = ρ at *
          have hB1 := cB_sI h hI1
          have hT1 := cT_sF hI1.1 hT
          iterate 1 (refine kX_one rfl ?_)
          refine kX_getN rfl rfl (kT_ev hr4 hk6) rfl ?_
          repeat refine kX_one rfl ?_
          refine kX_if (fun q3 => ?_) (fun q3 => ?_)
          · iterate 6 (refine kX_one rfl ?_)
            refine kX_cal (mc_stHas L xs (d + 53) ρ _ N1 hI1.2.2.2.1.1 hI1.2.2.2.1.2.1) rfl (Or.inr rfl) rfl rfl rfl (fun r1 σ1 q1 => ?_)
            obtain ⟨hq, rfl⟩ := q1
            rcases hq with rfl | rfl
            · have k174 : ∀ π, sI σ π n S N1 → cV π n S (π 202) 0 → kX kT L xs (d + 56) 82 174 [(4, .int (nI s)), (3, .int fl), (2, .int (nI (28 * i))), (0, .ref 195), (1, .int (nI i))] [] π (fun q ω => q = none ∧ ∃ N', N ≤ N' ∧ sI σ ω n S N') := by
                intro π p1 p2
                iterate 5 (refine kX_one rfl ?_)
                refine kX_cal (mc_reach L xs (d + 1) σ π n R S C N1 213 1352 (nI i) (nI s) h p1 p2 (fun _ => ⟨⟨i, by omega, rfl⟩, s, q, rfl⟩) (Or.inr ⟨rfl, rfl⟩)) rfl (Or.inr rfl) rfl rfl rfl (fun r1 κ q1 => ?_)
                obtain ⟨rfl, -, N2, n2, hIk⟩ := q1
                exact k185 fl κ N2 hIk (by omega) _ rfl rfl
              iterate 3 (refine kX_one rfl ?_)
              repeat refine kX_one rfl ?_
              refine kX_if (fun q4 => ?_) (fun q4 => ?_)
              · exact kX_lv _ rfl rfl rfl (k174 ρ hI1 hV2)
              · iterate 7 (refine kX_one rfl ?_)
                refine kX_cal (mc_fill L xs (d + 1) ρ 213 1352 n R S 202 28 0 kn (fun _ => 0) (Or.inr (Or.inr ⟨rfl, rfl⟩)) hT1 hB1.1 hS4 hB1.2.1.2.1 hB1.2.1.2.2 kn1 hkn2 hI1.2.2.1 rfl (by decide) (by decide) (by decide) hV2) rfl (Or.inr rfl) rfl rfl rfl (fun r1 π q1 => ?_)
                obtain ⟨rfl, hF, u, hW⟩ := q1
                have hIp := sI_K hI1 (Or.inr ⟨rfl, rfl⟩) hF (nW_w hW)
                refine kX_lv _ rfl rfl rfl (k174 π hIp ?_)
                rw [hF.1 202 (by decide) (by decide) (by decide) (by decide) (by decide) (by decide)]
                exact cV_eq (fun z _ => by rw [hF.1 8 (by decide) (by decide) (by decide) (by decide) (by decide) (by decide)]) hV2
            · iterate 1 (refine kX_one rfl ?_)
              exact k185 fl ρ N1 hI1 j3 _ rfl rfl
          · have k121 : ∀ fl' π, sI σ π n S N1 → cV π n S (π 202) 0 → kX kT L xs (d + 56) 82 121 [(5, .ref (28 + 35 * r + 5 * k)), (4, .int (nI s)), (3, .int fl'), (2, .int (nI (28 * i))), (0, .ref 195), (1, .int (nI i))] [] π (fun q ω => q = none ∧ ∃ N', N ≤ N' ∧ sI σ ω n S N') := by
              intro fl' π p1 p2
              iterate 4 (refine kX_one rfl ?_)
              refine kX_cal (mc_tryWays L xs d σ π n R S C N1 i s r k h p1 p2 (by omega) q hr4 hk6 hEs) rfl (Or.inr rfl) rfl rfl rfl (fun r1 κ q1 => ?_)
              obtain ⟨rfl, N2, n2, hIk⟩ := q1
              iterate 1 (refine kX_one rfl ?_)
              exact k185 fl' κ N2 hIk (by omega) _ rfl rfl
            repeat refine kX_one rfl ?_
            refine kX_if (fun q4 => ?_) (fun q4 => ?_)
            · exact kX_lv _ rfl rfl rfl (k121 fl ρ hI1 hV2)
            · iterate 8 (refine kX_one rfl ?_)
              refine kX_cal (mc_fill L xs (d + 1) ρ 204 776 n R S 197 16800 (28 * i) kn (fun _ => 0) (Or.inr (Or.inl ⟨rfl, rfl⟩)) hT1 hB1.1 hS4 hB1.2.1.2.1 hB1.2.1.2.2 kn1 hkn2 hI1.2.1 rfl (by decide) (by decide) (by omega) hVa2) rfl (Or.inr rfl) rfl rfl rfl (fun r1 π q1 => ?_)
              obtain ⟨rfl, hF, u, hW⟩ := q1
              have hIp := sI_K hI1 (Or.inl ⟨rfl, rfl⟩) hF (nW_w hW)
              iterate 2 (refine kX_one rfl ?_)
              refine kX_lv _ rfl rfl rfl (k121 1 π hIp ?_)
              rw [hF.1 202 (by decide) (by decide) (by decide) (by decide) (by decide) (by decide)]
              exact cV_eq (fun z _ => by rw [hF.1 8 (by decide) (by decide) (by decide) (by decide) (by decide) (by decide)]) hV2
  unfold kXM
  iterate 3 (refine kX_one rfl ?_)
  refine kX_top (y := nI (28 * i)) (ix28 i) ?_
  iterate 5 (refine kX_one rfl ?_)
  exact kX_lv _ rfl rfl rfl (loop (0, 0, τ, N) ⟨Nat.zero_le _, hI, Nat.le_refl _⟩)
