/-! alike: goesOn -/
set_option maxRecDepth 100000 in
set_option maxHeartbeats 4000000 in
theorem mY_go_loop (L : Nat) (xs : Nat → Int32) (d : Nat) (σ : kS) (n b R S C i : Nat) (kl : List Nat) (a : Nat → Int32) (X : sX) (hT : mTb σ n b) (hB : mBs σ n R S C kl) (ha : aOk σ n R S a) (hi6 : i < 600) :
    ∀ q : Nat × kS × sX, (q.1 ≤ S ∧ q.2.2.2.2.2 = 0 ∧ (i < q.2.2.1.length ∧ (xq q.2.2.1 i).1 = a) ∧ sGo σ kl n S C i a (S - q.1) q.1 q.2.2 = X ∧ mY σ q.2.1 n R S q.2.2 ∧ aSt q.2.1 S a ∧ rwY q.2.1 n (trSt (stI σ a) kl S)) → kX kT L xs (d + 10) 218 11 [(2, .int (nI q.1)), (0, .ref 232), (1, .int (nI i))] [] q.2.1 (fun r σ' => mY σ σ' n R S X ∧ rY C X r) := by
  have hR := hB.1
  have hS4 := hB.2.1.1
  have hR4 := hR.1
  have hn := hT.1
  have hC6 : C ≤ 6 := hB.2.2.2.1
  refine kX_while (fun q : Nat × kS × sX => [(2, .int (nI q.1)), (0, .ref 232), (1, .int (nI i))]) (fun q => q.2.1) _ (fun q => S - q.1) ?_
  rintro ⟨s, τ, x⟩ ⟨i1, i2, ⟨i3, i3'⟩, i4, i5, i6, i7⟩ ih
  dsimp only at i1 i2 i3 i3' i4 i5 i6 i7 ih ⊢
  have hF := i5.1
  have hB2 := mBs_sf hT hF hB
  iterate 3 (refine kX_one rfl ?_)
  refine kX_top (hB2.2.1.2.1) ?_
  repeat refine kX_one rfl ?_
  refine kX_if (fun q => ?_) (fun q => ?_)
  · have q := qge q s S
    rw [show S - s = 0 by omega] at i4
    have i4 : x = X := i4
    subst i4
    repeat refine kX_one rfl ?_
    refine kX_ret (i := .ireturn) (len := 1) rfl (Or.inr rfl) rfl (⟨i5, Or.inl ⟨i2, rfl⟩⟩)
  · have q := qgeF q s S
    obtain ⟨m', hm'⟩ : ∃ m', S - s = m' + 1 := ⟨S - s - 1, by omega⟩
    rw [hm', sGo, cit_T i2] at i4
    have hpre := sSe_pre (σ := σ) (kl := kl) (n := n) (S := S) (C := C) (i := i) (s := s) (a := a) i3
    have k90 : ∀ (y v : Int32) τ2, mY σ τ2 n R S (sSe σ kl n S C i s a x) → rY C (sSe σ kl n S C i s a x) (some (.int v)) → (v = -6 → aSt τ2 S a ∧ rwY τ2 n (trSt (stI σ a) kl S)) → kX kT L xs (d + 10) 218 90 [(4, .int v), (3, .int y), (2, .int (nI s)), (0, .ref 232), (1, .int (nI i))] [] τ2 (fun r σ' => mY σ σ' n R S X ∧ rY C X r) := by
      intro y v τ2 f1 f2 f3
      have hne := rY_ne hC6 f2
      iterate 2 (refine kX_one rfl ?_)
      repeat refine kX_one rfl ?_
      refine kX_if (fun q2 => ?_) (fun q2 => ?_)
      · have q2 : v = -6 := qeq q2
        obtain ⟨g1, g2⟩ := f3 q2
        iterate 2 (refine kX_one rfl ?_)
        have := ih (s + 1, τ2, sSe σ kl n S C i s a x) ⟨q, hne.mpr (by rw [q2]), ⟨hpre.1, by simp only; rw [hpre.2]; exact i3'⟩, by simp only; rw [show S - (s + 1) = m' by omega]; exact i4, f1, g1, g2⟩ (by simp only; omega)
        dsimp only at this
        rw [← nI_1] at this
        exact kX_lv _ rfl rfl rfl this
      · have q2 : v ≠ -6 := qeqF q2
        have hnz : (sSe σ kl n S C i s a x).2.2.2 ≠ 0 := fun z => q2 (Value.int.inj (Option.some.inj (hne.mp z)))
        rw [sGo_n hnz] at i4
        rw [← i4]
        repeat refine kX_one rfl ?_
        refine kX_ret (i := .ireturn) (len := 1) rfl (Or.inr rfl) rfl (⟨f1, f2⟩)
    obtain ⟨r, dn, a1, a2, a3, a4, -⟩ := ha.2.1 s q
    have a3 : a (7 * s) = nI dn := a3
    have he6 : fN (σ 247 r) ≤ 6 := by
      obtain ⟨-, e, e1, e2⟩ := hR.2.2.1 r a1
      rw [e2, fN_nI (by omega)]
      exact e1
    have hev : τ 247 = σ 247 := hF.1 _ (by decide) (by decide)
    have hsr : τ 255 s = nI r := by rw [hF.1 255 (by decide) (by decide)]; exact a2
    have hds : τ 264 s = nI dn := (i6.1 s q).trans a3
    have hfr : fN (σ 255 s) = r := by rw [a2]; exact fN_nI (by omega)
    have hfd : fN (a (7 * s)) = dn := by rw [a3]; exact fN_nI (by omega)
    iterate 2 (refine kX_one rfl ?_)
    refine kX_cal (mr_nextEvent L xs (d + 8) τ n R s r dn hB2.1 (by omega) a1 hsr hds (by omega)) rfl (Or.inr rfl) rfl rfl rfl (fun r1 σ1 q1 => ?_)
    obtain ⟨rfl, rfl⟩ := q1
    rw [hev]
    by_cases hdn : dn < fN (σ 247 r)
    · rw [if_pos hdn]
      obtain ⟨t, t1, t2, -⟩ := hR.2.2.2.2.2 r dn a1 hdn
      have hft : fN (σ 248 (6 * r + dn)) = t := by rw [t2]; exact fN_nI (by omega)
      have ht2 : τ 248 (6 * r + dn) = nI t := by rw [hF.1 248 (by decide) (by decide)]; exact t2
      have hsd : τ 249 = σ 249 := hF.1 _ (by decide) (by decide)
      have k76 : σ 249 (6 * r + dn) = 0 → kX kT L xs (d + 10) 218 76 [(4, .int (-6)), (3, .int (nI (6 * r + dn))), (2, .int (nI s)), (0, .ref 232), (1, .int (nI i))] [] τ (fun r σ' => mY σ σ' n R S X ∧ rY C X r) := by
        intro hse
        iterate 6 (refine kX_one rfl ?_)
        refine kX_ialdV rfl rfl (by decide) (6 * r + dn) (by first | rfl | decide) (by omega) (ht2) ?_
        refine kX_cal (mY_receives L xs d σ τ n b R S C i s r dn t kl x a (sSe σ kl n S C i s a x) hT hB ha q a1 a2 a3 hdn hse t1 t2 hi6 i3 i3' i2 i5 i6 i7 (sSe_recv hfr hfd hdn hse hft)) rfl (Or.inr rfl) rfl rfl rfl (fun r1 τ2 q1 => ?_)
        obtain ⟨z1, z2, z3⟩ := q1
        have hne := rY_ne hC6 z2
        have hgo : ∀ v : Int32, r1 = some (.int v) → kX kT L xs (d + 10) 218 88 [(4, .int (-6)), (3, .int (nI (6 * r + dn))), (2, .int (nI s)), (0, .ref 232), (1, .int (nI i))] [.int v] τ2 (fun r σ' => mY σ σ' n R S X ∧ rY C X r) := by
          intro v hv
          subst hv
          iterate 1 (refine kX_one rfl ?_)
          exact kX_lv _ rfl rfl rfl (k90 (nI (6 * r + dn)) v τ2 z1 z2 (fun e => z3 (hne.mpr (by rw [e]))))
        rcases z2 with ⟨-, rfl⟩ | ⟨-, rfl⟩ | ⟨c', -, -, rfl, -⟩
        · exact hgo _ rfl
        · exact hgo _ rfl
        · exact hgo _ rfl
      have k58 : ∀ (v : Int32) τ2, mY σ τ2 n R S (sSe σ kl n S C i s a x) → rY C (sSe σ kl n S C i s a x) (some (.int v)) → kX kT L xs (d + 10) 218 58 [(4, .int (-6)), (3, .int (nI (6 * r + dn))), (2, .int (nI s)), (0, .ref 232), (1, .int (nI i))] [.int v] τ2 (fun r σ' => mY σ σ' n R S X ∧ rY C X r) := by
        intro v τ2 z1 z2
        have hse2 : τ2 232 27 = nI S := (z1.1.2.1 _ (by decide) (by decide)).trans hB.2.1.2.1
        iterate 3 (refine kX_one rfl ?_)
        refine kX_cal (mr_takeState L xs (d + 8) τ2 S i hse2 hS4 hi6) rfl (Or.inr rfl) rfl rfl rfl (fun r1 σ3 q1 => ?_)
        obtain ⟨rfl, D, V, rfl, hD, hV⟩ := q1
        obtain ⟨y1, y2⟩ := tk_st (a := a) hT hB z1 hpre.1 (by rw [hpre.2]; exact i3') hD hV
        generalize va_up (va_up τ2 264 D) 265 V = υ at *
        obtain ⟨bu, hTu⟩ := y1.2.1
        have hBu := mBs_sf hT y1.1 hB
        iterate 1 (refine kX_one rfl ?_)
        refine kX_cal (mr_stateRow L xs (d + 2) υ n bu R S kl hTu hBu.2.2.1 hBu.1 hS4 (cfg_Sv hTu hBu.1 hBu.2.1 (cfg_st hT hR y1.1 ha y2))) rfl (Or.inr rfl) rfl rfl rfl (fun r1 κ q1 => ?_)
        obtain ⟨rfl, -, b', l', hb', hbd⟩ := q1
        obtain ⟨t1, t2, t3, -⟩ := tk_row hT hB y1 ha y2 hb' hbd
        iterate 1 (refine kX_one rfl ?_)
        exact kX_lv _ rfl rfl rfl (k90 (nI (6 * r + dn)) v κ t1 z2 (fun _ => ⟨t2, t3⟩))
      have k42 : σ 249 (6 * r + dn) ≠ 0 → kX kT L xs (d + 10) 218 42 [(4, .int (-6)), (3, .int (nI (6 * r + dn))), (2, .int (nI s)), (0, .ref 232), (1, .int (nI i))] [] τ (fun r σ' => mY σ σ' n R S X ∧ rY C X r) := by
        intro hse
        obtain ⟨ok1, ok2⟩ := aOk_up hT hR ha q a1 a2 a3 hdn hse
        have hst2 : aSt (va_up τ 264 (upd (τ 264) s (nI (dn + 1)))) S (aUp a s) := by
          refine ⟨fun u hu => ?_, fun u k hu hk => ?_⟩
          · show upd (τ 264) s (nI (dn + 1)) u = _
            rw [aUp_D, a3, nI_1]
            by_cases e : u = s
            · subst e
              rw [pk_us, pk_us]
            · rw [pk_un e, pk_un e]
              exact i6.1 u hu
          · rw [aUp_V a s hk]
            exact i6.2 u k hu hk
        iterate 4 (refine kX_one rfl ?_)
        refine kX_ialdV rfl rfl (by decide) (s) (by first | rfl | decide) (by omega) (hds) ?_
        iterate 2 (refine kX_one rfl ?_)
        refine kX_top (nI_1 dn) ?_
        refine kX_iastN rfl rfl (by decide) (s) (by first | rfl | decide) (by omega) ?_
        have hcom := mY_comes L xs (d + 1) σ (va_up τ 264 (upd (τ 264) s (nI (dn + 1)))) n b R S C kl x (aUp a s) (nI i) (nI s) hT hB (mY_up hT hB i5 (Or.inl rfl)) ok1 hst2 i2 (Or.inr ⟨i, s, i3, rfl, rfl, by rw [i3']; exact ok2⟩)
        rw [← sSe_send (σ := σ) (kl := kl) (n := n) (S := S) (C := C) (i := i) (x := x) hfr hfd hdn hse] at hcom
        generalize va_up τ 264 (upd (τ 264) s (nI (dn + 1))) = ρ1 at *
        iterate 3 (refine kX_one rfl ?_)
        refine kX_cal hcom rfl (Or.inr rfl) rfl rfl rfl (fun r1 σ2 q1 => ?_)
        obtain ⟨z1, z2, -⟩ := q1
        have z3 := z2
        rcases z2 with ⟨-, rfl⟩ | ⟨-, rfl⟩ | ⟨c', -, -, rfl, -⟩
        · exact k58 _ σ2 z1 z3
        · exact k58 _ σ2 z1 z3
        · exact k58 _ σ2 z1 z3
      iterate 4 (refine kX_one rfl ?_)
      repeat refine kX_one rfl ?_
      refine kX_ifF (decide_eq_false (nI_pos (by omega))) ?_
      iterate 3 (refine kX_one rfl ?_)
      refine kX_baldN rfl rfl (by decide) (6 * r + dn) (by first | rfl | decide) (by omega) ?_
      repeat refine kX_one rfl ?_
      refine kX_if (fun q2 => ?_) (fun q2 => ?_)
      · have q2 : τ 249 (6 * r + dn) = 0 := qeq q2
        rw [hsd] at q2
        iterate 1 (refine kX_one rfl ?_)
        repeat refine kX_one rfl ?_
        refine kX_ifF (decide_eq_false (nI_pos (by omega))) ?_
        exact kX_lv _ rfl rfl rfl (k76 q2)
      · have q2 : τ 249 (6 * r + dn) ≠ 0 := qeqF q2
        rw [hsd] at q2
        exact kX_lv _ rfl rfl rfl (k42 q2)
    · rw [if_neg hdn]
      have hx : sSe σ kl n S C i s a x = x := sSe_none hfr (by rw [hfd]; exact hdn)
      rw [hx] at k90
      iterate 7 (refine kX_one rfl ?_)
      exact kX_lv _ rfl rfl rfl (k90 (-1) (-6) τ i5 (Or.inl ⟨i2, rfl⟩) (fun _ => ⟨i6, i7⟩))
set_option maxRecDepth 100000 in
set_option maxHeartbeats 4000000 in
theorem mY_goesOn (L : Nat) (xs : Nat → Int32) (d : Nat) (σ τ : kS) (n b R S C i : Nat) (kl : List Nat) (x : sX) (a : Nat → Int32) (X : sX) (hT : mTb σ n b) (hB : mBs σ n R S C kl) (hY : mY σ τ n R S x) (hi : i < x.1.length) (hai : (xq x.1 i).1 = a) (han : x.2.2.2 = 0) (hXe : X = sGo σ kl n S C i a S 0 x) : kXM kT L xs (d + 10) 218 [.ref 232, .int (nI i)] τ (fun r σ' => mY σ σ' n R S X ∧ rY C X r) := by
  have hS4 := hB.2.1.1
  have hN6 := hY.2.2.1.1
  have ha : aOk σ n R S a := by
    rw [← hai]
    exact (hY.2.2.2.2.2.2 i hi).1
  have hse2 : τ 232 27 = nI S := (hY.1.2.1 _ (by decide) (by decide)).trans hB.2.1.2.1
  unfold kXM
  iterate 2 (refine kX_one rfl ?_)
  refine kX_cal (mr_takeState L xs (d + 8) τ S i hse2 hS4 (by omega)) rfl (Or.inr rfl) rfl rfl rfl (fun r1 σ3 q1 => ?_)
  obtain ⟨rfl, D, V, rfl, hD, hV⟩ := q1
  obtain ⟨y1, y2⟩ := tk_st (a := a) hT hB hY hi hai hD hV
  generalize va_up (va_up τ 264 D) 265 V = υ at *
  obtain ⟨bu, hTu⟩ := y1.2.1
  have hBu := mBs_sf hT y1.1 hB
  iterate 1 (refine kX_one rfl ?_)
  refine kX_cal (mr_stateRow L xs (d + 2) υ n bu R S kl hTu hBu.2.2.1 hBu.1 hS4 (cfg_Sv hTu hBu.1 hBu.2.1 (cfg_st hT hB.1 y1.1 ha y2))) rfl (Or.inr rfl) rfl rfl rfl (fun r1 κ q1 => ?_)
  obtain ⟨rfl, -, b', l', hb', hbd⟩ := q1
  obtain ⟨t1, t2, t3, -⟩ := tk_row hT hB y1 ha y2 hb' hbd
  iterate 2 (refine kX_one rfl ?_)
  exact kX_lv _ rfl rfl rfl (mY_go_loop L xs d σ n b R S C i kl a X hT hB ha (by omega) (0, κ, x) ⟨Nat.zero_le _, han, ⟨hi, hai⟩, hXe.symm, t1, t2, t3⟩)
