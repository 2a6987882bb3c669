/-! alike: new TERMS of the class, to the letter -/
theorem isB_1 {P : Prop} : isB P = 1 ↔ P := ⟨fun h => Classical.byContradiction (fun n => by rw [isB_F n] at h; exact absurd h (by decide)), isB_T⟩
theorem isB_of {P : Prop} {g : Int32} (hg : g = 0 ∨ g = 1) (h : g = 1 ↔ P) : isB P = g := by
  by_cases hp : P
  · rw [isB_T hp, h.mpr hp]
  · rw [isB_F hp]
    rcases hg with rfl | rfl
    · rfl
    · exact absurd (h.mp rfl) hp
set_option maxRecDepth 100000 in
set_option maxHeartbeats 4000000 in
theorem mf_put (L : Nat) (xs : Nat → Int32) (d : Nat) (σ : kS) (n : Nat) (w x y : Int32) (hn : n ≤ 200) (h : σ 1 11 = nI n) (h01 : ∀ z, z < n → σ 8 z = 0 ∨ σ 8 z = 1) : kXM kT L xs (d + 3) 107 [.ref 1, .int w, .int x, .int y] σ (fun r σ' => (n = 200 ∧ r = some (.int (-1)) ∧ σ = σ') ∨ (n < 200 ∧ r = some (.int (nI n)) ∧ σ' = cPut σ n w x y (1 + czs σ n x + czs σ n y) (isB (cG σ n x ∧ cG σ n y)))) := by
  unfold kXM
  iterate 1 (refine kX_one rfl ?_)
  refine kX_cal (mc_isFull L xs (d + 1) σ n hn h) rfl (Or.inr rfl) rfl rfl rfl (fun r1 σ1 q1 => ?_)
  obtain ⟨rfl, rfl⟩ := q1
  repeat refine kX_one rfl ?_
  refine kX_if (fun q => ?_) (fun q => ?_)
  · have hlt : n < 200 := by
      have : ¬ n = 200 := fun z => isB_ne.mpr z (qeq q)
      omega
    have hρ : cP3 σ n w x y 1 11 = nI n := h
    have k104 : ∀ z g, z = 1 + czs σ n x + czs σ n y → (g = 0 ∨ g = 1) → (g = 1 ↔ cG σ n x ∧ cG σ n y) → kX kT L xs (d + 3) 107 104 [(4, .int (nI n)), (0, .ref 1), (1, .int w), (2, .int x), (3, .int y)] [.int g, .int (nI n), .ref 8] (va_up (cP3 σ n w x y) 5 (upd (σ 5) n z)) (fun r σ' => (n = 200 ∧ r = some (.int (-1)) ∧ σ = σ') ∨ (n < 200 ∧ r = some (.int (nI n)) ∧ σ' = cPut σ n w x y (1 + czs σ n x + czs σ n y) (isB (cG σ n x ∧ cG σ n y)))) := by
      intro z g hz hg hgc
      refine kX_bastN rfl rfl (by decide) (n) (by first | rfl | decide) (hlt) (hg) ?_
      iterate 4 (refine kX_one rfl ?_)
      refine kX_bastN rfl rfl (by decide) (n) (by first | rfl | decide) (hlt) (Or.inl rfl) ?_
      iterate 5 (refine kX_one rfl ?_)
      refine kX_st (cPut σ n w x y z g) ?_ ?_
      · unfold cPut
        rw [← nI_1]
        funext c; unfold cP3 va_up; repeat' split
        all_goals first | rfl | omega | (subst_vars; rfl) | (funext j; unfold upd; repeat' split; all_goals first | rfl | omega | (subst_vars; rfl))
      iterate 1 (refine kX_one rfl ?_)
      refine kX_ret (i := .ireturn) (len := 1) rfl (Or.inr rfl) rfl (Or.inr ⟨hlt, rfl, by rw [hz, isB_of hg hgc]⟩)
    have hgx : ∀ c : Int32, isB (isN c n) = 0 → cG σ n c := fun c hc z z1 z2 => absurd hc (isB_ne.mpr ⟨z, z1, z2⟩)
    have hgy : ∀ t, t < n → σ 8 t = 1 → cG σ n (nI t) := fun t ht hg z z1 z2 => by
      rw [← nI_inj z2]
      exact hg
    have hgz : ∀ t, t < n → σ 8 t = 0 → ¬ cG σ n (nI t) := fun t ht hg z => by
      have := z t ht rfl
      rw [hg] at this
      exact absurd this (by decide)
    have h1of : ∀ t, t < n → σ 8 t ≠ 0 → σ 8 t = 1 := fun t ht q => (h01 t ht).elim (fun z => absurd z q) id
    have k82 : ∀ z, z = 1 + czs σ n x + czs σ n y → cG σ n x → kX kT L xs (d + 3) 107 82 [(4, .int (nI n)), (0, .ref 1), (1, .int w), (2, .int x), (3, .int y)] [.int (nI n), .ref 8] (va_up (cP3 σ n w x y) 5 (upd (σ 5) n z)) (fun r σ' => (n = 200 ∧ r = some (.int (-1)) ∧ σ = σ') ∨ (n < 200 ∧ r = some (.int (nI n)) ∧ σ' = cPut σ n w x y (1 + czs σ n x + czs σ n y) (isB (cG σ n x ∧ cG σ n y)))) := by
      intro z hz hx
      iterate 2 (refine kX_one rfl ?_)
      refine kX_cal (mc_has L xs (d + 1) _ n y hn hρ) rfl (Or.inr rfl) rfl rfl rfl (fun r1 σ1 q1 => ?_)
      obtain ⟨rfl, rfl⟩ := q1
      repeat refine kX_one rfl ?_
      refine kX_if (fun q2 => ?_) (fun q2 => ?_)
      · iterate 2 (refine kX_one rfl ?_)
        exact k104 z 1 hz (Or.inr rfl) ⟨fun _ => ⟨hx, hgx y (qeq q2)⟩, fun _ => rfl⟩
      · obtain ⟨t, t1, rfl⟩ := isB_ne.mp (qeqF q2)
        iterate 3 (refine kX_one rfl ?_)
        refine kX_baldN rfl rfl (by decide) (t) (by first | rfl | decide) (by omega) ?_
        repeat refine kX_one rfl ?_
        refine kX_if (fun q3 => ?_) (fun q3 => ?_)
        · have q3 : σ 8 t = 0 := qeq q3
          iterate 1 (refine kX_one rfl ?_)
          exact k104 z 0 hz (Or.inl rfl) ⟨fun z => absurd z (by decide), fun z => absurd z.2 (hgz t t1 q3)⟩
        · have q3 : σ 8 t ≠ 0 := qeqF q3
          iterate 2 (refine kX_one rfl ?_)
          exact k104 z 1 hz (Or.inr rfl) ⟨fun _ => ⟨hx, hgy t t1 (h1of t t1 q3)⟩, fun _ => rfl⟩
    iterate 2 (refine kX_one rfl ?_)
    refine kX_top (h) ?_
    iterate 5 (refine kX_one rfl ?_)
    refine kX_iastN rfl rfl (by decide) (n) (by first | rfl | decide) (by omega) ?_
    iterate 4 (refine kX_one rfl ?_)
    refine kX_iastN rfl rfl (by decide) (n) (by first | rfl | decide) (by omega) ?_
    iterate 4 (refine kX_one rfl ?_)
    refine kX_iastN rfl rfl (by decide) (n) (by first | rfl | decide) (by omega) ?_
    iterate 6 (refine kX_one rfl ?_)
    refine kX_cal (mf_sizeOf L xs d (cP3 σ n w x y) n x hn hρ) rfl (Or.inr rfl) rfl rfl rfl (fun r1 σ1 q1 => ?_)
    obtain ⟨rfl, rfl⟩ := q1
    iterate 3 (refine kX_one rfl ?_)
    refine kX_cal (mf_sizeOf L xs d (cP3 σ n w x y) n y hn hρ) rfl (Or.inr rfl) rfl rfl rfl (fun r1 σ1 q1 => ?_)
    obtain ⟨rfl, rfl⟩ := q1
    iterate 1 (refine kX_one rfl ?_)
    refine kX_iastN rfl rfl (by decide) (n) (by first | rfl | decide) (by omega) ?_
    refine kX_to [(4, .int (nI n)), (0, .ref 1), (1, .int w), (2, .int x), (3, .int y)] (va_up (cP3 σ n w x y) 5 (upd (σ 5) n (1 + czs σ n x + czs σ n y))) rfl rfl rfl rfl ?_
    iterate 5 (refine kX_one rfl ?_)
    refine kX_cal (mc_has L xs (d + 1) _ n x hn hρ) rfl (Or.inr rfl) rfl rfl rfl (fun r1 σ1 q1 => ?_)
    obtain ⟨rfl, rfl⟩ := q1
    repeat refine kX_one rfl ?_
    refine kX_if (fun q2 => ?_) (fun q2 => ?_)
    · exact k82 _ rfl (hgx x (qeq q2))
    · obtain ⟨t, t1, rfl⟩ := isB_ne.mp (qeqF q2)
      iterate 3 (refine kX_one rfl ?_)
      refine kX_baldN rfl rfl (by decide) (t) (by first | rfl | decide) (by omega) ?_
      repeat refine kX_one rfl ?_
      refine kX_if (fun q3 => ?_) (fun q3 => ?_)
      · have q3 : σ 8 t = 0 := qeq q3
        iterate 1 (refine kX_one rfl ?_)
        exact k104 _ 0 rfl (Or.inl rfl) ⟨fun z => absurd z (by decide), fun z => absurd z.1 (hgz t t1 q3)⟩
      · have q3 : σ 8 t ≠ 0 := qeqF q3
        exact k82 _ rfl (hgy t t1 (h1of t t1 q3))
  · have q := isB_ne.mp (qeqF q)
    repeat refine kX_one rfl ?_
    refine kX_ret (i := .ireturn) (len := 1) rfl (Or.inr rfl) rfl (Or.inl ⟨q, rfl, rfl⟩)
def cAt (σ : kS) (n k : Nat) (b : Int32) : kS := va_up (cPut σ n (nI k) (-1) (-1) 1 1) 9 (upd (upd (σ 9) n 0) n b)
def cVa (σ : kS) (n p : Nat) (r0 so : Int32) : kS := va_up (va_up (va_up (va_up (cPut σ n (nI 3) (-1) (-1) 1 1) 8 (upd (upd (σ 8) n 1) n 0)) 10 (upd (σ 10) n r0)) 12 (upd (σ 12) n (nI p))) 11 (upd (σ 11) n so)
noncomputable def cCo (σ : kS) (n k : Nat) (x y : Int32) : kS := va_up (va_up (cPut σ n (nI k) x y (1 + czs σ n x + czs σ n y) (isB (cG σ n x ∧ cG σ n y))) 6 (upd (σ 6) n (σ 7 (fN (cSl (nI k) x y))))) 7 (upd (σ 7) (fN (cSl (nI k) x y)) (nI n))
theorem cT_at {σ : kS} {n k : Nat} {b : Int32} (h : cT σ n) (hn : n < 200) (hk : k ≤ 2) : cT (cAt σ n k b) (n + 1) ∧ cGr σ (cAt σ n k b) n := by
  refine ⟨?_, cGr_trans (cGr_put σ n _ _ _ _ _ hn) (cGr_up (Or.inl rfl)) (Nat.le_refl _)⟩
  refine cT_push h hn rfl (fun u hu => ⟨pk_un (by omega), pk_un (by omega), pk_un (by omega), pk_un (by omega), rfl, rfl⟩) (fun s hs => Or.inl rfl) ?_
  exact cTt_new (k := k) pk_us pk_us pk_us pk_us (by omega) (Or.inl rfl) (Or.inl rfl) (Or.inr rfl) (fun q => by omega) (fun _ => ⟨fun _ => ⟨cG_m1 _ n (by omega), cG_m1 _ n (by omega)⟩, fun _ => rfl⟩) (fun _ => ⟨rfl, rfl⟩) (fun q => by omega) (fun q => by omega)
theorem cT_va {σ : kS} {n p : Nat} {r0 so : Int32} (h : cT σ n) (hn : n < 200) (hp : p < 6) : cT (cVa σ n p r0 so) (n + 1) ∧ cGr σ (cVa σ n p r0 so) n := by
  constructor
  · refine cT_push h hn rfl (fun u hu => ⟨pk_un (by omega), pk_un (by omega), pk_un (by omega), (pk_un (by omega)).trans (pk_un (by omega)), pk_un (by omega), rfl⟩) (fun s hs => Or.inl rfl) ?_
    exact cTt_new (k := 3) pk_us pk_us pk_us pk_us (by omega) (Or.inl rfl) (Or.inl rfl) (Or.inl rfl) (fun _ => ⟨rfl, p, hp, pk_us⟩) (fun q => absurd rfl q) (fun _ => ⟨rfl, rfl⟩) (fun q => by omega) (fun q => by omega)
  · refine ⟨fun c hc => ?_, fun u hu => (pk_un (by omega)).trans (pk_un (by omega)), fun g hg => ⟨pk_un (by omega), pk_un (by omega), pk_un (by omega), rfl⟩⟩
    simp only [tC, List.mem_cons, List.not_mem_nil, or_false, not_or] at hc
    simp [cVa, cPut, va_up, hc]
theorem cT_co {σ : kS} {n k : Nat} {x y : Int32} (h : cT σ n) (hn : n < 200) (hk : 4 ≤ k) (hk9 : k ≤ 9) (hx : cCh n x) (hy : cCh n y) (ho : ¬ (cG σ n x ∧ cG σ n y) → ∃ x', x' < n ∧ x = nI x' ∧ ((∃ y', y' < n ∧ y = nI y') ∨ (y = -1 ∧ (k = 7 ∨ k = 9)))) : cT (cCo σ n k x y) (n + 1) ∧ cGr σ (cCo σ n k x y) n := by
  obtain ⟨s1, s2⟩ := cSl_ok (nI k) x y
  have hh := h.2.2.1 _ s1
  have hG : ∀ c, cG (cCo σ n k x y) n c ↔ cG σ n c := fun c => cG_eq (fun u hu => pk_un (by omega))
  refine ⟨?_, ?_⟩
  · refine cT_push h hn rfl (fun u hu => ⟨pk_un (by omega), pk_un (by omega), pk_un (by omega), pk_un (by omega), rfl, pk_un (by omega)⟩) (fun s hs => ?_) ?_
    · by_cases e : s = fN (cSl (nI k) x y)
      · subst e
        refine Or.inr ⟨pk_us, ?_⟩
        show 4 ≤ fN (upd (σ 2) n (nI k) n)
        rw [pk_us, fN_nI (by omega)]
        exact hk
      · exact Or.inl (pk_un e)
    · refine cTt_new (k := k) pk_us pk_us pk_us pk_us hk9 hx hy (isB_01 _) (fun q => by omega) (fun _ => by rw [hG, hG]; exact isB_1) (fun q => by omega) (fun _ q => ho (fun z => ?_)) (fun _ => ?_)
      · rw [isB_T z] at q
        exact absurd q (by decide)
      · show upd (σ 6) n (σ 7 (fN (cSl (nI k) x y))) n = -1 ∨ ∃ u, u < n ∧ upd (σ 6) n (σ 7 (fN (cSl (nI k) x y))) n = nI u ∧ 4 ≤ fN (upd (σ 2) n (nI k) u)
        rw [pk_us]
        rcases hh with q | ⟨u, u1, u2, u3⟩
        · exact Or.inl q
        · exact Or.inr ⟨u, u1, u2, by rw [pk_un (by omega)]; exact u3⟩
  · refine ⟨fun c hc => ?_, fun u hu => pk_un (by omega), fun g hg => ⟨pk_un (by omega), pk_un (by omega), pk_un (by omega), pk_un (by omega)⟩⟩
    simp only [tC, List.mem_cons, List.not_mem_nil, or_false, not_or] at hc
    simp [cCo, cPut, va_up, hc]
theorem czs_11 {σ : kS} {n : Nat} (hn : n ≤ 200) : (1 + czs σ n (-1) + czs σ n (-1) : Int32) = 1 := by
  rw [czs_m1 hn]
  decide
theorem cG_11 {σ : kS} {n : Nat} (hn : n ≤ 200) : isB (cG σ n (-1) ∧ cG σ n (-1)) = 1 := isB_T ⟨cG_m1 σ n hn, cG_m1 σ n hn⟩
set_option maxRecDepth 100000 in
set_option maxHeartbeats 4000000 in
theorem mf_newAtom (L : Nat) (xs : Nat → Int32) (d : Nat) (σ : kS) (n k : Nat) (b : Int32) (h : cT σ n) (hk : k ≤ 2) (hb : b = 0 ∨ b = 1) (hn : n < 200) : kXM kT L xs (d + 4) 104 [.ref 1, .int (nI k), .int b] σ (fun r σ' => r = some (.int (nI n)) ∧ σ' = cAt σ n k b) := by
  unfold kXM
  iterate 4 (refine kX_one rfl ?_)
  refine kX_cal (mf_put L xs d σ n (nI k) (-1) (-1) h.1 h.2.1 (cT_01 h)) rfl (Or.inr rfl) rfl rfl rfl (fun r1 σ1 q1 => ?_)
  rcases q1 with ⟨q, -⟩ | ⟨-, rfl, rfl⟩
  · omega
  · rw [czs_11 h.1, cG_11 h.1]
    iterate 2 (refine kX_one rfl ?_)
    repeat refine kX_one rfl ?_
    refine kX_if (fun q => ?_) (fun q => ?_)
    · exact absurd (qeq q) (nI_m1 (by omega))
    · iterate 4 (refine kX_one rfl ?_)
      refine kX_bastN rfl rfl (by decide) (n) (by first | rfl | decide) (hn) (hb) ?_
      repeat refine kX_one rfl ?_
      refine kX_ret (i := .ireturn) (len := 1) rfl (Or.inr rfl) rfl (⟨rfl, rfl⟩)
set_option maxRecDepth 100000 in
set_option maxHeartbeats 4000000 in
theorem mf_newVariable (L : Nat) (xs : Nat → Int32) (d : Nat) (σ : kS) (n p : Nat) (r0 so : Int32) (h : cT σ n) (hn : n < 200) : kXM kT L xs (d + 4) 105 [.ref 1, .int r0, .int (nI p), .int so] σ (fun r σ' => r = some (.int (nI n)) ∧ σ' = cVa σ n p r0 so) := by
  unfold kXM
  iterate 4 (refine kX_one rfl ?_)
  refine kX_cal (mf_put L xs d σ n (nI 3) (-1) (-1) h.1 h.2.1 (cT_01 h)) rfl (Or.inr rfl) rfl rfl rfl (fun r1 σ1 q1 => ?_)
  rcases q1 with ⟨q, -⟩ | ⟨-, rfl, rfl⟩
  · omega
  · rw [czs_11 h.1, cG_11 h.1]
    iterate 3 (refine kX_one rfl ?_)
    repeat refine kX_one rfl ?_
    refine kX_if (fun q => ?_) (fun q => ?_)
    · exact absurd (qeq q) (nI_m1 (by omega))
    · iterate 4 (refine kX_one rfl ?_)
      refine kX_bastN rfl rfl (by decide) (n) (by first | rfl | decide) (hn) (Or.inl rfl) ?_
      iterate 4 (refine kX_one rfl ?_)
      refine kX_iastN rfl rfl (by decide) (n) (by first | rfl | decide) (hn) ?_
      iterate 4 (refine kX_one rfl ?_)
      refine kX_iastN rfl rfl (by decide) (n) (by first | rfl | decide) (hn) ?_
      iterate 4 (refine kX_one rfl ?_)
      refine kX_iastN rfl rfl (by decide) (n) (by first | rfl | decide) (hn) ?_
      repeat refine kX_one rfl ?_
      refine kX_ret (i := .ireturn) (len := 1) rfl (Or.inr rfl) rfl (⟨rfl, rfl⟩)
set_option maxRecDepth 100000 in
set_option maxHeartbeats 4000000 in
theorem mf_newCompound (L : Nat) (xs : Nat → Int32) (d : Nat) (σ : kS) (n k : Nat) (x y : Int32) (h : cT σ n) (hn : n < 200) : kXM kT L xs (d + 4) 106 [.ref 1, .int (nI k), .int x, .int y] σ (fun r σ' => r = some (.int (nI n)) ∧ σ' = cCo σ n k x y) := by
  unfold kXM
  iterate 4 (refine kX_one rfl ?_)
  refine kX_cal (mf_put L xs d σ n (nI k) x y h.1 h.2.1 (cT_01 h)) rfl (Or.inr rfl) rfl rfl rfl (fun r1 σ1 q1 => ?_)
  rcases q1 with ⟨q, -⟩ | ⟨-, rfl, rfl⟩
  · omega
  · iterate 3 (refine kX_one rfl ?_)
    repeat refine kX_one rfl ?_
    refine kX_if (fun q => ?_) (fun q => ?_)
    · exact absurd (qeq q) (nI_m1 (by omega))
    · iterate 3 (refine kX_one rfl ?_)
      refine kX_cal (mc_slot L xs (d + 2) _ (nI k) x y) rfl (Or.inr rfl) rfl rfl rfl (fun r1 σ1 q1 => ?_)
      obtain ⟨rfl, rfl⟩ := q1
      obtain ⟨s1, s2⟩ := cSl_ok (nI k) x y
      iterate 7 (refine kX_one rfl ?_)
      refine kX_ialdN rfl rfl (by decide) (fN (cSl (nI k) x y)) (s2) (s1) ?_
      refine kX_iastN rfl rfl (by decide) (n) (by first | rfl | decide) (by omega) ?_
      iterate 4 (refine kX_one rfl ?_)
      refine kX_iastN rfl rfl (by decide) (fN (cSl (nI k) x y)) (s2) (s1) ?_
      repeat refine kX_one rfl ?_
      refine kX_ret (i := .ireturn) (len := 1) rfl (Or.inr rfl) rfl (⟨rfl, rfl⟩)
