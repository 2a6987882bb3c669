/-! alike: leaks, breaks -/
set_option maxRecDepth 100000 in
set_option maxHeartbeats 4000000 in
theorem mf_canNot (L : Nat) (xs : Nat → Int32) (d : Nat) (σ : kS) (K st n u : Nat) (y : Int32) (h : nB σ K st n u) : kXM kT L xs (d + 2) 55 [.ref K, .int (-1), .int y] σ (fun r σ' => r = some (.int 0) ∧ σ = σ') := by
  have hb := isK_b h.1
  have h2 := h.2.1
  have h3 := h.2.2.1
  unfold kXM
  iterate 2 (refine kX_one rfl ?_)
  refine kX_cal (mc_kHas L xs d σ K st n u (-1) h) rfl (Or.inr rfl) rfl (jcall_v rfl rfl rfl (kT_kn h.1) rfl rfl) rfl (fun r1 σ1 q1 => ?_)
  obtain ⟨rfl, rfl⟩ := q1
  repeat refine kX_one rfl ?_
  refine kX_ifT (decide_eq_true (isB_F (fun z => ?_))) ?_
  · rcases z with ⟨j, j1, j2⟩ | ⟨g, g1, g2, g3⟩
    · exact nI_m1 (by omega) j2.symm
    · exact nI_m1 (by omega) g3.symm
  iterate 1 (refine kX_one rfl ?_)
  refine kX_ret (i := .ireturn) (len := 1) rfl (Or.inr rfl) rfl (⟨rfl, rfl⟩)
/-- the SECRET c of the session s leaks -/
def cLs (σ : kS) (A base c n : Nat) (l : rwT) (s : Nat) : Prop := (σ 15 s = σ (163 + 3 * c) 1 ∧ σ 16 s ≠ 0) ∧ ∃ z, z < n ∧ σ A (base + 7 * s + 1 + fN (σ (163 + 3 * c) 3)) = nI z ∧ kMk σ l z
/-- marks alone have changed -/
def mkP (σ : kS) (K st n u m : Nat) (l : rwT) (σ' : kS) : Prop := ∃ M, σ' = va_up σ (K + 6) M ∧ iE σ' K st n u m l
set_option maxRecDepth 100000 in
set_option maxHeartbeats 4000000 in
theorem mf_leaks (L : Nat) (xs : Nat → Int32) (d : Nat) (σ : kS) (n R S C A M base c K st u m : Nat) (l : rwT) (g0 : Nat → Int32) (hB : cB σ n R S C) (hc : c < C) (hA : kT[A]? = some (.inl (0, M, .inl g0))) (hM : M ≤ 100000) (hbm : base + 28 ≤ M) (hA2 : A < K ∨ K + 9 ≤ A) (hE : iE σ K st n u m l) (hV : ∀ s k, s < S → k < 6 → σ A (base + 7 * s + 1 + k) = -1 ∨ ∃ z, z < n ∧ σ A (base + 7 * s + 1 + k) = nI z ∧ kGd σ z) (hsec : σ (163 + 3 * c) 0 ≠ 0) : kXM kT L xs (d + 53) 25 [.ref 13, .ref (163 + 3 * c), .ref A, .int (nI base), .ref K] σ (fun q σ' => q = some (.int (isB (∃ s, s < S ∧ cLs σ A base c n l s))) ∧ mkP σ K st n u m l σ') := by
  have hS4 := hB.2.1.1
  have hC6 := hB.2.2.1
  have hc6 : c < 6 := by omega
  have hKb := isK_b hE.1
  obtain ⟨v, v1, v2⟩ := (hB.2.2.2.2 c hc).1 hsec
  have hfv : fN (σ (163 + 3 * c) 3) = v := by rw [v2]; exact fN_nI (by omega)
  have loop : ∀ q : Nat × (Nat → Int32), (q.1 ≤ S ∧ iE (va_up σ (K + 6) q.2) K st n u m l ∧ ∀ s, s < q.1 → ¬ cLs σ A base c n l s) → kX kT L xs (d + 53) 25 3 [(5, .int (nI q.1)), (0, .ref 13), (1, .ref (163 + 3 * c)), (2, .ref A), (3, .int (nI base)), (4, .ref K)] [] (va_up σ (K + 6) q.2) (fun q σ' => q = some (.int (isB (∃ s, s < S ∧ cLs σ A base c n l s))) ∧ mkP σ K st n u m l σ') := by
    refine kX_while (fun q : Nat × (Nat → Int32) => [(5, .int (nI q.1)), (0, .ref 13), (1, .ref (163 + 3 * c)), (2, .ref A), (3, .int (nI base)), (4, .ref K)]) (fun q => va_up σ (K + 6) q.2) _ (fun q => S - q.1) ?_
    rintro ⟨i, F⟩ ⟨i1, i2, i3⟩ ih
    dsimp only at i1 i2 i3 ih ⊢
    have e : ∀ z, z ≠ K + 6 → va_up σ (K + 6) F z = σ z := fun z hz => up_ne hz
    iterate 3 (refine kX_one rfl ?_)
    refine kX_top (y := nI S) (by rw [e 13 (by omega)]; exact hB.2.1.2.1) ?_
    repeat refine kX_one rfl ?_
    refine kX_if (fun q => ?_) (fun q => ?_)
    · have q := qge q i S
      repeat refine kX_one rfl ?_
      refine kX_ret (i := .ireturn) (len := 1) rfl (Or.inr rfl) rfl (⟨by rw [isB_F (fun ⟨s, s1, s2⟩ => i3 s (by omega) s2)]; rfl, F, rfl, i2⟩)
    · have q := qgeF q i S
      have k59 : ∀ F', iE (va_up σ (K + 6) F') K st n u m l → ¬ cLs σ A base c n l i → kX kT L xs (d + 53) 25 59 [(5, .int (nI i)), (0, .ref 13), (1, .ref (163 + 3 * c)), (2, .ref A), (3, .int (nI base)), (4, .ref K)] [] (va_up σ (K + 6) F') (fun q σ' => q = some (.int (isB (∃ s, s < S ∧ cLs σ A base c n l s))) ∧ mkP σ K st n u m l σ') := by
        intro F' ht hno
        iterate 2 (refine kX_one rfl ?_)
        have := ih (i + 1, F') ⟨q, ht, fun s hs => by
          by_cases e : s = i
          · subst e
            exact hno
          · exact i3 s (by simp only at hs; omega)⟩ (by simp only; omega)
        dsimp only at this
        rw [← nI_1] at this
        exact kX_lv _ rfl rfl rfl this
      iterate 3 (refine kX_one rfl ?_)
      refine kX_ialdV rfl rfl (by decide) (i) (by first | rfl | decide) (by omega) (congrFun (e 15 (by omega)) i) ?_
      iterate 1 (refine kX_one rfl ?_)
      refine kX_getN rfl rfl (kT_cl hc6) rfl ?_
      refine kX_top (y := σ (163 + 3 * c) 1) (by rw [e (163 + 3 * c) (by omega)]) ?_
      repeat refine kX_one rfl ?_
      refine kX_if (fun q2 => ?_) (fun q2 => ?_)
      · have q2 := qne q2
        exact k59 F i2 (fun z => q2 z.1.1)
      · have q2 := qneF q2
        iterate 3 (refine kX_one rfl ?_)
        refine kX_baldV rfl rfl (by decide) (i) (by first | rfl | decide) (by omega) (congrFun (e 16 (by omega)) i) ?_
        repeat refine kX_one rfl ?_
        refine kX_if (fun q3 => ?_) (fun q3 => ?_)
        · have q3 := qeq q3
          exact k59 F i2 (fun z => z.1.2 q3)
        · have q3 := qeqF q3
          iterate 6 (refine kX_one rfl ?_)
          refine kX_getN rfl rfl (kT_cl hc6) rfl ?_
          refine kX_top (y := nI v) (by rw [e (163 + 3 * c) (by omega)]; exact v2) ?_
          refine kX_cal (mc_valueOf L xs (d + 51) _ A M base i v g0 hA hM (by omega)) rfl (Or.inr rfl) rfl rfl rfl (fun r1 σ1 q1 => ?_)
          obtain ⟨rfl, rfl⟩ := q1
          have eV : va_up σ (K + 6) F A (base + 7 * i + 1 + v) = σ A (base + 7 * i + 1 + v) := by rw [e A (by omega)]
          rcases hV i v q v1 with x | ⟨z, z1, z2, z3⟩
          · refine kX_top (y := -1) (eV.trans x) ?_
            iterate 1 (refine kX_one rfl ?_)
            refine kX_cal (mf_canNot L xs (d + 50) _ K st n u (nI 0) (iE_nB i2)) rfl (Or.inr rfl) rfl (jcall_v rfl rfl rfl (kT_kn hE.1) rfl rfl) rfl (fun r1 ω q1 => ?_)
            obtain ⟨rfl, rfl⟩ := q1
            iterate 1 (refine kX_one rfl ?_)
            refine k59 F i2 (fun y => ?_)
            obtain ⟨-, z, z1, z2, -⟩ := y
            rw [hfv, x] at z2
            exact nI_m1 (by have := hE.2.1; omega) z2.symm
          · refine kX_top (y := nI z) (eV.trans z2) ?_
            have hgd : kGd (va_up σ (K + 6) F) z := by
              unfold kGd
              rw [e 2 (by omega), e 3 (by omega), e 4 (by omega)]
              exact z3
            have hmk : kMk (va_up σ (K + 6) F) l z = kMk σ l z := kMk_c (fun y hy => e y (by have := of_decide_eq_true (List.all_eq_true.mp (show kCl.all (fun c => decide (c < 186 ∨ 222 ≤ c)) = true by decide) y hy); omega))
            iterate 1 (refine kX_one rfl ?_)
            refine kX_cal (mf_canMake L xs K st n u m l 49 (d + 1) 0 _ z rfl (by have := i2.2.2.2.2.2.2.2.2.1 z z1; omega) i2 (Or.inl z1) hgd) rfl (Or.inr rfl) rfl (jcall_v rfl rfl rfl (kT_kn hE.1) rfl rfl) rfl (fun r1 ω q1 => ?_)
            obtain ⟨rfl, F', rfl, hE2⟩ := q1
            rw [kup_up] at hE2 ⊢
            rw [hmk]
            by_cases hk : kMk σ l z
            · rw [isB_T hk]
              repeat refine kX_one rfl ?_
              refine kX_ret (i := .ireturn) (len := 1) rfl (Or.inr rfl) rfl (⟨by rw [isB_T ⟨i, q, ⟨q2, q3⟩, z, z1, by rw [hfv]; exact z2, hk⟩]; rfl, F', rfl, hE2⟩)
            · rw [isB_F hk]
              iterate 1 (refine kX_one rfl ?_)
              refine k59 F' hE2 (fun y => ?_)
              obtain ⟨-, w, w1, w2, w3⟩ := y
              rw [hfv, z2] at w2
              have hn := hE.2.1
              obtain rfl : z = w := nI_inj w2
              exact hk w3
  unfold kXM
  iterate 2 (refine kX_one rfl ?_)
  have := loop (0, σ (K + 6)) ⟨Nat.zero_le _, by simp only; rw [kup_self]; exact hE, fun s hs => absurd hs (Nat.not_lt_zero s)⟩
  dsimp only at this
  rw [kup_self] at this
  exact kX_lv _ rfl rfl rfl this
/-- the claim c breaks -/
def cBk (σ : kS) (A base c n S : Nat) (l : rwT) : Prop := (σ (163 + 3 * c) 0 ≠ 0 ∧ ∃ s, s < S ∧ cLs σ A base c n l s) ∨ (σ (163 + 3 * c) 0 = 0 ∧ ¬ cPn (cWn σ A base c) (cFt σ A base c) S S 0 0)
set_option maxRecDepth 100000 in
set_option maxHeartbeats 4000000 in
theorem mf_breaks (L : Nat) (xs : Nat → Int32) (d : Nat) (σ : kS) (n R S C A M base c K st u m : Nat) (l : rwT) (g0 : Nat → Int32) (hB : cB σ n R S C) (hc : c < C) (hA : kT[A]? = some (.inl (0, M, .inl g0))) (hM : M ≤ 100000) (hbm : base + 28 ≤ M) (hA2 : A < K ∨ K + 9 ≤ A) (hE : iE σ K st n u m l) (hV : ∀ s k, s < S → k < 6 → σ A (base + 7 * s + 1 + k) = -1 ∨ ∃ z, z < n ∧ σ A (base + 7 * s + 1 + k) = nI z ∧ kGd σ z) : kXM kT L xs (d + 54) 24 [.ref 13, .int (nI c), .ref A, .int (nI base), .ref K] σ (fun q σ' => q = some (.int (isB (cBk σ A base c n S l))) ∧ mkP σ K st n u m l σ') := by
  have hS4 := hB.2.1.1
  have hC6 := hB.2.2.1
  have hc6 : c < 6 := by omega
  unfold kXM
  iterate 3 (refine kX_one rfl ?_)
  refine kX_aaldN rfl (rfl) (by decide) (by decide) (by decide) (c) (by first | rfl | decide) (hc6) (cl_at hc6) ?_
  iterate 2 (refine kX_one rfl ?_)
  refine kX_getN rfl rfl (kT_cl hc6) rfl ?_
  repeat refine kX_one rfl ?_
  refine kX_if (fun q => ?_) (fun q => ?_)
  · have q := qeq q
    iterate 6 (refine kX_one rfl ?_)
    have hp := mf_canPartner L xs σ n R S C A M base c g0 hB hc hA hM hbm S (d + (50 - S)) 0 0 (by omega) (by decide)
    rw [show d + (50 - S) + S + 3 = d + 53 by omega] at hp
    refine kX_cal hp rfl (Or.inr rfl) rfl rfl rfl (fun r1 ω q1 => ?_)
    obtain ⟨rfl, rfl⟩ := q1
    by_cases hk : cPn (cWn σ A base c) (cFt σ A base c) S S 0 0
    · rw [isB_T hk]
      repeat refine kX_one rfl ?_
      refine kX_ret (i := .ireturn) (len := 1) rfl (Or.inr rfl) rfl (⟨by rw [isB_F (fun z => z.elim (fun y => y.1 q) (fun y => y.2 hk))]; rfl, σ (K + 6), up_id.symm, hE⟩)
    · rw [isB_F hk]
      repeat refine kX_one rfl ?_
      refine kX_ret (i := .ireturn) (len := 1) rfl (Or.inr rfl) rfl (⟨by rw [isB_T (show cBk σ A base c n S l from Or.inr ⟨q, hk⟩)]; rfl, σ (K + 6), up_id.symm, hE⟩)
  · have q := qeqF q
    iterate 5 (refine kX_one rfl ?_)
    refine kX_cal (mf_leaks L xs d σ n R S C A M base c K st u m l g0 hB hc hA hM hbm hA2 hE hV q) rfl (Or.inr rfl) rfl rfl rfl (fun r1 ω q1 => ?_)
    obtain ⟨rfl, hP⟩ := q1
    by_cases hk : ∃ s, s < S ∧ cLs σ A base c n l s
    · rw [isB_T hk]
      repeat refine kX_one rfl ?_
      refine kX_ret (i := .ireturn) (len := 1) rfl (Or.inr rfl) rfl (⟨by rw [isB_T (show cBk σ A base c n S l from Or.inl ⟨q, hk⟩)], hP⟩)
    · rw [isB_F hk]
      repeat refine kX_one rfl ?_
      refine kX_ret (i := .ireturn) (len := 1) rfl (Or.inr rfl) rfl (⟨by rw [isB_F (fun z => z.elim (fun y => hk y.2) (fun y => q y.1))], hP⟩)
/-! partners -/
/-- each of ws finds a partner that is not in w -/
def cPl (F : Nat → Nat → Prop) (S : Nat) : List Nat → Nat → Prop
  | [], _ => True
  | s :: ws, w => ∃ p, p < S ∧ p ≠ s ∧ w / 2 ^ p % 2 = 0 ∧ F s p ∧ cPl F S ws (orb w p)
noncomputable def wsR (W : Nat → Prop) : Nat → Nat → List Nat
  | 0, _ => []
  | m + 1, s => cit (W s) (s :: wsR W m (s + 1)) (wsR W m (s + 1))
theorem cPn_l {W : Nat → Prop} {F : Nat → Nat → Prop} {S : Nat} : ∀ m s w, cPn W F S m s w ↔ cPl F S (wsR W m s) w
  | 0, s, w => Iff.rfl
  | m + 1, s, w => by
    rw [cPn_s]
    unfold wsR
    by_cases h : W s
    · rw [cit_T h]
      refine ⟨fun z => z.elim (fun ⟨_, p, p1, p2, p3, p4, p5⟩ => ⟨p, p1, p2, p3, p4, (cPn_l m _ _).mp p5⟩) (fun y => absurd h y.1), fun ⟨p, p1, p2, p3, p4, p5⟩ => Or.inl ⟨h, p, p1, p2, p3, p4, (cPn_l m _ _).mpr p5⟩⟩
    · rw [cit_F h]
      exact ⟨fun z => z.elim (fun y => absurd y.1 h) (fun y => (cPn_l m _ _).mp y.2), fun z => Or.inr ⟨h, (cPn_l m _ _).mpr z⟩⟩
theorem cPl_ps {F : Nat → Nat → Prop} {S : Nat} (hS : S ≤ 4) : ∀ (ws : List Nat) (w : Nat), w < 16 → (cPl F S ws w ↔ ∃ ps : List Nat, ps.length = ws.length ∧ ps.Pairwise (fun x y => x ≠ y) ∧ ∀ k (h : k < ps.length) (h' : k < ws.length), ps[k]'h < S ∧ ps[k]'h ≠ ws[k]'h' ∧ w / 2 ^ (ps[k]'h) % 2 = 0 ∧ F (ws[k]'h') (ps[k]'h))
  | [], w, _ => ⟨fun _ => ⟨[], rfl, List.Pairwise.nil, fun k h => absurd h (Nat.not_lt_zero k)⟩, fun _ => trivial⟩
  | s :: ws, w, hw => by
    refine ⟨fun ⟨p, p1, p2, p3, p4, p5⟩ => ?_, fun ⟨ps, h1, h2, h3⟩ => ?_⟩
    · have ho := orb_lt w hw p (by omega)
      obtain ⟨ps, h1, h2, h3⟩ := (cPl_ps hS ws (orb w p) ho.1).mp p5
      refine ⟨p :: ps, by simp [h1], List.Pairwise.cons (fun q hq => ?_) h2, fun k hk hk' => ?_⟩
      · obtain ⟨k, hk, rfl⟩ := List.getElem_of_mem hq
        have h4 := h3 k hk (by omega)
        intro e
        have := (ho.2 (ps[k]'hk) (by omega)).mpr (Or.inl e.symm)
        omega
      · cases k with
        | zero => exact ⟨p1, p2, p3, p4⟩
        | succ k =>
          simp only [List.length_cons] at hk hk'
          obtain ⟨a1, a2, a3, a4⟩ := h3 k (by omega) (by omega)
          refine ⟨a1, a2, ?_, a4⟩
          have := (ho.2 (ps[k]'(by omega)) (by omega))
          simp only [List.getElem_cons_succ]
          have hb := Nat.mod_lt (w / 2 ^ (ps[k]'(by omega))) (show 0 < 2 by decide)
          by_cases z : w / 2 ^ (ps[k]'(by omega)) % 2 = 1
          · have := this.mpr (Or.inr z)
            omega
          · omega
    · cases ps with
      | nil => simp at h1
      | cons p ps =>
        obtain ⟨a1, a2, a3, a4⟩ := h3 0 (by simp) (by simp)
        simp only [List.getElem_cons_zero] at a1 a2 a3 a4
        have ho := orb_lt w hw p (by omega)
        refine ⟨p, a1, a2, a3, a4, (cPl_ps hS ws (orb w p) ho.1).mpr ⟨ps, by simpa using h1, (List.pairwise_cons.mp h2).2, fun k hk hk' => ?_⟩⟩
        obtain ⟨b1, b2, b3, b4⟩ := h3 (k + 1) (by simp; omega) (by simp; omega)
        simp only [List.getElem_cons_succ] at b1 b2 b3 b4
        refine ⟨b1, b2, ?_, b4⟩
        have hne : ps[k]'hk ≠ p := fun e => (List.pairwise_cons.mp h2).1 _ (List.getElem_mem hk) e.symm
        have h5 := ho.2 (ps[k]'hk) (by omega)
        have hb := Nat.mod_lt (orb w p / 2 ^ (ps[k]'hk)) (show 0 < 2 by decide)
        by_cases z : orb w p / 2 ^ (ps[k]'hk) % 2 = 1
        · rcases h5.mp z with y | y
          · exact absurd y hne
          · omega
        · omega
theorem ps_code : ∀ ps : List Nat, (∀ p ∈ ps, p < 4) → ∃ code, code < 4 ^ ps.length ∧ ∀ k (h : k < ps.length), dig code k = ps[k]'h
  | [], _ => ⟨0, by simp, fun k h => absurd h (Nat.not_lt_zero k)⟩
  | p :: ps, hp => by
    obtain ⟨code, c1, c2⟩ := ps_code ps (fun q hq => hp q (List.mem_cons_of_mem _ hq))
    have hp4 := hp p (by simp)
    refine ⟨p + 4 * code, ?_, fun k hk => ?_⟩
    · rw [List.length_cons, Nat.pow_succ]
      omega
    · cases k with
      | zero =>
        unfold dig
        simp only [List.getElem_cons_zero, Nat.pow_zero, Nat.div_one]
        omega
      | succ k =>
        simp only [List.getElem_cons_succ]
        rw [← c2 k (by simpa using hk)]
        unfold dig
        rw [Nat.pow_succ, Nat.mul_comm (4 ^ k) 4, ← Nat.div_div_eq_div_mul]
        congr 1
        congr 1
        omega
