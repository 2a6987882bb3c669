section
/-! how large what comes in a row may be -/
def vsz : Jvm.Term → Nat
  | .add a b => 1 + vsz a + vsz b
  | .sub a b => 1 + vsz a + vsz b
  | .mul a b => 1 + vsz a + vsz b
  | .div a b => 1 + vsz a + vsz b
  | .length a => 1 + vsz a
  | .sum a => 1 + vsz a
  | _ => 1
theorem vsz_nd2 (k : Nat) (a b : Jvm.Term) : vsz (vnd k a (some b)) = 1 + vsz a + vsz b := by
  unfold vnd
  dsimp only
  repeat' split
  all_goals rfl
theorem vsz_nd1 (k : Nat) (a : Jvm.Term) : vsz (vnd k a none) = 1 + vsz a := by
  unfold vnd
  dsimp only
  repeat' split
  all_goals rfl
theorem vsz_tvl {V AG : Nat → Prop} {K F S : Nat → Int32} (hV : ∀ t, V t → t < 100000 ∧ tOk V AG K F S t) : ∀ t, V t → vsz (tvl K F S t) = tsz K F S t := by
  intro t
  induction t using Nat.strongRecOn with
  | _ t ih =>
    intro ht
    rcases (hV t ht).2 with ⟨k, h3, hk, -, -⟩ | ⟨k, x, y, h3, hk, hx, hy, h4, h5, h6, h7⟩ | ⟨k, x, h3, hk, hx, hy, h4, h6⟩
    · unfold tvl tsz
      rw [tA_0 hk h3, tA_0 hk h3]
      rfl
    · have ix := ih x h4 h6
      have iy := ih y h5 h7
      unfold tvl tsz at ix iy ⊢
      rw [tA_2 hV hk hx hy (by omega) (by omega) h4 h5 h6 h7, tA_2 hV hk hx hy (by omega) (by omega) h4 h5 h6 h7, vsz_nd2, ix, iy]
      rfl
    · have ix := ih x h4 h6
      unfold tvl tsz at ix ⊢
      rw [tA_1 hV hk hx hy (by omega) (by omega) h4 h6, tA_1 hV hk hx hy (by omega) (by omega) h4 h6, vsz_nd1, ix]
      rfl
theorem vsz_tin {σ : kS} {n b s : Nat} (h : mTb σ n b) : ∀ t, t < n → mSt σ n s t → vsz (tin σ s t) ≤ 24 * tsz (σ 233) (σ 234) (σ 235) t := by
  have hV := mTb_num h
  have h24 := h.2.2.2.2.2.2.2.2.2
  intro t
  induction t using Nat.strongRecOn with
  | _ t ih =>
    intro ht hS
    rcases (hV t ht).2 with ⟨k, h3, hk, -, -⟩ | ⟨k, x, y, h3, hk, hx, hy, h4, h5, h6, h7⟩ | ⟨k, x, h3, hk, hx, hy, h4, h6⟩
    · have e1 : tsz (σ 233) (σ 234) (σ 235) t = 1 := by
        unfold tsz
        rw [tA_0 hk h3]
      have e2 : tin σ s t = if σ 233 t = nI 3 then tvl (σ 233) (σ 234) (σ 235) (mVl σ s t) else .arg t := tA_0 hk h3
      rw [e1, e2]
      split
      · next e =>
        have e3 : tvs (σ 233) (σ 234) (σ 235) t = [t] := by
          unfold tvs
          rw [tA_0 hk h3, if_pos e]
        obtain ⟨p, z, z1, z2, z3, z4, -⟩ := hS t (by rw [e3]; simp)
        have hn := h.1
        have : mVl σ s t = z := by
          unfold mVl
          rw [z3, fN_nI (by omega), z4, fN_nI (by omega)]
        rw [this, vsz_tvl hV z z2]
        have := h24 z z2
        omega
      · show 1 ≤ _
        omega
    · have e1 : tsz (σ 233) (σ 234) (σ 235) t = 1 + tsz (σ 233) (σ 234) (σ 235) x + tsz (σ 233) (σ 234) (σ 235) y := by
        unfold tsz
        rw [tA_2 hV hk hx hy (by omega) (by omega) h4 h5 h6 h7]
        rfl
      have e2 : tin σ s t = vnd k (tin σ s x) (some (tin σ s y)) := tA_2 hV hk hx hy (by omega) (by omega) h4 h5 h6 h7
      have e3 : tvs (σ 233) (σ 234) (σ 235) t = tvs (σ 233) (σ 234) (σ 235) x ++ tvs (σ 233) (σ 234) (σ 235) y := by
        unfold tvs
        rw [tA_2 hV hk hx hy (by omega) (by omega) h4 h5 h6 h7]
        rfl
      have ix := ih x h4 h6 (fun u hu => hS u (by rw [e3]; exact List.mem_append_left _ hu))
      have iy := ih y h5 h7 (fun u hu => hS u (by rw [e3]; exact List.mem_append_right _ hu))
      rw [e1, e2, vsz_nd2]
      omega
    · have e1 : tsz (σ 233) (σ 234) (σ 235) t = 1 + tsz (σ 233) (σ 234) (σ 235) x := by
        unfold tsz
        rw [tA_1 hV hk hx hy (by omega) (by omega) h4 h6]
        rfl
      have e2 : tin σ s t = vnd k (tin σ s x) none := tA_1 hV hk hx hy (by omega) (by omega) h4 h6
      have e3 : tvs (σ 233) (σ 234) (σ 235) t = tvs (σ 233) (σ 234) (σ 235) x := by
        unfold tvs
        rw [tA_1 hV hk hx hy (by omega) (by omega) h4 h6]
        exact List.append_nil _
      have ix := ih x h4 h6 (fun u hu => hS u (by rw [e3]; exact hu))
      rw [e1, e2, vsz_nd1]
      omega
/-- all of a row of trees are at most so large -/
def trB (l : trT) : Prop := ∀ q ∈ l, vsz q.1 ≤ 576
theorem trB_A {l : trT} {g : Jvm.Term} {w p : Int32} (h : trB l) (hg : vsz g ≤ 576) : trB (trA l g w p) := by
  unfold trA cit
  split
  · exact h
  · intro q hq
    rcases List.mem_append.mp hq with hq | hq
    · exact h q hq
    · rw [List.mem_singleton] at hq
      subst hq
      exact hg
theorem trB_K {A : Nat → Prop} {H : Nat → Int32} {l : trT} {p : Nat} (h : trB l) : trB (trK A H l p) := by
  unfold trK
  split
  · next a b c e =>
    have := h _ (List.mem_of_getElem? e)
    have e2 : vsz (Jvm.Term.add a b) = 1 + vsz a + vsz b := rfl
    rw [e2] at this
    exact trB_A (trB_A h (by omega)) (by omega)
  · next a b c e =>
    have := h _ (List.mem_of_getElem? e)
    have e2 : vsz (Jvm.Term.sub a b) = 1 + vsz a + vsz b := rfl
    rw [e2] at this
    unfold cit
    split
    · exact trB_A h (by omega)
    · exact h
  · next a b c e =>
    have := h _ (List.mem_of_getElem? e)
    have e2 : vsz (Jvm.Term.mul a b) = 1 + vsz a + vsz b := rfl
    rw [e2] at this
    unfold cit
    split
    · exact trB_A h (by omega)
    · exact h
  · next a b c e =>
    have := h _ (List.mem_of_getElem? e)
    have e2 : vsz (Jvm.Term.div a b) = 1 + vsz a + vsz b := rfl
    rw [e2] at this
    exact trB_A h (by omega)
  · exact h
theorem trB_P {A : Nat → Prop} {H : Nat → Int32} : ∀ (f p : Nat) (l : trT), trB l → trB (trP A H f p l)
  | 0, _, _, h => h
  | f + 1, p, l, h => by
    unfold trP
    split
    · exact trB_P f _ _ (trB_K h)
    · exact h
theorem trB_E {A : Nat → Prop} {H : Nat → Int32} : ∀ (f : Nat) (l : trT), trB l → trB (trE A H f l)
  | 0, _, h => h
  | f + 1, l, h => by
    unfold trE
    split
    · exact trB_E f _ (trB_P _ _ _ h)
    · exact trB_P _ _ _ h
theorem trB_Kn {σ : kS} {n b : Nat} {kl : List Nat} (h : mTb σ n b) (hK : mKn σ n kl) : trB (trKn σ kl) := by
  have hV := mTb_num h
  have h24 := h.2.2.2.2.2.2.2.2.2
  have key : ∀ (kl : List Nat) (l : trT), (∀ t ∈ kl, t < n) → trB l → trB (kl.foldl (fun l t => trA l (tvl (σ 233) (σ 234) (σ 235) t) (nI 0) (-6)) l) := by
    intro kl
    induction kl with
    | nil => exact fun l _ hl => hl
    | cons a kl ih =>
      intro l hk hl
      have ha := hk a List.mem_cons_self
      refine ih _ (fun t ht => hk t (List.mem_cons_of_mem _ ht)) (trB_A hl ?_)
      rw [vsz_tvl hV a ha]
      have := h24 a ha
      omega
  exact key kl [] (fun t ht => (hK.2.2.2 t ht).1) (fun q hq => (by cases hq))
theorem trB_Sn {σ : kS} {n b R S : Nat} {ds : List Nat} {tr : trT} (h : mTb σ n b) (hR : mRo σ n R) (hS : mRn σ n R S ds) (ht : trB tr) : ∀ k, k ≤ ds.length → trB (trSn σ ds tr k)
  | 0, _ => ht
  | k + 1, hk => by
    have hn := h.1
    have hR4 := hR.1
    have ih := trB_Sn h hR hS ht k (by omega)
    have hkl : k < ds.length := hk
    have hgd : ds.getD k 0 = ds[k] := by rw [List.getD_eq_getElem?_getD, List.getElem?_eq_getElem hkl]; rfl
    obtain ⟨r, r1, r2, r3, r4, r5, r6, -⟩ := hS.2.2.2 _ (hS.2.2.1 _ (List.getElem_mem hkl))
    have hcnt : (ds.take k).count ds[k] < ds.count ds[k] := by
      have := count_take_le ds ds[k] (k + 1)
      rw [List.take_succ_eq_append_getElem hkl, List.count_append] at this
      simp at this
      omega
    have hmev2 : mEv σ ds[k] ((ds.take k).count ds[k]) = 6 * r + (ds.take k).count ds[k] := by
      unfold mEv
      rw [r2, fN_nI (by omega)]
    obtain ⟨t, t1, t2, -⟩ := hR.2.2.2.2.2 r ((ds.take k).count ds[k]) r1 (by omega)
    have hst := r6 _ hcnt
    rw [trSn, hgd, hmev2]
    rw [t2, fN_nI (by omega)] at hst ⊢
    unfold cit
    split
    · refine trB_A ih ?_
      have h1 := vsz_tin h t t1 hst
      have h2 := h.2.2.2.2.2.2.2.2.2 t t1
      omega
    · exact ih
theorem trB_run {σ : kS} {n b R S : Nat} {kl ds : List Nat} (h : mTb σ n b) (hR : mRo σ n R) (hK : mKn σ n kl) (hS : mRn σ n R S ds) : trB (trRun σ kl ds) := trB_E _ _ (trB_Sn h hR hS (trB_Kn h hK) _ (Nat.le_refl _))
/-- .. so the TERMS of the row are -/
theorem rwM_sz {σ ρ : kS} {n b R S n' b' : Nat} {kl ds : List Nat} {l : rwT} (h : mTb σ n b) (hR : mRo σ n R) (hK : mKn σ n kl) (hS : mRn σ n R S ds) (hT : mTb ρ n' b') (e : rwM ρ l = trRun σ kl ds) {t : Nat} (hi : rwI l t) (hv : mv n' b' t) : tsz (ρ 233) (ρ 234) (ρ 235) t ≤ 576 := by
  have hb := trB_run h hR hK hS
  rw [← e] at hb
  obtain ⟨q, hq, rfl⟩ := hi
  have := hb _ (List.mem_map.mpr ⟨q, hq, rfl⟩)
  rw [vsz_tvl hT.2.2.2.2.2.1.1 _ hv] at this
  exact this
end
section
/-! the reference: row -/
set_option maxRecDepth 100000 in
set_option maxHeartbeats 4000000 in
theorem mp_row (L : Nat) (xs : Nat → Int32) (d : Nat) (σ : kS) (n b R S C : Nat) (kl : List Nat) (x w : Int32) (h : mI σ n b R S C kl) : kXM kT L xs (d + 8) 204 [.ref 232, .int x, .int w] σ (fun r σ' => (∃ x, r = some (.int x)) ∧ mAfter σ σ' R) := by
  have h0 := h
  obtain ⟨h1, h2, h3, h4, h5, h6, h7⟩ := h
  have hn := h1.1
  unfold kXM
  repeat refine kX_one rfl ?_
  refine kX_cal (mr_in L xs (d + 7) σ _ _ _) rfl (Or.inr rfl) rfl rfl rfl (fun r1 σ1 q1 => ?_)
  obtain ⟨rfl, rfl⟩ := q1
  rw [isB_dec]
  repeat refine kX_one rfl ?_
  refine kX_if (fun q => ?_) (fun q => ?_)
  · obtain ⟨k, -, k2, rfl⟩ := in_R (lo := 0) (hi := 4) (by omega) (by omega) (isB_ne.mp (qne q)).1 (isB_ne.mp (qne q)).2
    rcases h6 with h6 | ⟨h6, ds, g1, g2, g3⟩
    · iterate 2 (refine kX_one rfl ?_)
      refine kX_top (h6) ?_
      repeat refine kX_one rfl ?_
      refine kX_ret (i := .ireturn) (len := 1) rfl (Or.inr rfl) rfl (⟨⟨_, rfl⟩, mAfter_same h0⟩)
    · iterate 2 (refine kX_one rfl ?_)
      refine kX_top (h6) ?_
      repeat refine kX_one rfl ?_
      refine kX_cal (mr_row L xs d σ n b R S C kl ds h0 h6 g1 g2 g3) rfl (Or.inr rfl) rfl rfl rfl (fun r1 σ1 q1 => ?_)
      obtain ⟨rfl, f1, f2, b', l, f3, f4, f5, f6, f7⟩ := q1
      have hI1 := (mI_there h0 h6 g1 g2 f1 f2 f3 f4 f5 f6 f7).1
      have hA1 : mAfter σ σ1 R := ⟨mLow_fr f1, n, b', S, C, kl, hI1⟩
      have hlr : l.length ≤ 1000 := by
        rw [← f5.2.2.2.2]
        exact cnt_le _ _
      repeat refine kX_one rfl ?_
      refine kX_cal (mr_in L xs (d + 7) σ1 _ _ _) rfl (Or.inr rfl) rfl rfl rfl (fun r1 σ1 q1 => ?_)
      obtain ⟨rfl, rfl⟩ := q1
      rw [isB_dec]
      repeat refine kX_one rfl ?_
      refine kX_if (fun q => ?_) (fun q => ?_)
      · obtain ⟨i, hi, rfl⟩ : isN x l.length := (in_N (by omega)).mp (by rw [← f5.1]; exact isB_ne.mp (qne q))
        obtain ⟨e1, -, -⟩ := f5.2.1 i hi
        have hv : mvG σ1 n b' (l[i]).1 := f5.2.2.1 _ ⟨l[i], List.getElem_mem hi, rfl⟩
        have hz := rwM_sz h1 h2 h4 g1 f4 f7 ⟨l[i], List.getElem_mem hi, rfl⟩ hv.1
        generalize (l[i]).1 = t at e1 hv hz
        have ht : t < 1000 := by
          have := hv.1
          unfold mv at this
          omega
        iterate 3 (refine kX_one rfl ?_)
        refine kX_ialdV rfl rfl (by decide) (i) (by first | rfl | decide) (by omega) (e1) ?_
        have : k = 0 ∨ k = 1 ∨ k = 2 ∨ k = 3 ∨ k = 4 := by omega
        rcases this with rfl | rfl | rfl | rfl | rfl
        · repeat refine kX_one rfl ?_
          refine kX_ialdN rfl rfl (by decide) (t) (by first | rfl | decide) (ht) ?_
          refine kX_ret (i := .ireturn) (len := 1) rfl (Or.inr rfl) rfl (⟨⟨_, rfl⟩, hA1⟩)
        · repeat refine kX_one rfl ?_
          refine kX_ialdN rfl rfl (by decide) (t) (by first | rfl | decide) (ht) ?_
          refine kX_ret (i := .ireturn) (len := 1) rfl (Or.inr rfl) rfl (⟨⟨_, rfl⟩, hA1⟩)
        · repeat refine kX_one rfl ?_
          refine kX_ialdN rfl rfl (by decide) (i) (by first | rfl | decide) (by omega) ?_
          refine kX_ret (i := .ireturn) (len := 1) rfl (Or.inr rfl) rfl (⟨⟨_, rfl⟩, hA1⟩)
        · repeat refine kX_one rfl ?_
          refine kX_ialdN rfl rfl (by decide) (i) (by first | rfl | decide) (by omega) ?_
          refine kX_ret (i := .ireturn) (len := 1) rfl (Or.inr rfl) rfl (⟨⟨_, rfl⟩, hA1⟩)
        · repeat refine kX_one rfl ?_
          refine kX_if (fun q => ?_) (fun q => ?_)
          · have q := qge q t 200
            have hvt : 200 ≤ t ∧ t < b' := by
              have := hv.1
              unfold mv at this
              omega
            iterate 3 (refine kX_one rfl ?_)
            refine kX_ialdV rfl rfl (by decide) (t) (by first | rfl | decide) (ht) (f4.2.2.2.2.2.1.2.1 t hv.1) ?_
            repeat refine kX_one rfl ?_
            refine kX_if (fun q2 => ?_) (fun q2 => ?_)
            · have h24 : tsz (σ1 233) (σ1 234) (σ1 235) t ≤ 24 := by
                exact qle q2 _ 24
              repeat refine kX_one rfl ?_
              refine kX_cal (mr_lasting L xs (d + 3) σ1 n b' R S C kl t hI1 f3 hvt.1 hvt.2 h24) rfl (Or.inr rfl) rfl rfl rfl (fun r1 σ2 q1 => ?_)
              obtain ⟨⟨y, rfl⟩, hA2⟩ := q1
              refine kX_ret (i := .ireturn) (len := 1) rfl (Or.inr rfl) rfl (⟨⟨_, rfl⟩, mLow_trans hA1.1 hA2.1, hA2.2⟩)
            · repeat refine kX_one rfl ?_
              refine kX_ret (i := .ireturn) (len := 1) rfl (Or.inr rfl) rfl (⟨⟨_, rfl⟩, hA1⟩)
          · repeat refine kX_one rfl ?_
            refine kX_ret (i := .ireturn) (len := 1) rfl (Or.inr rfl) rfl (⟨⟨_, rfl⟩, hA1⟩)
      · repeat refine kX_one rfl ?_
        refine kX_ret (i := .ireturn) (len := 1) rfl (Or.inr rfl) rfl (⟨⟨_, rfl⟩, hA1⟩)
  · repeat refine kX_one rfl ?_
    refine kX_ret (i := .ireturn) (len := 1) rfl (Or.inr rfl) rfl (⟨⟨_, rfl⟩, mAfter_same h0⟩)
end
section
/-! the reference: takeState, isThere -/
theorem ix24 (i s k : Nat) : (Int8.ofInt 24).toInt32 * nI i + (Int8.ofInt 6).toInt32 * nI s + nI k = nI (24 * i + 6 * s + k) := by
  rw [show (Int8.ofInt 24).toInt32 = nI 24 from rfl, show (Int8.ofInt 6).toInt32 = nI 6 from rfl, pk_mul, pk_mul, nI_add, nI_add]
set_option maxRecDepth 100000 in
set_option maxHeartbeats 4000000 in
theorem mr_takeState (L : Nat) (xs : Nat → Int32) (d : Nat) (σ : kS) (S i : Nat) (hS : σ 232 27 = nI S) (hS4 : S ≤ 4) (hi : i < 600) : kXM kT L xs (d + 1) 210 [.ref 232, .int (nI i)] σ (fun r σ' => r = none ∧ ∃ D V, σ' = va_up (va_up σ 264 D) 265 V ∧ (∀ s, s < S → D s = σ 284 (4 * i + s)) ∧ ∀ s k, s < S → k < 6 → V (6 * s + k) = σ 285 (24 * i + 6 * s + k)) := by
  unfold kXM
  iterate 2 (refine kX_one rfl ?_)
  have loopA := kX_while (T := kT) (L := L) (xs := xs) (d := d + 1) (mi := 210) (pc := 2) (Q := fun r σ' => r = none ∧ ∃ D V, σ' = va_up (va_up σ 264 D) 265 V ∧ (∀ s, s < S → D s = σ 284 (4 * i + s)) ∧ ∀ s k, s < S → k < 6 → V (6 * s + k) = σ 285 (24 * i + 6 * s + k))
    (fun q : Nat × (Nat → Int32) × (Nat → Int32) => [(2, .int (nI q.1)), (0, .ref 232), (1, .int (nI i))]) (fun q => va_up (va_up σ 264 q.2.1) 265 q.2.2) (fun q => q.1 ≤ S ∧ (∀ s, s < q.1 → q.2.1 s = σ 284 (4 * i + s)) ∧ (∀ s k, s < q.1 → k < 6 → q.2.2 (6 * s + k) = σ 285 (24 * i + 6 * s + k))) (fun q => S - q.1) ?_ (0, σ 264, σ 265) ⟨Nat.zero_le _, fun s hs => absurd hs (Nat.not_lt_zero s), fun s k hs => absurd hs (Nat.not_lt_zero s)⟩
  · refine kX_to _ _ rfl rfl rfl ?_ loopA
    funext c; unfold  va_up; repeat' split
    all_goals first | rfl | omega | (subst_vars; rfl) | (funext j; unfold upd; repeat' split; all_goals first | rfl | omega | (subst_vars; rfl))
  · rintro ⟨s, D, V⟩ ⟨i1, i2, i3⟩ ih
    dsimp only at i1 i2 i3 ih ⊢
    have loopB : s < S → ∀ q : Nat × (Nat → Int32), (q.1 ≤ 6 ∧ (∀ s' k, s' < s → k < 6 → q.2 (6 * s' + k) = σ 285 (24 * i + 6 * s' + k)) ∧ ∀ k, k < q.1 → q.2 (6 * s + k) = σ 285 (24 * i + 6 * s + k)) → kX kT L xs (d + 1) 210 28 [(3, .int (nI q.1)), (2, .int (nI s)), (0, .ref 232), (1, .int (nI i))] [] (va_up (va_up σ 264 (upd D s (σ 284 (4 * i + s)))) 265 q.2) (fun r σ' => r = none ∧ ∃ D V, σ' = va_up (va_up σ 264 D) 265 V ∧ (∀ s, s < S → D s = σ 284 (4 * i + s)) ∧ ∀ s k, s < S → k < 6 → V (6 * s + k) = σ 285 (24 * i + 6 * s + k)) := by
      intro hsS
      refine kX_while (fun q : Nat × (Nat → Int32) => [(3, .int (nI q.1)), (2, .int (nI s)), (0, .ref 232), (1, .int (nI i))]) (fun q => va_up (va_up σ 264 (upd D s (σ 284 (4 * i + s)))) 265 q.2) _ (fun q => 6 - q.1) ?_
      rintro ⟨k, V2⟩ ⟨j1, j2, j3⟩ ih2
      dsimp only at j1 j2 j3 ih2 ⊢
      repeat refine kX_one rfl ?_
      refine kX_if (fun q2 => ?_) (fun q2 => ?_)
      · have q2 := qge q2 k 6
        obtain rfl : k = 6 := by omega
        iterate 2 (refine kX_one rfl ?_)
        have := ih (s + 1, upd D s (σ 284 (4 * i + s)), V2) ⟨by simp only; omega, fun s' hs' => by
          simp only at hs' ⊢
          by_cases e : s' = s
          · subst e
            exact pk_us
          · rw [pk_un e]
            exact i2 s' (by omega), fun s' k hs' hk => by
          simp only at hs' ⊢
          by_cases e : s' = s
          · subst e
            exact j3 k hk
          · exact j2 s' k (by omega) hk⟩ (by simp only; omega)
        rw [← nI_1] at this
        exact kX_lv _ rfl rfl rfl this
      · have q2 := qgeF q2 k 6
        repeat refine kX_one rfl ?_
        refine kX_ialdN rfl rfl (by decide) (24 * i + 6 * s + k) (ix24 i s k) (by omega) ?_
        refine kX_iastN rfl rfl (by decide) (6 * s + k) (ix6 s k) (by omega) ?_
        iterate 2 (refine kX_one rfl ?_)
        have := ih2 (k + 1, upd V2 (6 * s + k) (σ 285 (24 * i + 6 * s + k))) ⟨by simp only; omega, fun s' k' hs' hk' => by
          simp only
          rw [pk_un (by omega)]
          exact j2 s' k' hs' hk', fun k' hk' => by
          simp only at hk' ⊢
          by_cases e : k' = k
          · subst e
            exact pk_us
          · rw [pk_un (by omega)]
            exact j3 k' (by omega)⟩ (by simp only; omega)
        dsimp only at this
        rw [← nI_1] at this
        refine kX_to _ _ rfl rfl rfl ?_ this
        funext c; unfold  va_up; repeat' split
        all_goals first | rfl | omega | (subst_vars; rfl) | (funext j; unfold upd; repeat' split; all_goals first | rfl | omega | (subst_vars; rfl))
    iterate 3 (refine kX_one rfl ?_)
    refine kX_top (hS) ?_
    repeat refine kX_one rfl ?_
    refine kX_if (fun q => ?_) (fun q => ?_)
    · have q := qge q s S
      obtain rfl : s = S := by omega
      refine kX_ret (i := .return_) (len := 1) rfl (Or.inr rfl) rfl (⟨rfl, D, V, rfl, i2, i3⟩)
    · have q := qgeF q s S
      repeat refine kX_one rfl ?_
      refine kX_ialdN rfl rfl (by decide) (4 * i + s) (ix4 i s) (by omega) ?_
      refine kX_iastN rfl rfl (by decide) (s) (by first | rfl | decide) (by omega) ?_
      iterate 2 (refine kX_one rfl ?_)
      have := loopB q (0, V) ⟨Nat.zero_le _, i3, fun k hk => absurd hk (Nat.not_lt_zero k)⟩
      refine kX_to _ _ rfl rfl rfl ?_ this
      funext c; unfold  va_up; repeat' split
      all_goals first | rfl | omega | (subst_vars; rfl) | (funext j; unfold upd; repeat' split; all_goals first | rfl | omega | (subst_vars; rfl))
set_option maxRecDepth 100000 in
set_option maxHeartbeats 4000000 in
theorem mr_isThere (L : Nat) (xs : Nat → Int32) (d : Nat) (σ : kS) (S N : Nat) (hS : σ 232 27 = nI S) (hS4 : S ≤ 4) (hN : σ 232 69 = nI N) (hN6 : N ≤ 600) : kXM kT L xs (d + 1) 212 [.ref 232] σ (fun r σ' => (∃ P : Prop, r = some (.int (isB P))) ∧ σ = σ') := by
  unfold kXM
  have k127 : ∀ (P : Prop) lv, nk lv = true → ([(1, Value.int (isB P))] : jL).map (fun q => jl lv q.1) = ([(1, Value.int (isB P))] : jL).map (fun q => some q.2) → kX kT L xs (d + 1) 212 127 lv [] σ (fun r σ' => (∃ P : Prop, r = some (.int (isB P))) ∧ σ = σ') := by
    intro P lv hk hlv
    refine kX_lv _ hk rfl hlv ?_
    repeat refine kX_one rfl ?_
    refine kX_ret (i := .ireturn) (len := 1) rfl (Or.inr rfl) (jend_b rfl (isB_01 P)) (⟨⟨P, rfl⟩, rfl⟩)
  have loopA : ∀ q : Nat × Prop, q.1 ≤ N → kX kT L xs (d + 1) 212 4 [(2, .int (nI q.1)), (1, .int (isB q.2)), (0, .ref 232)] [] σ (fun r σ' => (∃ P : Prop, r = some (.int (isB P))) ∧ σ = σ') := by
    refine kX_while (fun q : Nat × Prop => [(2, .int (nI q.1)), (1, .int (isB q.2)), (0, .ref 232)]) (fun _ => σ) (fun q => q.1 ≤ N) (fun q => N - q.1) ?_
    rintro ⟨i, P⟩ i1 ih
    dsimp only at i1 ih ⊢
    have k121 : i < N → ∀ (P : Prop) lv, nk lv = true → ([(2, .int (nI i)), (1, Value.int (isB P)), (0, .ref 232)] : jL).map (fun q => jl lv q.1) = ([(2, .int (nI i)), (1, Value.int (isB P)), (0, .ref 232)] : jL).map (fun q => some q.2) → kX kT L xs (d + 1) 212 121 lv [] σ (fun r σ' => (∃ P : Prop, r = some (.int (isB P))) ∧ σ = σ') := by
      intro hiN P lv hk hlv
      refine kX_lv _ hk rfl hlv ?_
      iterate 2 (refine kX_one rfl ?_)
      have := ih (i + 1, P) hiN (by simp only; omega)
      dsimp only at this
      rw [← nI_1] at this
      exact kX_lv _ rfl rfl rfl this
    have loopB : i < N → ∀ q : Nat × Prop, q.1 ≤ S → kX kT L xs (d + 1) 212 20 [(3, .int (nI q.1)), (2, .int (nI i)), (1, .int (isB q.2)), (0, .ref 232)] [] σ (fun r σ' => (∃ P : Prop, r = some (.int (isB P))) ∧ σ = σ') := by
      intro hiN
      refine kX_while (fun q : Nat × Prop => [(3, .int (nI q.1)), (2, .int (nI i)), (1, .int (isB q.2)), (0, .ref 232)]) (fun _ => σ) (fun q => q.1 ≤ S) (fun q => S - q.1) ?_
      rintro ⟨s, P⟩ j1 ih2
      dsimp only at j1 ih2 ⊢
      have k115 : s < S → ∀ (P : Prop) lv, nk lv = true → ([(3, .int (nI s)), (2, .int (nI i)), (1, Value.int (isB P)), (0, .ref 232)] : jL).map (fun q => jl lv q.1) = ([(3, .int (nI s)), (2, .int (nI i)), (1, Value.int (isB P)), (0, .ref 232)] : jL).map (fun q => some q.2) → kX kT L xs (d + 1) 212 115 lv [] σ (fun r σ' => (∃ P : Prop, r = some (.int (isB P))) ∧ σ = σ') := by
        intro hsS P lv hk hlv
        refine kX_lv _ hk rfl hlv ?_
        iterate 2 (refine kX_one rfl ?_)
        have := ih2 (s + 1, P) hsS (by simp only; omega)
        dsimp only at this
        rw [← nI_1] at this
        exact kX_lv _ rfl rfl rfl this
      have loopC : s < S → ∀ q : Nat × Prop, q.1 ≤ 6 → kX kT L xs (d + 1) 212 60 [(4, .int (nI q.1)), (3, .int (nI s)), (2, .int (nI i)), (1, .int (isB q.2)), (0, .ref 232)] [] σ (fun r σ' => (∃ P : Prop, r = some (.int (isB P))) ∧ σ = σ') := by
        intro hsS
        refine kX_while (fun q : Nat × Prop => [(4, .int (nI q.1)), (3, .int (nI s)), (2, .int (nI i)), (1, .int (isB q.2)), (0, .ref 232)]) (fun _ => σ) (fun q => q.1 ≤ 6) (fun q => 6 - q.1) ?_
        rintro ⟨k, P⟩ l1 ih3
        dsimp only at l1 ih3 ⊢
        have k108 : k < 6 → ∀ (P' : Prop), kX kT L xs (d + 1) 212 108 [(4, .int (nI k)), (3, .int (nI s)), (2, .int (nI i)), (1, .int (isB P)), (0, .ref 232)] [.int (isB P')] σ (fun r σ' => (∃ P : Prop, r = some (.int (isB P))) ∧ σ = σ') := by
          intro hk6 P'
          iterate 3 (refine kX_one rfl ?_)
          have := ih3 (k + 1, P') hk6 (by simp only; omega)
          dsimp only at this
          rw [← nI_1] at this
          exact kX_lv _ rfl rfl rfl this
        repeat refine kX_one rfl ?_
        refine kX_if (fun q => ?_) (fun q => ?_)
        · exact k115 hsS P _ rfl rfl
        · have q := qgeF q k 6
          repeat refine kX_one rfl ?_
          refine kX_if (fun q2 => ?_) (fun q2 => ?_)
          · exact k115 hsS P _ rfl rfl
          · repeat refine kX_one rfl ?_
            refine kX_ialdN rfl rfl (by decide) (24 * i + 6 * s + k) (ix24 i s k) (by omega) ?_
            repeat refine kX_one rfl ?_
            refine kX_ialdN rfl rfl (by decide) (6 * s + k) (ix6 s k) (by omega) ?_
            repeat refine kX_one rfl ?_
            refine kX_if (fun q3 => ?_) (fun q3 => ?_)
            · iterate 1 (refine kX_one rfl ?_)
              have := k108 q False
              rw [isB_F (fun z => z)] at this
              exact this
            · iterate 2 (refine kX_one rfl ?_)
              have := k108 q True
              rw [isB_T trivial] at this
              exact this
      have k56 : s < S → ∀ (P' : Prop), kX kT L xs (d + 1) 212 56 [(3, .int (nI s)), (2, .int (nI i)), (1, .int (isB P)), (0, .ref 232)] [.int (isB P')] σ (fun r σ' => (∃ P : Prop, r = some (.int (isB P))) ∧ σ = σ') := by
        intro hsS P'
        iterate 3 (refine kX_one rfl ?_)
        exact kX_lv _ rfl rfl rfl (loopC hsS (0, P') (Nat.zero_le _))
      iterate 3 (refine kX_one rfl ?_)
      refine kX_top (hS) ?_
      repeat refine kX_one rfl ?_
      refine kX_if (fun q => ?_) (fun q => ?_)
      · exact k121 hiN P _ rfl rfl
      · have q := qgeF q s S
        repeat refine kX_one rfl ?_
        refine kX_if (fun q2 => ?_) (fun q2 => ?_)
        · exact k121 hiN P _ rfl rfl
        · repeat refine kX_one rfl ?_
          refine kX_ialdN rfl rfl (by decide) (4 * i + s) (ix4 i s) (by omega) ?_
          repeat refine kX_one rfl ?_
          refine kX_ialdN rfl rfl (by decide) (s) (by first | rfl | decide) (by omega) ?_
          repeat refine kX_one rfl ?_
          refine kX_if (fun q3 => ?_) (fun q3 => ?_)
          · iterate 1 (refine kX_one rfl ?_)
            have := k56 q False
            rw [isB_F (fun z => z)] at this
            exact this
          · iterate 2 (refine kX_one rfl ?_)
            have := k56 q True
            rw [isB_T trivial] at this
            exact this
    iterate 3 (refine kX_one rfl ?_)
    refine kX_top (hN) ?_
    repeat refine kX_one rfl ?_
    refine kX_if (fun q => ?_) (fun q => ?_)
    · exact k127 P _ rfl rfl
    · have q := qgeF q i N
      repeat refine kX_one rfl ?_
      refine kX_if (fun q2 => ?_) (fun q2 => ?_)
      · exact k127 P _ rfl rfl
      · iterate 4 (refine kX_one rfl ?_)
        have := loopB q (0, True) (Nat.zero_le _)
        dsimp only at this
        rw [isB_T trivial] at this
        exact kX_lv _ rfl rfl rfl this
  iterate 4 (refine kX_one rfl ?_)
  have := loopA (0, False) (Nat.zero_le _)
  dsimp only at this
  rw [isB_F (fun z => z)] at this
  exact kX_lv _ rfl rfl rfl this
end
section
/-! the reference: isOfSort, nextOf, howMany -/
/-- the VARIABLE's TERM v may stand for the TERM t -/
def ofs (σ : kS) (v t : Nat) : Prop := tgd (σ 233) (σ 234) (σ 235) t = true ∧ (σ 240 v = nI 3 ∨ σ 233 t = σ 240 v)
set_option maxRecDepth 100000 in
set_option maxHeartbeats 4000000 in
theorem mr_isOfSort (L : Nat) (xs : Nat → Int32) (d : Nat) (σ : kS) (n b t v : Nat) (h : mTb σ n b) (ht : t < n) (hv : v < 200) : kXM kT L xs (d + 1) 214 [.ref 232, .int (nI t), .int (nI v)] σ (fun r σ' => r = some (.int (isB (ofs σ v t))) ∧ σ = σ') := by
  have hn := h.1
  unfold kXM
  repeat refine kX_one rfl ?_
  refine kX_baldV rfl rfl (by decide) (t) (by first | rfl | decide) (by omega) (h.2.2.2.2.2.2.1 t (Or.inl ht)) ?_
  repeat refine kX_one rfl ?_
  refine kX_if (fun q => ?_) (fun q => ?_)
  · have q := (bI_eq _).mp (qeq q)
    repeat refine kX_one rfl ?_
    refine kX_ret (i := .ireturn) (len := 1) rfl (Or.inr rfl) rfl (⟨by rw [isB_F (fun z => by have := z.1; rw [q] at this; cases this)]; rfl, rfl⟩)
  · have q := (bI_ne _).mp (qeqF q)
    iterate 3 (refine kX_one rfl ?_)
    refine kX_ialdN rfl rfl (by decide) (v) (by first | rfl | decide) (hv) ?_
    repeat refine kX_one rfl ?_
    refine kX_if (fun q2 => ?_) (fun q2 => ?_)
    · have q2 : σ 240 v = nI 3 := qeq q2
      repeat refine kX_one rfl ?_
      refine kX_ret (i := .ireturn) (len := 1) rfl (Or.inr rfl) rfl (⟨by rw [isB_T ⟨q, Or.inl q2⟩]; rfl, rfl⟩)
    · have q2 : σ 240 v ≠ nI 3 := qeqF q2
      iterate 3 (refine kX_one rfl ?_)
      refine kX_ialdN rfl rfl (by decide) (t) (by first | rfl | decide) (by omega) ?_
      iterate 3 (refine kX_one rfl ?_)
      refine kX_ialdN rfl rfl (by decide) (v) (by first | rfl | decide) (hv) ?_
      repeat refine kX_one rfl ?_
      refine kX_if (fun q3 => ?_) (fun q3 => ?_)
      · have q3 : σ 233 t ≠ σ 240 v := qne q3
        repeat refine kX_one rfl ?_
        refine kX_ret (i := .ireturn) (len := 1) rfl (Or.inr rfl) rfl (⟨by rw [isB_F (fun z => z.2.elim q2 q3)]; rfl, rfl⟩)
      · have q3 : σ 233 t = σ 240 v := qneF q3
        repeat refine kX_one rfl ?_
        refine kX_ret (i := .ireturn) (len := 1) rfl (Or.inr rfl) rfl (⟨by rw [isB_T ⟨q, Or.inr q3⟩]; rfl, rfl⟩)
/-- the first such TERM from t on -/
def nxo (σ : kS) (n v t : Nat) (r : Option Value) : Prop := (r = some (.int (-1)) ∧ ∀ z, t ≤ z → z < n → ¬ ofs σ v z) ∨ ∃ z, t ≤ z ∧ z < n ∧ ofs σ v z ∧ (∀ y, t ≤ y → y < z → ¬ ofs σ v y) ∧ r = some (.int (nI z))
set_option maxRecDepth 100000 in
set_option maxHeartbeats 4000000 in
theorem mr_nextOf (L : Nat) (xs : Nat → Int32) (d : Nat) (σ : kS) (n b v t : Nat) (h : mTb σ n b) (hv : v < 200) (ht : t ≤ n) : kXM kT L xs (d + 2) 215 [.ref 232, .int (nI v), .int (nI t)] σ (fun r σ' => nxo σ n v t r ∧ σ = σ') := by
  have hn := h.1
  unfold kXM
  have loop : ∀ k : Nat, (t ≤ k ∧ k ≤ n ∧ ∀ y, t ≤ y → y < k → ¬ ofs σ v y) → kX kT L xs (d + 2) 215 2 [(3, .int (nI k)), (0, .ref 232), (1, .int (nI v)), (2, .int (nI t))] [] σ (fun r σ' => nxo σ n v t r ∧ σ = σ') := by
    refine kX_while (fun k : Nat => [(3, .int (nI k)), (0, .ref 232), (1, .int (nI v)), (2, .int (nI t))]) (fun _ => σ) _ (fun k => n - k) ?_
    rintro k ⟨k1, k2, k3⟩ ih
    iterate 3 (refine kX_one rfl ?_)
    refine kX_top (h.2.2.2.1) ?_
    repeat refine kX_one rfl ?_
    refine kX_if (fun q => ?_) (fun q => ?_)
    · have q := qge q k n
      obtain rfl : k = n := by omega
      iterate 3 (refine kX_one rfl ?_)
      refine kX_top (h.2.2.2.1) ?_
      repeat refine kX_one rfl ?_
      refine kX_if (fun q2 => ?_) (fun q2 => ?_)
      · repeat refine kX_one rfl ?_
        refine kX_ret (i := .ireturn) (len := 1) rfl (Or.inr rfl) rfl (⟨Or.inl ⟨rfl, fun z z1 z2 => k3 z z1 z2⟩, rfl⟩)
      · have q2 := qgeF q2 k k
        omega
    · have q := qgeF q k n
      iterate 3 (refine kX_one rfl ?_)
      refine kX_cal (mr_isOfSort L xs d σ n b k v h q hv) rfl (Or.inr rfl) rfl rfl rfl (fun r1 σ1 q1 => ?_)
      obtain ⟨rfl, rfl⟩ := q1
      repeat refine kX_one rfl ?_
      refine kX_if (fun q2 => ?_) (fun q2 => ?_)
      · have q2 := isB_ne.mp (qne q2)
        iterate 3 (refine kX_one rfl ?_)
        refine kX_top (h.2.2.2.1) ?_
        repeat refine kX_one rfl ?_
        refine kX_if (fun q3 => ?_) (fun q3 => ?_)
        · have q3 := qge q3 k n
          omega
        · repeat refine kX_one rfl ?_
          refine kX_ret (i := .ireturn) (len := 1) rfl (Or.inr rfl) rfl (⟨Or.inr ⟨k, k1, q, q2, k3, rfl⟩, rfl⟩)
      · have q2 : ¬ ofs σ v k := fun z => isB_ne.mpr z (qneF q2)
        iterate 2 (refine kX_one rfl ?_)
        have := ih (k + 1) ⟨by omega, q, fun y y1 y2 => by
          by_cases e : y = k
          · subst e
            exact q2
          · exact k3 y y1 (by omega)⟩ (by omega)
        rw [← nI_1] at this
        exact kX_lv _ rfl rfl rfl this
  iterate 2 (refine kX_one rfl ?_)
  exact kX_lv _ rfl rfl rfl (loop t ⟨Nat.le_refl _, ht, fun y y1 y2 => absurd y2 (by omega)⟩)
set_option maxRecDepth 100000 in
set_option maxHeartbeats 4000000 in
theorem mr_howMany (L : Nat) (xs : Nat → Int32) (d : Nat) (σ : kS) (n b v : Nat) (h : mTb σ n b) (hv : v < 200) : kXM kT L xs (d + 2) 216 [.ref 232, .int (nI v)] σ (fun r σ' => r = some (.int (nI (cnt (ofs σ v) n))) ∧ σ = σ') := by
  have hn := h.1
  unfold kXM
  have loop : ∀ k : Nat, k ≤ n → kX kT L xs (d + 2) 216 4 [(3, .int (nI k)), (2, .int (nI (cnt (ofs σ v) k))), (0, .ref 232), (1, .int (nI v))] [] σ (fun r σ' => r = some (.int (nI (cnt (ofs σ v) n))) ∧ σ = σ') := by
    refine kX_while (fun k : Nat => [(3, .int (nI k)), (2, .int (nI (cnt (ofs σ v) k))), (0, .ref 232), (1, .int (nI v))]) (fun _ => σ) (fun k => k ≤ n) (fun k => n - k) ?_
    intro k k2 ih
    iterate 3 (refine kX_one rfl ?_)
    refine kX_top (h.2.2.2.1) ?_
    repeat refine kX_one rfl ?_
    refine kX_if (fun q => ?_) (fun q => ?_)
    · have q := qge q k n
      obtain rfl : k = n := by omega
      repeat refine kX_one rfl ?_
      refine kX_ret (i := .ireturn) (len := 1) rfl (Or.inr rfl) rfl (⟨rfl, rfl⟩)
    · have q := qgeF q k n
      have k27 : ∀ m, cnt (ofs σ v) (k + 1) = cnt (ofs σ v) k + m → kX kT L xs (d + 2) 216 27 [(3, .int (nI k)), (2, .int (nI (cnt (ofs σ v) k))), (0, .ref 232), (1, .int (nI v))] [.int (nI m), .int (nI (cnt (ofs σ v) k))] σ (fun r σ' => r = some (.int (nI (cnt (ofs σ v) n))) ∧ σ = σ') := by
        intro m hm
        iterate 4 (refine kX_one rfl ?_)
        have := ih (k + 1) q (by omega)
        rw [← nI_1, hm, ← nI_add] at this
        exact kX_lv _ rfl rfl rfl this
      iterate 4 (refine kX_one rfl ?_)
      refine kX_cal (mr_isOfSort L xs d σ n b k v h q hv) rfl (Or.inr rfl) rfl rfl rfl (fun r1 σ1 q1 => ?_)
      obtain ⟨rfl, rfl⟩ := q1
      repeat refine kX_one rfl ?_
      refine kX_if (fun q2 => ?_) (fun q2 => ?_)
      · have q2 : ¬ ofs σ v k := fun z => isB_ne.mpr z (qeq q2)
        iterate 1 (refine kX_one rfl ?_)
        exact k27 0 (by rw [cnt, if_neg q2])
      · have q2 := isB_ne.mp (qeqF q2)
        iterate 2 (refine kX_one rfl ?_)
        exact k27 1 (by rw [cnt, if_pos q2])
  iterate 4 (refine kX_one rfl ?_)
  exact kX_lv _ rfl rfl rfl (loop 0 (Nat.zero_le _))
theorem cnt_0 {f : Nat → Prop} : ∀ {m : Nat}, cnt f m ≠ 0 → ∃ z, z < m ∧ f z
  | 0, h => absurd rfl h
  | m + 1, h => by
    unfold cnt at h
    split at h
    · next e => exact ⟨m, by omega, e⟩
    · obtain ⟨z, z1, z2⟩ := cnt_0 (m := m) (by omega)
      exact ⟨z, by omega, z2⟩
end
section
/-! the reference: the STATES of a search -/
def srX : List Nat := [264, 265, 284, 285, 286, 287, 292, 293]
def srJ : List Nat := [69, 70, 71]
/-- nothing has changed but what a search is made of -/
def mSf (σ τ : kS) (n : Nat) : Prop := (∀ c, c ∉ rowC → c ∉ srX → τ c = σ c) ∧ (∀ j, j ∉ rowJ → j ∉ srJ → τ 232 j = σ 232 j) ∧ ∀ u, u < 200 → τ 233 u = σ 233 u ∧ τ 234 u = σ 234 u ∧ τ 235 u = σ 235 u
theorem mSf_fr {σ τ : kS} {n : Nat} (h : mFr σ τ n) : mSf σ τ n := ⟨fun c hc _ => h.1 c hc, fun j hj _ => h.2.1 j hj, h.2.2⟩
theorem mSf_refl (σ : kS) (n : Nat) : mSf σ σ n := mSf_fr (mFr_refl σ n)
theorem mSf_trans {σ τ ρ : kS} {n : Nat} (h1 : mSf σ τ n) (h2 : mSf τ ρ n) : mSf σ ρ n :=
  ⟨fun c hc hx => (h2.1 c hc hx).trans (h1.1 c hc hx), fun j hj hx => (h2.2.1 j hj hx).trans (h1.2.1 j hj hx), fun u hu => ⟨(h2.2.2 u hu).1.trans (h1.2.2 u hu).1, (h2.2.2 u hu).2.1.trans (h1.2.2 u hu).2.1, (h2.2.2 u hu).2.2.trans (h1.2.2 u hu).2.2⟩⟩
theorem mSf_up {σ : kS} {n c : Nat} {f : Nat → Int32} (hc : c ∈ srX) : mSf σ (va_up σ c f) n := by
  refine ⟨fun e h1 h2 => ?_, fun j hj _ => ?_, fun u hu => ?_⟩
  · show va_up σ c f e = σ e
    unfold va_up
    rw [if_neg (fun q : e = c => h2 (by rw [q]; exact hc))]
  · have : (232 : Nat) ≠ c := fun q => by subst q; revert hc; decide
    show va_up σ c f 232 j = _
    unfold va_up
    rw [if_neg this]
  · have h1 : (233 : Nat) ≠ c := fun q => by subst q; revert hc; decide
    have h2 : (234 : Nat) ≠ c := fun q => by subst q; revert hc; decide
    have h3 : (235 : Nat) ≠ c := fun q => by subst q; revert hc; decide
    refine ⟨?_, ?_, ?_⟩
    · show va_up σ c f 233 u = _
      unfold va_up
      rw [if_neg h1]
    · show va_up σ c f 234 u = _
      unfold va_up
      rw [if_neg h2]
    · show va_up σ c f 235 u = _
      unfold va_up
      rw [if_neg h3]
theorem mSf_o {σ : kS} {n j : Nat} {x : Int32} (hj : j ∈ srJ) : mSf σ (va_up σ 232 (upd (σ 232) j x)) n := by
  refine ⟨fun e h1 h2 => ?_, fun i hi hx => ?_, fun u hu => ⟨rfl, rfl, rfl⟩⟩
  · have : e ≠ 232 := fun q => by subst q; revert h1; decide
    show va_up σ 232 _ e = σ e
    unfold va_up
    rw [if_neg this]
  · exact pk_un (fun q => hx (q ▸ hj))
def pat (σ τ : kS) : kS := fun c => if c ∈ srX then σ c else if c = 232 then (fun j => if j ∈ srJ then σ 232 j else τ 232 j) else τ c
theorem pat_fr {σ τ : kS} {n : Nat} (h : mSf σ τ n) : mFr σ (pat σ τ) n := by
  refine ⟨fun c hc => ?_, fun j hj => ?_, fun u hu => h.2.2 u hu⟩
  · unfold pat
    split
    · rfl
    · next hx =>
      have : c ≠ 232 := fun q => by subst q; revert hc; decide
      rw [if_neg this]
      exact h.1 c hc hx
  · show (if j ∈ srJ then σ 232 j else τ 232 j) = σ 232 j
    split
    · rfl
    · next hx => exact h.2.1 j hj hx
theorem mSf_Ro {σ τ : kS} {n b R : Nat} (h : mTb σ n b) (hF : mSf σ τ n) (hR : mRo σ n R) : mRo τ n R := by
  have := mFr_Ro (τ := pat σ τ) h (pat_fr hF) hR
  exact this
theorem mSf_Se {σ τ : kS} {n b R S : Nat} (h : mTb σ n b) (hF : mSf σ τ n) (hS : mSe σ n R S) : mSe τ n R S := by
  have := mFr_Se (τ := pat σ τ) h (pat_fr hF) hS
  exact this
theorem mSf_Kn {σ τ : kS} {n b : Nat} {kl : List Nat} (h : mTb σ n b) (hF : mSf σ τ n) (hK : mKn σ n kl) : mKn τ n kl := by
  have := mFr_Kn (τ := pat σ τ) h (pat_fr hF) hK
  exact this
theorem mSf_Cl {σ τ : kS} {n R C : Nat} (hF : mSf σ τ n) (hC : mCl σ R C) : mCl τ R C := by
  have := mFr_Cl (τ := pat σ τ) (pat_fr hF) hC
  exact this
theorem mSf_bdv {σ τ : kS} {n b R r dn k : Nat} (h : mTb σ n b) (hR : mRo σ n R) (hF : mSf σ τ n) (hr : r < R) (hdn : dn ≤ fN (σ 247 r)) : bdv τ r dn k ↔ bdv σ r dn k := by
  have := mFr_bdv (τ := pat σ τ) (k := k) h hR (pat_fr hF) hr hdn
  exact this
theorem mSf_Vz {σ τ : kS} {n b r k : Nat} {x : Int32} (h : mTb σ n b) (hF : mSf σ τ n) (hz : mVz σ n r k x) : mVz τ n r k x := by
  have := mFr_Vz (τ := pat σ τ) h (pat_fr hF) hz
  exact this
/-- what stays in a search -/
def mBs (σ : kS) (n R S C : Nat) (kl : List Nat) : Prop := mRo σ n R ∧ mSe σ n R S ∧ mKn σ n kl ∧ mCl σ R C
theorem mBs_sf {σ τ : kS} {n b R S C : Nat} {kl : List Nat} (h : mTb σ n b) (hF : mSf σ τ n) (hB : mBs σ n R S C kl) : mBs τ n R S C kl := ⟨mSf_Ro h hF hB.1, mSf_Se h hF hB.2.1, mSf_Kn h hF hB.2.2.1, mSf_Cl hF hB.2.2.2⟩
/-- D and V tell where the SESSIONS stand -/
def cfg (σ : kS) (n R S : Nat) (D V : Nat → Int32) : Prop := ∀ s, s < S → ∃ r dn, r < R ∧ σ 255 s = nI r ∧ D s = nI dn ∧ dn ≤ fN (σ 247 r) ∧ ∀ k, k < 6 → (bdv σ r dn k → mVz σ n r k (V (6 * s + k)) ∧ (σ 246 (6 * r + k) ≠ nI 2 → V (6 * s + k) = σ 256 (6 * s + k))) ∧ (¬ bdv σ r dn k → V (6 * s + k) = -6)
theorem cfg_ext {σ : kS} {n R S : Nat} {D V D' V' : Nat → Int32} (h1 : ∀ s, s < S → D' s = D s) (h2 : ∀ s k, s < S → k < 6 → V' (6 * s + k) = V (6 * s + k)) (h : cfg σ n R S D V) : cfg σ n R S D' V' := by
  intro s hs
  obtain ⟨r, dn, a1, a2, a3, a4, a5⟩ := h s hs
  refine ⟨r, dn, a1, a2, (h1 s hs).trans a3, a4, fun k hk => ?_⟩
  rw [h2 s k hs hk]
  exact a5 k hk
theorem cfg_sf {σ τ : kS} {n b R S : Nat} {D V : Nat → Int32} (h : mTb σ n b) (hR : mRo σ n R) (hF : mSf σ τ n) (hc : cfg σ n R S D V) : cfg τ n R S D V := by
  intro s hs
  obtain ⟨r, dn, a1, a2, a3, a4, a5⟩ := hc s hs
  refine ⟨r, dn, a1, (by rw [hF.1 255 (by decide) (by decide)]; exact a2), a3, (by rw [hF.1 247 (by decide) (by decide)]; exact a4), fun k hk => ?_⟩
  rw [mSf_bdv h hR hF a1 a4, hF.1 246 (by decide) (by decide), hF.1 256 (by decide) (by decide)]
  exact ⟨fun q => ⟨mSf_Vz h hF ((a5 k hk).1 q).1, ((a5 k hk).1 q).2⟩, (a5 k hk).2⟩
theorem cfg_Sv {σ : kS} {n b R S : Nat} (h : mTb σ n b) (hR : mRo σ n R) (hS : mSe σ n R S) (hc : cfg σ n R S (σ 264) (σ 265)) : mSv σ n R S := by
  refine ⟨hS.2.1, fun s hs => ?_⟩
  obtain ⟨r, dn, a1, a2, a3, a4, a5⟩ := hc s hs
  obtain ⟨-, e, e1, e2⟩ := hR.2.2.1 r a1
  have he : fN (σ 247 r) ≤ 6 := by rw [e2, fN_nI (by omega)]; exact e1
  rw [a3, fN_nI (by omega)]
  exact mSn_of h hR a1 a2 a3 a4 (fun k hk => ⟨fun q => ((a5 k hk).1 q).1, (a5 k hk).2⟩)
/-- one EVENT of the session m -/
def stp (S : Nat) (D V D' V' : Nat → Int32) (m : Nat) : Prop := m < S ∧ ∀ s, s < S → (s ≠ m → D' s = D s ∧ ∀ k, k < 6 → V' (6 * s + k) = V (6 * s + k)) ∧ (s = m → D' s = D s + 1 ∧ ∀ k, k < 6 → V (6 * s + k) ≠ -6 → V' (6 * s + k) = V (6 * s + k))
theorem stp_ext {S m : Nat} {D V D' V' E W E' W' : Nat → Int32} (h1 : ∀ s, s < S → E s = D s) (h2 : ∀ s k, s < S → k < 6 → W (6 * s + k) = V (6 * s + k)) (h3 : ∀ s, s < S → E' s = D' s) (h4 : ∀ s k, s < S → k < 6 → W' (6 * s + k) = V' (6 * s + k)) (h : stp S D V D' V' m) : stp S E W E' W' m := by
  refine ⟨h.1, fun s hs => ⟨fun q => ⟨?_, fun k hk => ?_⟩, fun q => ⟨?_, fun k hk hv => ?_⟩⟩⟩
  · rw [h3 s hs, h1 s hs]; exact ((h.2 s hs).1 q).1
  · rw [h4 s k hs hk, h2 s k hs hk]; exact ((h.2 s hs).1 q).2 k hk
  · rw [h3 s hs, h1 s hs]; exact ((h.2 s hs).2 q).1
  · rw [h2 s k hs hk] at hv ⊢
    rw [h4 s k hs hk]; exact ((h.2 s hs).2 q).2 k hk hv
def stD (σ : kS) (i : Nat) : Nat → Int32 := fun s => σ 284 (4 * i + s)
def stV (σ : kS) (i : Nat) : Nat → Int32 := fun j => σ 285 (24 * i + j)
/-- N STATES are noted -/
def mSs (σ : kS) (n R S N : Nat) : Prop := N ≤ 600 ∧ σ 232 69 = nI N ∧ ∀ i, i < N → cfg σ n R S (stD σ i) (stV σ i) ∧ (i = 0 → ∀ s, s < S → stD σ i s = 0) ∧ (0 < i → ∃ j m, j < i ∧ σ 286 i = nI j ∧ σ 287 i = nI m ∧ stp S (stD σ j) (stV σ j) (stD σ i) (stV σ i) m)
theorem mSs_sf {σ τ : kS} {n b R S N : Nat} (h : mTb σ n b) (hR : mRo σ n R) (hF : mSf σ τ n) (e1 : τ 284 = σ 284) (e2 : τ 285 = σ 285) (e3 : τ 286 = σ 286) (e4 : τ 287 = σ 287) (e5 : τ 232 69 = σ 232 69) (hS : mSs σ n R S N) : mSs τ n R S N := by
  obtain ⟨h1, h2, h3⟩ := hS
  refine ⟨h1, e5.trans h2, fun i hi => ?_⟩
  obtain ⟨g1, g2, g3⟩ := h3 i hi
  have d : ∀ i, stD τ i = stD σ i := fun i => by unfold stD; rw [e1]
  have v : ∀ i, stV τ i = stV σ i := fun i => by unfold stV; rw [e2]
  rw [d, v]
  refine ⟨cfg_sf h hR hF g1, g2, fun q => ?_⟩
  obtain ⟨j, m, a1, a2, a3, a4⟩ := g3 q
  refine ⟨j, m, a1, by rw [e3]; exact a2, by rw [e4]; exact a3, ?_⟩
  rw [d, v]
  exact a4
theorem mSs_fr {σ τ : kS} {n b R S N : Nat} (h : mTb σ n b) (hR : mRo σ n R) (hF : mFr σ τ n) (hS : mSs σ n R S N) : mSs τ n R S N := mSs_sf h hR (mSf_fr hF) (hF.1 _ (by decide)) (hF.1 _ (by decide)) (hF.1 _ (by decide)) (hF.1 _ (by decide)) (hF.2.1 _ (by decide)) hS
end
section
/-! the reference: comesToBe -/
def ceS (σ : kS) (SD SV : Nat → Int32) : kS := va_up (va_up σ 284 SD) 285 SV
def ceI (σ : kS) (N s : Nat) (SD SV : Nat → Int32) : Prop := (∀ j, j < 4 * N → SD j = σ 284 j) ∧ (∀ u, u < s → SD (4 * N + u) = σ 264 u) ∧ (∀ j, j < 24 * N → SV j = σ 285 j) ∧ ∀ u k, u < s → k < 6 → SV (24 * N + 6 * u + k) = σ 265 (6 * u + k)
set_option maxRecDepth 100000 in
set_option maxHeartbeats 4000000 in
theorem mr_ce_in (L : Nat) (xs : Nat → Int32) (d : Nat) (σ : kS) (N s : Nat) (hN : σ 232 69 = nI N) (hN6 : N < 600) (hs : s < 4) (x y : Int32) (P : Prop) (SD : Nat → Int32) (Q : Option Value → kS → Prop)
    (he : ∀ SV, ceI σ N (s + 1) SD SV → kX kT L xs (d + 1) 213 140 [(4, .int (nI s)), (3, .int (isB P)), (0, .ref 232), (1, .int x), (2, .int y)] [] (ceS σ SD SV) Q) :
    ∀ q : Nat × (Nat → Int32), (q.1 ≤ 6 ∧ (∀ j, j < 4 * N → SD j = σ 284 j) ∧ (∀ u, u < s + 1 → SD (4 * N + u) = σ 264 u) ∧ (∀ j, j < 24 * N → q.2 j = σ 285 j) ∧ (∀ u k, u < s → k < 6 → q.2 (24 * N + 6 * u + k) = σ 265 (6 * u + k)) ∧ ∀ k, k < q.1 → q.2 (24 * N + 6 * s + k) = σ 265 (6 * s + k)) → kX kT L xs (d + 1) 213 93 [(5, .int (nI q.1)), (4, .int (nI s)), (3, .int (isB P)), (0, .ref 232), (1, .int x), (2, .int y)] [] (ceS σ SD q.2) Q := by
  refine kX_while (fun q : Nat × (Nat → Int32) => [(5, .int (nI q.1)), (4, .int (nI s)), (3, .int (isB P)), (0, .ref 232), (1, .int x), (2, .int y)]) (fun q => ceS σ SD q.2) _ (fun q => 6 - q.1) ?_
  rintro ⟨k, SV⟩ ⟨i1, i2, i3, i4, i5, i6⟩ ih
  dsimp only at i1 i2 i3 i4 i5 i6 ih ⊢
  repeat refine kX_one rfl ?_
  refine kX_if (fun q => ?_) (fun q => ?_)
  · have q := qge q k 6
    obtain rfl : k = 6 := by omega
    refine kX_lv _ rfl rfl rfl (he SV ⟨i2, i3, i4, fun u k' hu hk => ?_⟩)
    by_cases e : u = s
    · subst e
      exact i6 k' hk
    · exact i5 u k' (by omega) hk
  · have q := qgeF q k 6
    iterate 5 (refine kX_one rfl ?_)
    refine kX_top (hN) ?_
    iterate 14 (refine kX_one rfl ?_)
    refine kX_ialdN rfl rfl (by decide) (6 * s + k) (ix6 s k) (by omega) ?_
    refine kX_iastN rfl rfl (by decide) (24 * N + 6 * s + k) (ix24 N s k) (by omega) ?_
    iterate 2 (refine kX_one rfl ?_)
    have := ih (k + 1, upd SV (24 * N + 6 * s + k) (σ 265 (6 * s + k))) ⟨by simp only; omega, i2, i3, fun j hj => by
      simp only
      rw [pk_un (by omega)]
      exact i4 j hj, fun u k' hu hk => by
      simp only
      rw [pk_un (by omega)]
      exact i5 u k' hu hk, fun k' hk => by
      simp only at hk ⊢
      by_cases e : k' = k
      · subst e
        exact pk_us
      · rw [pk_un (by omega)]
        exact i6 k' (by omega)⟩ (by simp only; omega)
    dsimp only at this
    rw [← nI_1] at this
    refine kX_to _ _ rfl rfl rfl ?_ this
    funext c; unfold ceS va_up; repeat' split
    all_goals first | rfl | omega | (subst_vars; rfl) | (funext j; unfold upd; repeat' split; all_goals first | rfl | omega | (subst_vars; rfl))
set_option maxRecDepth 100000 in
set_option maxHeartbeats 4000000 in
theorem mr_ce_copy (L : Nat) (xs : Nat → Int32) (d : Nat) (σ : kS) (n R S N : Nat) (hS : mSe σ n R S) (hR : R ≤ 4) (hN : σ 232 69 = nI N) (hN6 : N < 600) (x y : Int32) (Q : Option Value → kS → Prop)
    (he : ∀ SD SV (P : Prop), ceI σ N S SD SV → kX kT L xs (d + 1) 213 146 [(3, .int (isB P)), (0, .ref 232), (1, .int x), (2, .int y)] [] (ceS σ SD SV) Q) :
    ∀ q : Nat × Prop × (Nat → Int32) × (Nat → Int32), (q.1 ≤ S ∧ ceI σ N q.1 q.2.2.1 q.2.2.2) → kX kT L xs (d + 1) 213 28 [(4, .int (nI q.1)), (3, .int (isB q.2.1)), (0, .ref 232), (1, .int x), (2, .int y)] [] (ceS σ q.2.2.1 q.2.2.2) Q := by
  have hS4 := hS.1
  refine kX_while (fun q : Nat × Prop × (Nat → Int32) × (Nat → Int32) => [(4, .int (nI q.1)), (3, .int (isB q.2.1)), (0, .ref 232), (1, .int x), (2, .int y)]) (fun q => ceS σ q.2.2.1 q.2.2.2) _ (fun q => S - q.1) ?_
  rintro ⟨s, P, SD, SV⟩ ⟨i1, i2, i3, i4, i5⟩ ih
  dsimp only at i1 i2 i3 i4 i5 ih ⊢
  iterate 3 (refine kX_one rfl ?_)
  refine kX_top (hS.2.1) ?_
  repeat refine kX_one rfl ?_
  refine kX_if (fun q => ?_) (fun q => ?_)
  · have q := qge q s S
    obtain rfl : s = S := by omega
    exact kX_lv _ rfl rfl rfl (he SD SV P ⟨i2, i3, i4, i5⟩)
  · have q := qgeF q s S
    obtain ⟨r, r1, r2, -⟩ := hS.2.2 s q
    have k89 : ∀ P' : Prop, kX kT L xs (d + 1) 213 89 [(4, .int (nI s)), (3, .int (isB P)), (0, .ref 232), (1, .int x), (2, .int y)] [.int (isB P')] (ceS σ (upd SD (4 * N + s) (σ 264 s)) SV) Q := by
      intro P'
      iterate 3 (refine kX_one rfl ?_)
      have := mr_ce_in L xs d σ N s hN hN6 (by omega) x y P' (upd SD (4 * N + s) (σ 264 s)) Q (fun SV' h' => by
        iterate 2 (refine kX_one rfl ?_)
        have := ih (s + 1, P', upd SD (4 * N + s) (σ 264 s), SV') ⟨q, h'⟩ (by simp only; omega)
        dsimp only at this
        rw [← nI_1] at this
        exact kX_lv _ rfl rfl rfl this) (0, SV) ⟨Nat.zero_le _, fun j hj => by
          rw [pk_un (by omega)]
          exact i2 j hj, fun u hu => by
          by_cases e : u = s
          · subst e
            exact pk_us
          · rw [pk_un (by omega)]
            exact i3 u (by omega), i4, i5, fun k hk => absurd hk (Nat.not_lt_zero k)⟩
      exact kX_lv _ rfl rfl rfl this
    iterate 5 (refine kX_one rfl ?_)
    refine kX_top (hN) ?_
    iterate 6 (refine kX_one rfl ?_)
    refine kX_ialdN rfl rfl (by decide) (s) (by first | rfl | decide) (by omega) ?_
    refine kX_iastN rfl rfl (by decide) (4 * N + s) (ix4 N s) (by omega) ?_
    refine kX_to [(4, .int (nI s)), (3, .int (isB P)), (0, .ref 232), (1, .int x), (2, .int y)] (ceS σ (upd SD (4 * N + s) (σ 264 s)) SV) rfl rfl rfl ?_ ?_
    · funext c; unfold ceS va_up; repeat' split
      all_goals first | rfl | omega | (subst_vars; rfl) | (funext j; unfold upd; repeat' split; all_goals first | rfl | omega | (subst_vars; rfl))
    repeat refine kX_one rfl ?_
    refine kX_if (fun q2 => ?_) (fun q2 => ?_)
    · iterate 1 (refine kX_one rfl ?_)
      have := k89 False
      rw [isB_F (fun z => z)] at this
      exact this
    · iterate 3 (refine kX_one rfl ?_)
      refine kX_ialdN rfl rfl (by decide) (s) (by first | rfl | decide) (by omega) ?_
      iterate 5 (refine kX_one rfl ?_)
      refine kX_ialdV rfl rfl (by decide) (s) (by first | rfl | decide) (by omega) (r2) ?_
      refine kX_ialdN rfl rfl (by decide) (r) (by first | rfl | decide) (by omega) ?_
      repeat refine kX_one rfl ?_
      refine kX_if (fun q3 => ?_) (fun q3 => ?_)
      · iterate 1 (refine kX_one rfl ?_)
        have := k89 False
        rw [isB_F (fun z => z)] at this
        exact this
      · iterate 2 (refine kX_one rfl ?_)
        have := k89 True
        rw [isB_T trivial] at this
        exact this
/-- one STATE more is noted -/
def ceT (σ : kS) (N : Nat) (SD SV : Nat → Int32) (x y e : Int32) : kS := va_up (va_up (va_up (ceS σ SD SV) 286 (upd (σ 286) N x)) 287 (upd (σ 287) N y)) 232 (upd (upd (σ 232) 69 (nI (N + 1))) 71 e)
theorem ceT_sf (σ : kS) (n N : Nat) (SD SV : Nat → Int32) (x y e : Int32) : mSf σ (ceT σ N SD SV x y e) n := by
  refine ⟨fun c h1 h2 => ?_, fun j h1 h2 => ?_, fun u hu => ⟨rfl, rfl, rfl⟩⟩
  · have : c ≠ 232 := fun q => by subst q; revert h1; decide
    simp only [srX, List.mem_cons, List.not_mem_nil, or_false, not_or] at h2
    simp [ceT, ceS, va_up, h2, this]
  · simp only [srJ, List.mem_cons, List.not_mem_nil, or_false, not_or] at h2
    show upd (upd (σ 232) 69 (nI (N + 1))) 71 e j = _
    rw [pk_un h2.2.2, pk_un h2.1]
theorem ceT_Ss {σ : kS} {n b R S N : Nat} {SD SV : Nat → Int32} {x y e : Int32} (h : mTb σ n b) (hR : mRo σ n R) (hS : mSs σ n R S N) (hS4 : S ≤ 4) (hN : N < 600) (hI : ceI σ N S SD SV) (hc : cfg σ n R S (σ 264) (σ 265)) (hl : (N = 0 ∧ ∀ s, s < S → σ 264 s = 0) ∨ ∃ j m, j < N ∧ x = nI j ∧ y = nI m ∧ stp S (stD σ j) (stV σ j) (σ 264) (σ 265) m) : mSs (ceT σ N SD SV x y e) n R S (N + 1) := by
  have hF := ceT_sf σ n N SD SV x y e
  obtain ⟨i1, i2, i3, i4⟩ := hI
  obtain ⟨s1, s2, s3⟩ := hS
  have dO : ∀ i, i < N → ∀ s, s < S → stD (ceT σ N SD SV x y e) i s = stD σ i s := fun i hi s hs => i1 (4 * i + s) (by omega)
  have vO : ∀ i, i < N → ∀ s k, s < S → k < 6 → stV (ceT σ N SD SV x y e) i (6 * s + k) = stV σ i (6 * s + k) := fun i hi s k hs hk => i3 (24 * i + (6 * s + k)) (by omega)
  have dN : ∀ s, s < S → stD (ceT σ N SD SV x y e) N s = σ 264 s := fun s hs => i2 s hs
  have vN : ∀ s k, s < S → k < 6 → stV (ceT σ N SD SV x y e) N (6 * s + k) = σ 265 (6 * s + k) := fun s k hs hk => by
    have := i4 s k hs hk
    rw [show 24 * N + 6 * s + k = 24 * N + (6 * s + k) by omega] at this
    exact this
  refine ⟨by omega, rfl, fun i hi => ?_⟩
  by_cases e : i = N
  · subst e
    refine ⟨cfg_ext dN vN (cfg_sf h hR hF hc), fun q s hs => ?_, fun q => ?_⟩
    · rcases hl with ⟨-, hl⟩ | ⟨j, m, hl, -⟩
      · rw [dN s hs]
        exact hl s hs
      · omega
    · rcases hl with ⟨hl, -⟩ | ⟨j, m, l1, l2, l3, l4⟩
      · omega
      · refine ⟨j, m, l1, ?_, ?_, stp_ext (dO j l1) (vO j l1) dN vN l4⟩
        · show upd (σ 286) i x i = _
          rw [pk_us, l2]
        · show upd (σ 287) i y i = _
          rw [pk_us, l3]
  · have hi : i < N := by omega
    obtain ⟨g1, g2, g3⟩ := s3 i hi
    refine ⟨cfg_ext (dO i hi) (vO i hi) (cfg_sf h hR hF g1), fun q s hs => ?_, fun q => ?_⟩
    · rw [dO i hi s hs]
      exact g2 q s hs
    · obtain ⟨j, m, a1, a2, a3, a4⟩ := g3 q
      refine ⟨j, m, a1, ?_, ?_, stp_ext (dO j (by omega)) (vO j (by omega)) (dO i hi) (vO i hi) a4⟩
      · show upd (σ 286) N x i = _
        rw [pk_un e, a2]
      · show upd (σ 287) N y i = _
        rw [pk_un e, a3]
/-- what comesToBe answers -/
def ceR (C N : Nat) (r : Option Value) : Prop := r = some (.int (-6)) ∨ r = some (.int (-7)) ∨ ∃ c, c < C ∧ r = some (.int (nI c)) ∧ 0 < N
set_option maxRecDepth 100000 in
set_option maxHeartbeats 4000000 in
theorem mr_ce_brk (L : Nat) (xs : Nat → Int32) (d : Nat) (σ : kS) (n b R S C N : Nat) (kl : List Nat) (l : rwT) (h : mTb σ n b) (hB : mBs σ n R S C kl) (hS : mSs σ n R S N) (hN : 0 < N) (hc : cfg σ n R S (σ 264) (σ 265)) (hq : mRq σ (mvG σ n b) l) (hj : mJd σ n b l) (x y z : Int32) (Q : Option Value → kS → Prop)
    (he : ∀ r τ, ceR C N r → mFr σ τ n → (∃ b', mTb τ n b') → Q r τ) :
    ∀ q : Nat × kS, (q.1 ≤ C ∧ mFr σ q.2 n ∧ mTb q.2 n b ∧ mRq q.2 (mvG q.2 n b) l ∧ mJd q.2 n b l) → kX kT L xs (d + 7) 213 201 [(4, .int (nI q.1)), (0, .ref 232), (1, .int x), (2, .int y), (3, .int z)] [] q.2 Q := by
  have hC6 := hB.2.2.2.1
  have hS4 := hB.2.1.1
  refine kX_while (fun q : Nat × kS => [(4, .int (nI q.1)), (0, .ref 232), (1, .int x), (2, .int y), (3, .int z)]) (fun q => q.2) _ (fun q => C - q.1) ?_
  rintro ⟨c, τ⟩ ⟨i1, i2, i3, i4, i5⟩ ih
  dsimp only at i1 i2 i3 i4 i5 ih ⊢
  have hB2 := mBs_sf h (mSf_fr i2) hB
  iterate 3 (refine kX_one rfl ?_)
  refine kX_top (hB2.2.2.2.2.1) ?_
  repeat refine kX_one rfl ?_
  refine kX_if (fun q => ?_) (fun q => ?_)
  · repeat refine kX_one rfl ?_
    refine kX_ret (i := .ireturn) (len := 1) rfl (Or.inr rfl) rfl (he _ τ (Or.inl rfl) i2 ⟨b, i3⟩)
  · have q := qgeF q c C
    have hc2 : cfg τ n R S (τ 264) (τ 265) := by
      rw [i2.1 264 (by decide), i2.1 265 (by decide)]
      exact cfg_sf h hB.1 (mSf_fr i2) hc
    iterate 2 (refine kX_one rfl ?_)
    refine kX_cal (mr_isBroken L xs d τ n b R S C c l i3 hB2.1 hS4 (cfg_Sv i3 hB2.1 hB2.2.1 hc2) hB2.2.2.2 q i4 i5) rfl (Or.inr rfl) rfl rfl rfl (fun r1 σ2 q1 => ?_)
    obtain ⟨rfl, k1, -⟩ := q1
    repeat refine kX_one rfl ?_
    refine kX_if (fun q3 => ?_) (fun q3 => ?_)
    · iterate 2 (refine kX_one rfl ?_)
      have := ih (c + 1, σ2) ⟨q, mFr_trans i2 k1.1, k1.2.1, k1.2.2.1, k1.2.2.2.1⟩ (by simp only; omega)
      dsimp only at this
      rw [← nI_1] at this
      exact kX_lv _ rfl rfl rfl this
    · repeat refine kX_one rfl ?_
      refine kX_ret (i := .ireturn) (len := 1) rfl (Or.inr rfl) rfl (he _ σ2 (Or.inr (Or.inr ⟨c, q, rfl, hN⟩)) (mFr_trans i2 k1.1) ⟨b, k1.2.1⟩)
/-- what comesToBe leaves -/
def ceP (σ σ' : kS) (n R S C N : Nat) (r : Option Value) : Prop := ∃ N', N ≤ N' ∧ N' ≤ N + 1 ∧ ceR C N' r ∧ mSf σ σ' n ∧ (∃ b', mTb σ' n b') ∧ mSs σ' n R S N' ∧ σ' 264 = σ 264 ∧ σ' 265 = σ 265 ∧ σ' 292 = σ 292 ∧ σ' 293 = σ 293 ∧ ∀ i, i < N → (∀ s, s < S → stD σ' i s = stD σ i s) ∧ ∀ s k, s < S → k < 6 → stV σ' i (6 * s + k) = stV σ i (6 * s + k)
theorem ceP_same {σ : kS} {n b R S C N : Nat} {r : Option Value} (h : mTb σ n b) (hS : mSs σ n R S N) (hr : r = some (.int (-6)) ∨ r = some (.int (-7))) : ceP σ σ n R S C N r := ⟨N, Nat.le_refl _, by omega, hr.elim Or.inl (fun q => Or.inr (Or.inl q)), mSf_refl σ n, ⟨b, h⟩, hS, rfl, rfl, rfl, rfl, fun i _ => ⟨fun _ _ => rfl, fun _ _ _ _ => rfl⟩⟩
set_option maxRecDepth 100000 in
set_option maxHeartbeats 4000000 in
theorem mr_ce_two (L : Nat) (xs : Nat → Int32) (d : Nat) (σ : kS) (n b R S C N : Nat) (kl : List Nat) (x y : Int32) (h : mTb σ n b) (hB : mBs σ n R S C kl) (hS : mSs σ n R S N) (hN6 : N < 600) (hc : cfg σ n R S (σ 264) (σ 265)) (hl : (N = 0 ∧ ∀ s, s < S → σ 264 s = 0) ∨ ∃ j m, j < N ∧ x = nI j ∧ y = nI m ∧ stp S (stD σ j) (stV σ j) (σ 264) (σ 265) m) (SD SV : Nat → Int32) (P : Prop) (hI : ceI σ N S SD SV) :
    kX kT L xs (d + 8) 213 146 [(3, .int (isB P)), (0, .ref 232), (1, .int x), (2, .int y)] [] (ceS σ SD SV) (fun r σ' => ceP σ σ' n R S C N r) := by
  have hS4 := hB.2.1.1
  have hN := hS.2.1
  have k194 : ∀ e : Int32, kX kT L xs (d + 8) 213 194 [(3, .int (isB P)), (0, .ref 232), (1, .int x), (2, .int y)] [] (ceT σ N SD SV x y e) (fun r σ' => ceP σ σ' n R S C N r) := by
    intro e
    have hF := ceT_sf σ n N SD SV x y e
    have hT : mTb (ceT σ N SD SV x y e) n b := h
    have hB2 := mBs_sf h hF hB
    have hS2 := ceT_Ss (e := e) h hB.1 hS hS4 hN6 hI hc hl
    have hc2 : cfg (ceT σ N SD SV x y e) n R S (ceT σ N SD SV x y e 264) (ceT σ N SD SV x y e 265) := cfg_sf h hB.1 hF hc
    have hst : ∀ i, i < N → (∀ s, s < S → stD (ceT σ N SD SV x y e) i s = stD σ i s) ∧ ∀ s k, s < S → k < 6 → stV (ceT σ N SD SV x y e) i (6 * s + k) = stV σ i (6 * s + k) := fun i hi => ⟨fun s hs => hI.1 (4 * i + s) (by omega), fun s k hs hk => hI.2.2.1 (24 * i + (6 * s + k)) (by omega)⟩
    have hd : ceT σ N SD SV x y e 264 = σ 264 := rfl
    have hv : ceT σ N SD SV x y e 265 = σ 265 := rfl
    have ho : ceT σ N SD SV x y e 292 = σ 292 := rfl
    have hch : ceT σ N SD SV x y e 293 = σ 293 := rfl
    generalize ceT σ N SD SV x y e = ρ at *
    iterate 1 (refine kX_one rfl ?_)
    refine kX_cal (mr_stateRow L xs d ρ n b R S kl hT hB2.2.2.1 hB2.1 hS4 (cfg_Sv hT hB2.1 hB2.2.1 hc2)) rfl (Or.inr rfl) rfl rfl rfl (fun r1 σ1 q1 => ?_)
    obtain ⟨rfl, -, b', l, -, g1, g2, g3, g4, -⟩ := q1
    have hB3 := mBs_sf hT (mSf_fr g1) hB2
    have hS3 := mSs_fr hT hB2.1 g1 hS2
    have ed := g1.1 264 (by decide)
    have ev := g1.1 265 (by decide)
    have hc3 : cfg σ1 n R S (σ1 264) (σ1 265) := by
      rw [ed, ev]
      exact cfg_sf hT hB2.1 (mSf_fr g1) hc2
    iterate 2 (refine kX_one rfl ?_)
    have := mr_ce_brk L xs (d + 1) σ1 n b' R S C (N + 1) kl l g2 hB3 hS3 (by omega) hc3 g3 g4 x y (isB P) (fun r σ' => ceP σ σ' n R S C N r) (fun r τ e1 e2 e3 => ?_) (0, σ1) ⟨Nat.zero_le _, mFr_refl σ1 n, g2, g3, g4⟩
    · exact kX_lv _ rfl rfl rfl this
    · have hS4' := mSs_fr g2 hB3.1 e2 hS3
      have esd : τ 284 = ρ 284 := (e2.1 _ (by decide)).trans (g1.1 _ (by decide))
      have esv : τ 285 = ρ 285 := (e2.1 _ (by decide)).trans (g1.1 _ (by decide))
      refine ⟨N + 1, by omega, by omega, e1, mSf_trans hF (mSf_trans (mSf_fr g1) (mSf_fr e2)), e3, hS4', ?_, ?_, ?_, ?_, fun i hi => ?_⟩
      · rw [e2.1 264 (by decide), ed, hd]
      · rw [e2.1 265 (by decide), ev, hv]
      · rw [e2.1 292 (by decide), g1.1 292 (by decide), ho]
      · rw [e2.1 293 (by decide), g1.1 293 (by decide), hch]
      · have := hst i hi
        unfold stD stV at this ⊢
        rw [esd, esv]
        exact this
  have k190 : ∀ m : Int32, kX kT L xs (d + 8) 213 190 [(3, .int (isB P)), (0, .ref 232), (1, .int x), (2, .int y)] [.int m, .int (σ 232 71), .ref 232] (va_up (va_up (va_up (ceS σ SD SV) 286 (upd (σ 286) N x)) 287 (upd (σ 287) N y)) 232 (upd (σ 232) 69 (nI (N + 1)))) (fun r σ' => ceP σ σ' n R S C N r) := by
    intro m
    iterate 2 (refine kX_one rfl ?_)
    refine kX_st (ceT σ N SD SV x y (σ 232 71 + m)) ?_ (k194 _)
    funext c; unfold ceT va_up; repeat' split
    all_goals first | rfl | omega | (subst_vars; rfl) | (funext j; unfold upd; repeat' split; all_goals first | rfl | omega | (subst_vars; rfl))
  iterate 4 (refine kX_one rfl ?_)
  refine kX_top (hN) ?_
  iterate 1 (refine kX_one rfl ?_)
  refine kX_iastN rfl rfl (by decide) (N) (by first | rfl | decide) (by omega) ?_
  iterate 4 (refine kX_one rfl ?_)
  refine kX_top (hN) ?_
  iterate 1 (refine kX_one rfl ?_)
  refine kX_iastN rfl rfl (by decide) (N) (by first | rfl | decide) (by omega) ?_
  iterate 3 (refine kX_one rfl ?_)
  refine kX_top (hN) ?_
  iterate 3 (refine kX_one rfl ?_)
  refine kX_st (va_up (va_up (va_up (ceS σ SD SV) 286 (upd (σ 286) N x)) 287 (upd (σ 287) N y)) 232 (upd (σ 232) 69 (nI (N + 1)))) ?_ ?_
  · rw [← nI_1]
    funext c; unfold ceS va_up; repeat' split
    all_goals first | rfl | omega | (subst_vars; rfl) | (funext j; unfold upd; repeat' split; all_goals first | rfl | omega | (subst_vars; rfl))
  iterate 3 (refine kX_one rfl ?_)
  repeat refine kX_one rfl ?_
  refine kX_if (fun q => ?_) (fun q => ?_)
  · iterate 1 (refine kX_one rfl ?_)
    exact k190 0
  · iterate 2 (refine kX_one rfl ?_)
    exact k190 1
set_option maxRecDepth 100000 in
set_option maxHeartbeats 4000000 in
theorem mr_comesToBe (L : Nat) (xs : Nat → Int32) (d : Nat) (σ : kS) (n b R S C N : Nat) (kl : List Nat) (x y : Int32) (h : mTb σ n b) (hB : mBs σ n R S C kl) (hS : mSs σ n R S N) (hc : cfg σ n R S (σ 264) (σ 265)) (hl : (N = 0 ∧ ∀ s, s < S → σ 264 s = 0) ∨ ∃ j m, j < N ∧ x = nI j ∧ y = nI m ∧ stp S (stD σ j) (stV σ j) (σ 264) (σ 265) m) :
    kXM kT L xs (d + 8) 213 [.ref 232, .int x, .int y] σ (fun r σ' => ceP σ σ' n R S C N r) := by
  have hS4 := hB.2.1.1
  have hR4 := hB.1.1
  have hN6 := hS.1
  have hN := hS.2.1
  unfold kXM
  iterate 1 (refine kX_one rfl ?_)
  refine kX_cal (mr_isThere L xs (d + 6) σ S N hB.2.1.2.1 hS4 hN hN6) rfl (Or.inr rfl) rfl rfl rfl (fun r1 σ1 q1 => ?_)
  obtain ⟨⟨P, rfl⟩, rfl⟩ := q1
  repeat refine kX_one rfl ?_
  refine kX_if (fun q => ?_) (fun q => ?_)
  · iterate 2 (refine kX_one rfl ?_)
    refine kX_top (hN) ?_
    iterate 1 (refine kX_one rfl ?_)
    repeat refine kX_one rfl ?_
    refine kX_if (fun q2 => ?_) (fun q2 => ?_)
    · have q2 : N ≠ 600 := fun e => qne q2 (by rw [e]; decide)
      iterate 4 (refine kX_one rfl ?_)
      have := mr_ce_copy L xs (d + 7) σ n R S N hB.2.1 hR4 hN (by omega) x y (fun r σ' => ceP σ σ' n R S C N r) (fun SD SV P hI => mr_ce_two L xs d σ n b R S C N kl x y h hB hS (by omega) hc hl SD SV P hI) (0, True, σ 284, σ 285) ⟨Nat.zero_le _, fun j _ => rfl, fun u hu => absurd hu (Nat.not_lt_zero u), fun j _ => rfl, fun u k hu => absurd hu (Nat.not_lt_zero u)⟩
      dsimp only at this
      rw [isB_T trivial] at this
      refine kX_to _ _ rfl rfl rfl ?_ this
      funext c; unfold ceS va_up; repeat' split
      all_goals first | rfl | omega | (subst_vars; rfl) | (funext j; unfold upd; repeat' split; all_goals first | rfl | omega | (subst_vars; rfl))
    · repeat refine kX_one rfl ?_
      refine kX_ret (i := .ireturn) (len := 1) rfl (Or.inr rfl) rfl (ceP_same h hS (Or.inr rfl))
  · repeat refine kX_one rfl ?_
    refine kX_ret (i := .ireturn) (len := 1) rfl (Or.inr rfl) rfl (ceP_same h hS (Or.inl rfl))
end
section
/-! the reference: receives, its parts -/
theorem cnt_mem2 {m : Nat} : ∀ (l : List Nat), l.Pairwise (fun x y => x ≠ y) → (∀ x ∈ l, x < m) → cnt (fun x => x ∈ l) m = l.length
  | [], _, _ => by
    have := cnt_rng (f := fun x : Nat => x ∈ ([] : List Nat)) (lo := 0) (hi := 0) (fun t ht => (by cases ht)) m
    simp at this ⊢
    omega
  | a :: l, h, hb => by
    rw [List.pairwise_cons] at h
    have := cnt_mem2 l h.2 (fun x hx => hb x (List.mem_cons_of_mem _ hx))
    rw [cnt_add (f := fun x => x ∈ l) (t := a) (fun q => h.1 a q rfl) (fun u => by rw [List.mem_cons]; exact or_comm) m (hb a List.mem_cons_self), this]
    rfl
theorem nodup_le {m : Nat} {l : List Nat} (h : l.Pairwise (fun x y => x ≠ y)) (hb : ∀ x ∈ l, x < m) : l.length ≤ m := by
  rw [← cnt_mem2 l h hb]
  exact cnt_le _ _
theorem rel_row {τ : kS} {n b b' : Nat} {l : rwT} {hd : Nat → Int32} (hq : mRq τ (mvG τ n b') l) (hj : mJd τ n b' l) (h1 : 200 ≤ b) (h2 : b ≤ b') (h3 : b' ≤ 1000) (hl : ∀ t, rwI l t → mv n b t) : mRq (mRel τ b hd) (mvG (mRel τ b hd) n b) l ∧ mJd (mRel τ b hd) n b l := by
  obtain ⟨q1, q2, q3, q4, q5⟩ := hq
  refine ⟨⟨q1, q2, fun t ht => ⟨hl t ht, (q3 t ht).2⟩, q4, q5⟩, hj.1, fun e => ?_⟩
  obtain ⟨j, j1, j2, j3, j4⟩ := hj.2 e
  have hmv : ∀ t, mv n b t → mv n b' t := fun t ht => by unfold mv at ht ⊢; omega
  have hlt : ∀ a c, a < 100000 → c < 100000 → (nI a < nI c ↔ a < c) := fun a c ha hc => by
    rw [Int32.lt_iff_toInt_lt, nI_toInt (by omega), nI_toInt (by omega)]
    omega
  by_cases e2 : j < b
  · refine ⟨j, ?_, j2, by omega, fun t ht htj => j4 t (hmv t ht) htj⟩
    show (if τ 232 49 < nI b then τ 232 49 else nI b) = nI j
    rw [j1, if_pos ((hlt j b (by omega) (by omega)).mpr e2)]
  · refine ⟨b, ?_, h1, Nat.le_refl _, fun t ht htj => j4 t (hmv t ht) (by omega)⟩
    show (if τ 232 49 < nI b then τ 232 49 else nI b) = nI b
    rw [j1, if_neg (fun q => e2 ((hlt j b (by omega) (by omega)).mp q))]
theorem mFr_rel (σ : kS) (n f : Nat) (hd : Nat → Int32) : mFr σ (mRel σ f hd) n := by
  refine ⟨fun c hc => ?_, fun j hj => ?_, fun u hu => ⟨rfl, rfl, rfl⟩⟩
  · simp only [rowC, List.mem_cons, List.not_mem_nil, or_false, not_or] at hc
    simp [mRel, va_up, hc]
  · simp only [rowJ, List.mem_cons, List.not_mem_nil, or_false, not_or] at hj
    show upd (upd (σ 232) 10 _) 49 _ j = _
    rw [pk_un hj.2.1, pk_un hj.1]
set_option maxRecDepth 100000 in
set_option maxHeartbeats 4000000 in
theorem mr_rc_try (L : Nat) (xs : Nat → Int32) (d : Nat) (σ : kS) (n b s t : Nat) (l : rwT) (h : mTb σ n b) (hb : b ≤ 776) (hq : mRq σ (mvG σ n b) l) (hj : mJd σ n b l) (hs : s < 4) (ht : t < n) (hst : mSt σ n s t) (x m g : Int32) (my : Int64) (Q : Option Value → kS → Prop)
    (he : ∀ ρ (P : Prop), mFr σ ρ n → mTb ρ n b → mRq ρ (mvG ρ n b) l → mJd ρ n b l → kX kT L xs (d + 6) 217 266 [(9, .int (isB P)), (0, .ref 232), (1, .int x), (2, .int (nI s)), (3, .int (nI t)), (4, .int m), (5, .long my), (7, .int g)] [] ρ Q) :
    kX kT L xs (d + 6) 217 242 [(0, .ref 232), (1, .int x), (2, .int (nI s)), (3, .int (nI t)), (4, .int m), (5, .long my), (7, .int g)] [] σ Q := by
  have hb2 := h.2.1
  iterate 2 (refine kX_one rfl ?_)
  refine kX_top (h.2.2.2.2.1) ?_
  iterate 5 (refine kX_one rfl ?_)
  refine kX_cal (mr_standsFor L xs d σ n b s t h (by omega) hs ht hst) rfl (Or.inr rfl) rfl rfl rfl (fun r1 ρ q1 => ?_)
  obtain ⟨u, b', rfl, hE, hb', hu, hu2, hu3⟩ := q1
  obtain ⟨hq2, -⟩ := mRq_ex h hE hq
  have hj2 := mJd_ex h hE (fun t ht => hq.2.2.1 t ht) hj
  have hbb := hE.2.1
  refine kX_cal (mr_canMake L xs (d + 1) ρ n b' l u hE.1 hq2 hj2 hu) rfl (Or.inr rfl) rfl rfl rfl (fun r1 ρ2 q1 => ?_)
  obtain ⟨rfl, M, rfl, hj3⟩ := q1
  have hF := rwF_cmS (σ := ρ) (M := M) (x := nI b') (y := nI l.length)
  have hT3 := rwF_Tb hF hE.1
  have hq3 : mRq (cmS ρ M (upd (upd (ρ 232) 49 (nI b')) 50 (nI l.length))) (mvG (cmS ρ M (upd (upd (ρ 232) 49 (nI b')) 50 (nI l.length))) n b') l := hq2
  have hFr : mFr σ (cmS ρ M (upd (upd (ρ 232) 49 (nI b')) 50 (nI l.length))) n := mFr_trans (mFr_ex hE h.2.1) (mFr_rwF hF)
  generalize cmS ρ M (upd (upd (ρ 232) 49 (nI b')) 50 (nI l.length)) = ρ3 at *
  iterate 3 (refine kX_one rfl ?_)
  refine kX_cal (mr_release L xs (d + 4) ρ3 n b' b hT3 hb2 hbb) rfl (Or.inr rfl) rfl rfl rfl (fun r1 ρ4 q1 => ?_)
  obtain ⟨rfl, hd, rfl, hT4⟩ := q1
  obtain ⟨hq4, hj4⟩ := rel_row (hd := hd) hq3 hj3 hb2 hbb (by omega) (fun t ht => (hq.2.2.1 t ht).1)
  exact kX_lv _ rfl rfl rfl (he _ _ (mFr_trans hFr (mFr_rel ρ3 n b hd)) hT4 hq4 hj4)
/-- the VARIABLES that stand for nothing come to stand for what was chosen -/
def opN (σ : kS) (op : List Nat) : Prop := (∀ p (h : p < op.length), op[p] < 200 ∧ ∃ k, k < 6 ∧ σ 241 op[p] = nI k) ∧ ∀ p q (h : p < op.length) (h' : q < op.length), p ≠ q → σ 241 op[p] ≠ σ 241 op[q]
/-- values V: those of W, but for what was chosen -/
def opV (σ : kS) (op : List Nat) (s : Nat) (c : Nat → Nat) (W V : Nat → Int32) (m : Nat) : Prop := (∀ p (h : p < op.length), p < m → V (6 * s + fN (σ 241 op[p])) = nI (c p)) ∧ ∀ j, (∀ p (h : p < op.length), j ≠ 6 * s + fN (σ 241 op[p])) → V j = W j
set_option maxRecDepth 100000 in
set_option maxHeartbeats 4000000 in
theorem mr_rc_set (L : Nat) (xs : Nat → Int32) (d : Nat) (σ : kS) (s : Nat) (op : List Nat) (c : Nat → Nat) (hs : s < 4) (h6 : op.length ≤ 6) (hN : opN σ op) (ho : lst (σ 292) op) (hc : ∀ p, p < op.length → σ 293 p = nI (c p)) (x t g : Int32) (my : Int64) (Q : Option Value → kS → Prop)
    (he : ∀ V, opV σ op s c (σ 265) V op.length → kX kT L xs (d + 1) 217 242 [(0, .ref 232), (1, .int x), (2, .int (nI s)), (3, .int t), (4, .int (nI op.length)), (5, .long my), (7, .int g)] [] (va_up σ 265 V) Q) :
    ∀ q : Nat × (Nat → Int32), (q.1 ≤ op.length ∧ opV σ op s c (σ 265) q.2 q.1) → kX kT L xs (d + 1) 217 200 [(8, .int (nI q.1)), (0, .ref 232), (1, .int x), (2, .int (nI s)), (3, .int t), (4, .int (nI op.length)), (5, .long my), (7, .int g)] [] (va_up σ 265 q.2) Q := by
  refine kX_while (fun q : Nat × (Nat → Int32) => [(8, .int (nI q.1)), (0, .ref 232), (1, .int x), (2, .int (nI s)), (3, .int t), (4, .int (nI op.length)), (5, .long my), (7, .int g)]) (fun q => va_up σ 265 q.2) _ (fun q => op.length - q.1) ?_
  rintro ⟨k, V⟩ ⟨i1, i2, i3⟩ ih
  dsimp only at i1 i2 i3 ih ⊢
  iterate 2 (refine kX_one rfl ?_)
  repeat refine kX_one rfl ?_
  refine kX_if (fun q => ?_) (fun q => ?_)
  · have q := qge q k op.length
    obtain rfl : k = op.length := by omega
    exact kX_lv _ rfl rfl rfl (he V ⟨i2, i3⟩)
  · have q := qgeF q k op.length
    obtain ⟨u1, z, z1, z2⟩ := hN.1 k q
    have hfz : fN (σ 241 op[k]) = z := by rw [z2]; exact fN_nI (by omega)
    iterate 10 (refine kX_one rfl ?_)
    refine kX_ialdV rfl rfl (by decide) (k) (by first | rfl | decide) (by omega) (ho k q) ?_
    refine kX_ialdV rfl rfl (by decide) (op[k]) (by first | rfl | decide) (u1) (z2) ?_
    iterate 4 (refine kX_one rfl ?_)
    refine kX_ialdV rfl rfl (by decide) (k) (by first | rfl | decide) (by omega) (hc k q) ?_
    refine kX_iastN rfl rfl (by decide) (6 * s + z) (ix6 s z) (by omega) ?_
    iterate 2 (refine kX_one rfl ?_)
    have := ih (k + 1, upd V (6 * s + z) (nI (c k))) ⟨q, fun p hp hpk => by
      simp only at hpk ⊢
      by_cases e : p = k
      · subst e
        rw [hfz, pk_us]
      · have hne := hN.2 p k hp q e
        obtain ⟨-, z', z1', z2'⟩ := hN.1 p hp
        have hfz' : fN (σ 241 op[p]) = z' := by rw [z2']; exact fN_nI (by omega)
        have : z' ≠ z := fun e2 => hne (by rw [z2, z2', e2])
        have e3 := i2 p hp (by omega)
        rw [hfz'] at e3 ⊢
        rw [pk_un (by omega)]
        exact e3, fun j hj => by
      simp only
      rw [pk_un (by have := hj k q; rw [hfz] at this; exact this)]
      exact i3 j hj⟩ (by simp only; omega)
    dsimp only at this
    rw [← nI_1] at this
    refine kX_to _ _ rfl rfl rfl ?_ this
    funext c; unfold  va_up; repeat' split
    all_goals first | rfl | omega | (subst_vars; rfl) | (funext j; unfold upd; repeat' split; all_goals first | rfl | omega | (subst_vars; rfl))
/-- what comes to stand in a STATE by an EVENT that receives -/
theorem rc_cfg {σ : kS} {n b R S s r dn t : Nat} {op : List Nat} {c : Nat → Nat} {D V W : Nat → Int32} (h : mTb σ n b) (hR : mRo σ n R) (hc : cfg σ n R S D W) (hs : s < S) (r1 : r < R) (r2 : σ 255 s = nI r) (r3 : D s = nI dn) (hdn : dn < fN (σ 247 r)) (hse : σ 249 (6 * r + dn) = 0) (ht : t < n) (het : σ 248 (6 * r + dn) = nI t)
    (hop : ∀ u, u ∈ op ↔ u ∈ tvs (σ 233) (σ 234) (σ 235) t ∧ W (6 * s + fN (σ 241 u)) < 0) (hof : ∀ p (h : p < op.length), c p < n ∧ ofs σ op[p] (c p)) (hV1 : ∀ p (h : p < op.length), V (6 * s + fN (σ 241 op[p])) = nI (c p)) (hV2 : ∀ u k, u < S → k < 6 → (∀ p (h : p < op.length), 6 * u + k ≠ 6 * s + fN (σ 241 op[p])) → V (6 * u + k) = W (6 * u + k)) :
    cfg σ n R S (upd D s (nI (dn + 1))) V ∧ stp S D W (upd D s (nI (dn + 1))) V s ∧ ∀ u ∈ tvs (σ 233) (σ 234) (σ 235) t, ∃ p z, p < 6 ∧ z < n ∧ σ 241 u = nI p ∧ V (6 * s + p) = nI z ∧ tgd (σ 233) (σ 234) (σ 235) z = true ∧ (σ 240 u = nI 0 → σ 233 z = nI 0) := by
  have hn := h.1
  have hR4 := hR.1
  obtain ⟨t', t1, t2, t3, -⟩ := hR.2.2.2.2.2 r dn r1 hdn
  obtain rfl : t = t' := nI_inj (het.symm.trans t2)
  have hvar := fun u hu => mRo_var (u := u) h hR r1 ht t3 hu
  obtain ⟨r', dn', a1, a2, a3, a4, a5⟩ := hc s hs
  obtain rfl : r = r' := nI_inj (r2.symm.trans a2)
  have he6 : fN (σ 247 r) ≤ 6 := by
    obtain ⟨-, e, e1, e2⟩ := hR.2.2.1 r r1
    rw [e2, fN_nI (by omega)]
    exact e1
  obtain rfl : dn = dn' := nI_inj (r3.symm.trans a3)
  have hm6 : (-6 : Int32) < 0 := by decide
  /- where V is as W -/
  have hout : ∀ u k, u < S → k < 6 → (u = s → bdv σ r dn k ∨ ¬ bdv σ r (dn + 1) k) → V (6 * u + k) = W (6 * u + k) := by
    intro u k hu hk hb
    refine hV2 u k hu hk (fun p hp e => ?_)
    obtain ⟨g1, g2⟩ := (hop op[p]).mp (List.getElem_mem hp)
    obtain ⟨k', so, u1, k6, kv, vv, kk, -⟩ := hvar _ g1
    rw [kk, fN_nI (by omega)] at e g2
    have e1 : u = s := by omega
    have e2 : k = k' := by omega
    subst e1 e2
    rcases hb rfl with hb | hb
    · obtain ⟨b1, -⟩ := (a5 k hk).1 hb
      exact (mVz_ne h b1).2 g2
    · refine hb ⟨kv, Or.inr ⟨dn, by omega, hse, ?_⟩⟩
      rw [vv, het, fN_nI (by omega), fN_nI (by omega)]
      exact g1
  /- what was chosen -/
  have hin : ∀ u k, u ∈ tvs (σ 233) (σ 234) (σ 235) t → σ 241 u = nI k → k < 6 → ¬ bdv σ r dn k → ∃ z, z < n ∧ V (6 * s + k) = nI z ∧ ofs σ u z := by
    intro u k hu hk hk6 hb
    have hw : W (6 * s + fN (σ 241 u)) < 0 := by
      rw [hk, fN_nI (by omega), (a5 k hk6).2 hb]
      exact hm6
    obtain ⟨p, hp, e⟩ := List.mem_iff_getElem.mp ((hop u).mpr ⟨hu, hw⟩)
    have := hV1 p hp
    obtain ⟨o1, o2⟩ := hof p hp
    rw [e] at this o2
    rw [hk, fN_nI (by omega)] at this
    exact ⟨c p, o1, this, o2⟩
  have hnew : ∀ k, k < 6 → bdv σ r (dn + 1) k → ¬ bdv σ r dn k → ∃ u, u < n ∧ u ∈ tvs (σ 233) (σ 234) (σ 235) t ∧ σ 241 u = nI k ∧ σ 245 (6 * r + k) = nI u ∧ σ 246 (6 * r + k) = nI 2 := by
    intro k hk hb hb0
    obtain ⟨v, so, as, v1, v2, v3, v4, v5, v6, v7, v8, v9, -⟩ := hR.2.2.2.1 r k r1 hb.1
    have ha : σ 246 (6 * r + k) = nI 2 := Classical.byContradiction (fun q => hb0 ⟨hb.1, Or.inl q⟩)
    rcases hb.2 with q | ⟨e, e1, e2, e3⟩
    · exact absurd ha q
    · by_cases ee : e < dn
      · exact absurd ⟨hb.1, Or.inr ⟨e, ee, e2, e3⟩⟩ hb0
      · obtain rfl : e = dn := by omega
        rw [v2, het, fN_nI (by omega), fN_nI (by omega)] at e3
        exact ⟨v, v1, e3, v5, v2, ha⟩
  refine ⟨fun u hu => ?_, ⟨hs, fun u hu => ⟨fun q => ⟨pk_un q, fun k hk => hout u k hu hk (fun e => absurd e q)⟩, fun q => ?_⟩⟩, fun u hu => ?_⟩
  · by_cases e : u = s
    · subst e
      refine ⟨r, dn + 1, r1, r2, pk_us, hdn, fun k hk => ⟨fun hb => ?_, fun hb => ?_⟩⟩
      · by_cases hb0 : bdv σ r dn k
        · rw [hout u k hu hk (fun _ => Or.inl hb0)]
          exact (a5 k hk).1 hb0
        · obtain ⟨v, v1, v2, v3, v4, v5⟩ := hnew k hk hb hb0
          obtain ⟨z, z1, z2, z3, z4⟩ := hin v k v2 v3 hk hb0
          refine ⟨⟨z, z1, z2, z3, ?_⟩, fun q => absurd v5 q⟩
          rw [v4, fN_nI (by omega)]
          rcases z4 with z4 | z4
          · exact Or.inl z4
          · exact Or.inr z4.symm
      · have hb0 : ¬ bdv σ r dn k := fun q => hb (bdv_mono (by omega) q)
        rw [hout u k hu hk (fun _ => Or.inr hb)]
        exact (a5 k hk).2 hb0
    · obtain ⟨r', dn', c1, c2, c3, c4, c5⟩ := hc u hu
      refine ⟨r', dn', c1, c2, (pk_un e).trans c3, c4, fun k hk => ?_⟩
      rw [hout u k hu hk (fun q => absurd q e)]
      exact c5 k hk
  · subst q
    refine ⟨by rw [pk_us, r3, nI_1], fun k hk hw => hout u k hu hk (fun _ => Or.inl ?_)⟩
    exact Classical.byContradiction (fun hb => hw ((a5 k hk).2 hb))
  · obtain ⟨k, so, u1, k6, kv, vv, kk, ku, so3, sov⟩ := hvar u hu
    by_cases hb : bdv σ r dn k
    · obtain ⟨⟨z, z1, z2, z3, z4⟩, -⟩ := (a5 k k6).1 hb
      refine ⟨k, z, k6, z1, kk, by rw [hout s k hs k6 (fun _ => Or.inl hb)]; exact z2, z3, fun q => ?_⟩
      rw [vv, fN_nI (by omega), q] at z4
      rcases z4 with z4 | z4
      · exact absurd z4 (by decide)
      · exact z4.symm
    · obtain ⟨z, z1, z2, z3, z4⟩ := hin u k hu kk k6 hb
      refine ⟨k, z, k6, z1, kk, z2, z3, fun q => ?_⟩
      rw [q] at z4
      rcases z4 with z4 | z4
      · exact absurd z4 (by decide)
      · exact z4
end
section
/-! the reference: receives, its loops -/
theorem ddl_nd : ∀ (l acc : List Nat), acc.Pairwise (fun x y => x ≠ y) → (ddl acc l).Pairwise (fun x y => x ≠ y)
  | [], _, h => h
  | a :: l, acc, h => by
    rw [ddl_cons]
    refine ddl_nd l _ ?_
    split
    · exact h
    · next e =>
      rw [List.pairwise_append]
      refine ⟨h, List.pairwise_singleton _ _, fun x hx y hy q => ?_⟩
      rw [List.mem_singleton] at hy
      subst hy
      exact e (q ▸ hx)
theorem op_len {σ : kS} {op : List Nat} (h : op.Pairwise (fun x y => x ≠ y)) (h1 : ∀ u ∈ op, ∃ k, k < 6 ∧ σ 241 u = nI k) (h2 : ∀ u ∈ op, ∀ v ∈ op, u ≠ v → σ 241 u ≠ σ 241 v) : op.length ≤ 6 := by
  have hp : (op.map (fun u => fN (σ 241 u))).Pairwise (fun x y => x ≠ y) := by
    rw [List.pairwise_map]
    refine List.Pairwise.imp_of_mem (fun {a b} ha hb hab e => ?_) h
    obtain ⟨k, k1, k2⟩ := h1 a ha
    obtain ⟨k', k1', k2'⟩ := h1 b hb
    rw [k2, k2', fN_nI (by omega), fN_nI (by omega)] at e
    exact h2 a ha b hb hab (by rw [k2, k2', e])
  have := nodup_le (m := 6) hp (fun x hx => by
    obtain ⟨u, hu, rfl⟩ := List.mem_map.mp hx
    obtain ⟨k, k1, k2⟩ := h1 u hu
    rw [k2, fN_nI (by omega)]
    exact k1)
  rw [List.length_map] at this
  exact this
/-- what is open -/
def opI (σ : kS) (n s : Nat) (vs op : List Nat) (O : Nat → Int32) (my : Int64) (k : Nat) : Prop := lst O op ∧ (∀ u, u ∈ op ↔ u ∈ vs.take k ∧ σ 265 (6 * s + fN (σ 241 u)) < 0) ∧ op.Pairwise (fun x y => x ≠ y) ∧ (my = 0 ∨ ∀ u ∈ op, ∃ z, z < n ∧ ofs σ u z)
set_option maxRecDepth 100000 in
set_option maxHeartbeats 4000000 in
theorem mr_rc_open (L : Nat) (xs : Nat → Int32) (d : Nat) (σ : kS) (n b s : Nat) (vs : List Nat) (h : mTb σ n b) (hs : s < 4) (hst : σ 232 22 = nI vs.length) (hv : lst (σ 251) vs) (h24 : vs.length ≤ 24) (hnd : vs.Pairwise (fun x y => x ≠ y)) (h1 : ∀ u ∈ vs, u < 200 ∧ ∃ k, k < 6 ∧ σ 241 u = nI k) (h2 : ∀ u ∈ vs, ∀ v ∈ vs, u ≠ v → σ 241 u ≠ σ 241 v) (x t : Int32) (Q : Option Value → kS → Prop)
    (he : ∀ op O my, opI σ n s vs op O my vs.length → op.length ≤ 6 → kX kT L xs (d + 3) 217 107 [(0, .ref 232), (1, .int x), (2, .int (nI s)), (3, .int t), (4, .int (nI op.length)), (5, .long my)] [] (va_up σ 292 O) Q) :
    ∀ q : Nat × List Nat × (Nat → Int32) × Int64, (q.1 ≤ vs.length ∧ opI σ n s vs q.2.1 q.2.2.1 q.2.2.2 q.1) → kX kT L xs (d + 3) 217 14 [(7, .int (nI q.1)), (0, .ref 232), (1, .int x), (2, .int (nI s)), (3, .int t), (4, .int (nI q.2.1.length)), (5, .long q.2.2.2)] [] (va_up σ 292 q.2.2.1) Q := by
  refine kX_while (fun q : Nat × List Nat × (Nat → Int32) × Int64 => [(7, .int (nI q.1)), (0, .ref 232), (1, .int x), (2, .int (nI s)), (3, .int t), (4, .int (nI q.2.1.length)), (5, .long q.2.2.2)]) (fun q => va_up σ 292 q.2.2.1) _ (fun q => vs.length - q.1) ?_
  rintro ⟨k, op, O, my⟩ ⟨i1, i2, i3, i4, i5⟩ ih
  dsimp only at i1 i2 i3 i4 i5 ih ⊢
  have hopv : ∀ u ∈ op, u ∈ vs := fun u hu => List.mem_of_mem_take ((i3 u).mp hu).1
  have h6 := op_len i4 (fun u hu => (h1 u (hopv u hu)).2) (fun u hu v hv' => h2 u (hopv u hu) v (hopv v hv'))
  iterate 3 (refine kX_one rfl ?_)
  refine kX_top (hst) ?_
  repeat refine kX_one rfl ?_
  refine kX_if (fun q => ?_) (fun q => ?_)
  · have q := qge q k vs.length
    obtain rfl : k = vs.length := by omega
    exact kX_lv _ rfl rfl rfl (he op O my ⟨i2, i3, i4, i5⟩ h6)
  · have q := qgeF q k vs.length
    have hmem : vs[k] ∈ vs := List.getElem_mem q
    obtain ⟨u1, z, z1, z2⟩ := h1 _ hmem
    have hlk := hv k q
    have htk : ∀ u, u ∈ vs.take (k + 1) ↔ u ∈ vs.take k ∨ u = vs[k] := fun u => by
      rw [List.take_succ_eq_append_getElem q, List.mem_append, List.mem_singleton]
    have hnk : vs[k] ∉ vs.take k := fun hh => by
      obtain ⟨j, j1, j2⟩ := List.mem_iff_getElem.mp hh
      rw [List.length_take] at j1
      rw [List.getElem_take] at j2
      exact List.pairwise_iff_getElem.mp hnd j k (by omega) q (by omega) j2
    have hfz : fN (σ 241 vs[k]) = z := by rw [z2]; exact fN_nI (by omega)
    generalize hu : vs[k] = u at *
    have k101 : ∀ op' O' my', opI σ n s vs op' O' my' (k + 1) → ∀ τ, τ = va_up σ 292 O' → kX kT L xs (d + 3) 217 101 [(7, .int (nI k)), (0, .ref 232), (1, .int x), (2, .int (nI s)), (3, .int t), (4, .int (nI op'.length)), (5, .long my')] [] τ Q := by
      intro op' O' my' hI τ hτ
      subst hτ
      iterate 2 (refine kX_one rfl ?_)
      have := ih (k + 1, op', O', my') ⟨q, hI⟩ (by simp only; omega)
      dsimp only at this
      rw [← nI_1] at this
      exact kX_lv _ rfl rfl rfl this
    have k48 : σ 265 (6 * s + z) < 0 → kX kT L xs (d + 3) 217 48 [(7, .int (nI k)), (0, .ref 232), (1, .int x), (2, .int (nI s)), (3, .int t), (4, .int (nI op.length)), (5, .long my)] [] (va_up σ 292 O) Q := by
      intro hneg
      have hnop : u ∉ op := fun hh => hnk ((i3 u).mp hh).1
      have hpw : (op ++ [u]).Pairwise (fun x y => x ≠ y) := by
        rw [List.pairwise_append]
        refine ⟨i4, List.pairwise_singleton _ _, fun a ha b hb e => ?_⟩
        rw [List.mem_singleton] at hb
        subst hb
        exact hnop (e ▸ ha)
      have hin : ∀ v ∈ op ++ [u], v ∈ vs := fun v hv' => by
        rcases List.mem_append.mp hv' with e | e
        · exact hopv v e
        · rw [List.mem_singleton] at e
          subst e
          exact hmem
      have h6' := op_len hpw (fun u hu => (h1 u (hin u hu)).2) (fun u hu v hv' => h2 u (hin u hu) v (hin v hv'))
      rw [List.length_append] at h6'
      simp only [List.length_cons, List.length_nil] at h6'
      have hI' : ∀ my', (my' = 0 ∨ ∀ v ∈ op ++ [u], ∃ z, z < n ∧ ofs σ v z) → opI σ n s vs (op ++ [u]) (upd O op.length (nI u)) my' (k + 1) := by
        intro my' hm
        refine ⟨lst_push i2 u, fun v => ?_, hpw, hm⟩
        rw [List.mem_append, List.mem_singleton, i3 v, htk v]
        constructor
        · rintro (⟨e1, e2⟩ | rfl)
          · exact ⟨Or.inl e1, e2⟩
          · exact ⟨Or.inr rfl, by rw [hfz]; exact hneg⟩
        · rintro ⟨e1 | rfl, e2⟩
          · exact Or.inl ⟨e1, e2⟩
          · exact Or.inr rfl
      have k96 : ∀ my1 my', (my' = 0 ∨ ∀ v ∈ op ++ [u], ∃ z, z < n ∧ ofs σ v z) → kX kT L xs (d + 3) 217 96 [(7, .int (nI k)), (0, .ref 232), (1, .int x), (2, .int (nI s)), (3, .int t), (4, .int (nI op.length)), (5, .long my1)] [.long my'] (va_up σ 292 (upd O op.length (nI u))) Q := by
        intro my1 my' hm
        iterate 2 (refine kX_one rfl ?_)
        have := k101 _ _ my' (hI' my' hm) _ rfl
        rw [show nI (op ++ [u]).length = nI op.length + 1 by rw [nI_1]; simp] at this
        exact kX_lv _ rfl rfl rfl this
      iterate 6 (refine kX_one rfl ?_)
      refine kX_ialdV rfl rfl (by decide) (k) (by first | rfl | decide) (by omega) (hlk) ?_
      refine kX_iastN rfl rfl (by decide) (op.length) (by first | rfl | decide) (by omega) ?_
      refine kX_st (va_up σ 292 (upd O op.length (nI u))) ?_ ?_
      · funext c; unfold  va_up; repeat' split
        all_goals first | rfl | omega | (subst_vars; rfl) | (funext j; unfold upd; repeat' split; all_goals first | rfl | omega | (subst_vars; rfl))
      iterate 5 (refine kX_one rfl ?_)
      refine kX_ialdV rfl rfl (by decide) (k) (by first | rfl | decide) (by omega) (hlk) ?_
      refine kX_cal (mr_howMany L xs d (va_up σ 292 (upd O op.length (nI u))) n b u h u1) rfl (Or.inr rfl) rfl rfl rfl (fun r1 σ1 q1 => ?_)
      obtain ⟨rfl, rfl⟩ := q1
      have hcnt : cnt (ofs (va_up σ 292 (upd O op.length (nI u))) u) n = cnt (ofs σ u) n := rfl
      rw [hcnt]
      have hcn : cnt (ofs σ u) n ≤ n := cnt_le _ _
      have hn := h.1
      have hgood : my * (nI (cnt (ofs σ u) n)).toInt64 ≠ 0 → ∀ v ∈ op ++ [u], ∃ z, z < n ∧ ofs σ v z := by
        intro hne v hv'
        have hm0 : my ≠ 0 := fun e => hne (by rw [e, Int64.zero_mul])
        have hc0 : cnt (ofs σ u) n ≠ 0 := fun e => hne (by
          rw [e]
          exact Int64.mul_zero)
        rcases List.mem_append.mp hv' with e | e
        · rcases i5 with i5 | i5
          · exact absurd i5 hm0
          · exact i5 v e
        · rw [List.mem_singleton] at e
          subst e
          exact cnt_0 hc0
      iterate 6 (refine kX_one rfl ?_)
      repeat refine kX_one rfl ?_
      refine kX_if (fun q2 => ?_) (fun q2 => ?_)
      · iterate 1 (refine kX_one rfl ?_)
        refine kX_lv _ rfl rfl rfl (k96 (my * (nI (cnt (ofs σ u) n)).toInt64) (my * (nI (cnt (ofs σ u) n)).toInt64) ?_)
        by_cases e : my * (nI (cnt (ofs σ u) n)).toInt64 = 0
        · exact Or.inl e
        · exact Or.inr (hgood e)
      · iterate 2 (refine kX_one rfl ?_)
        refine kX_lv _ rfl rfl rfl (k96 (my * (nI (cnt (ofs σ u) n)).toInt64) 20001 (Or.inr (hgood (fun e => ?_))))
        have q2 := of_decide_eq_false q2
        dsimp only at q2
        rw [e] at q2
        exact q2 (by decide)
    iterate 10 (refine kX_one rfl ?_)
    refine kX_ialdV rfl rfl (by decide) (k) (by first | rfl | decide) (by omega) (hlk) ?_
    refine kX_ialdV rfl rfl (by decide) (u) (by first | rfl | decide) (u1) (z2) ?_
    iterate 1 (refine kX_one rfl ?_)
    refine kX_ialdN rfl rfl (by decide) (6 * s + z) (ix6 s z) (by omega) ?_
    repeat refine kX_one rfl ?_
    refine kX_if (fun q2 => ?_) (fun q2 => ?_)
    · have q2 : ¬ σ 265 (6 * s + z) < 0 := Int32.not_lt.mpr (of_decide_eq_true q2)
      refine k101 op O my ⟨i2, fun v => ?_, i4, i5⟩ _ rfl
      rw [i3 v, htk v]
      constructor
      · rintro ⟨e1, e2⟩
        exact ⟨Or.inl e1, e2⟩
      · rintro ⟨e1 | rfl, e2⟩
        · exact ⟨e1, e2⟩
        · rw [hfz] at e2
          exact absurd e2 q2
    · exact k48 (Int32.not_le.mp (of_decide_eq_false q2))
end
section
/-! the reference: receives, what is chosen -/
theorem ofs_sf {σ τ : kS} {n b u z : Nat} (h : mTb σ n b) (hF : mSf σ τ n) (hz : z < n) : ofs τ u z ↔ ofs σ u z := by
  have hn := h.1
  have e := (mFr_all h (pat_fr hF) hz).2.1
  have e : tgd (τ 233) (τ 234) (τ 235) z = tgd (σ 233) (σ 234) (σ 235) z := e
  unfold ofs
  rw [e, hF.1 240 (by decide) (by decide), (hF.2.2 z (by omega)).1]
/-- chosen: c -/
def chI (σ : kS) (n : Nat) (op : List Nat) (CH : Nat → Int32) (c : Nat → Nat) (lo hi : Nat) : Prop := ∀ p (h : p < op.length), lo ≤ p → p < hi → CH p = nI (c p) ∧ c p < n ∧ ofs σ op[p] (c p)
set_option maxRecDepth 100000 in
set_option maxHeartbeats 4000000 in
theorem mr_rc_first (L : Nat) (xs : Nat → Int32) (d : Nat) (σ : kS) (n b : Nat) (op : List Nat) (h : mTb σ n b) (h6 : op.length ≤ 6) (ho : lst (σ 292) op) (h200 : ∀ u ∈ op, u < 200) (hz : ∀ u ∈ op, ∃ z, z < n ∧ ofs σ u z) (x s t : Int32) (my : Int64) (Q : Option Value → kS → Prop)
    (he : ∀ CH c, chI σ n op CH c 0 op.length → kX kT L xs (d + 3) 217 189 [(0, .ref 232), (1, .int x), (2, .int s), (3, .int t), (4, .int (nI op.length)), (5, .long my)] [] (va_up σ 293 CH) Q) :
    ∀ q : Nat × (Nat → Int32) × (Nat → Nat), (q.1 ≤ op.length ∧ chI σ n op q.2.1 q.2.2 0 q.1) → kX kT L xs (d + 3) 217 157 [(7, .int (nI q.1)), (0, .ref 232), (1, .int x), (2, .int s), (3, .int t), (4, .int (nI op.length)), (5, .long my)] [] (va_up σ 293 q.2.1) Q := by
  refine kX_while (fun q : Nat × (Nat → Int32) × (Nat → Nat) => [(7, .int (nI q.1)), (0, .ref 232), (1, .int x), (2, .int s), (3, .int t), (4, .int (nI op.length)), (5, .long my)]) (fun q => va_up σ 293 q.2.1) _ (fun q => op.length - q.1) ?_
  rintro ⟨k, CH, c⟩ ⟨i1, i2⟩ ih
  dsimp only at i1 i2 ih ⊢
  iterate 2 (refine kX_one rfl ?_)
  repeat refine kX_one rfl ?_
  refine kX_if (fun q => ?_) (fun q => ?_)
  · have q := qge q k op.length
    obtain rfl : k = op.length := by omega
    exact kX_lv _ rfl rfl rfl (he CH c i2)
  · have q := qgeF q k op.length
    have hmem : op[k] ∈ op := List.getElem_mem q
    have u1 := h200 _ hmem
    obtain ⟨z0, z01, z02⟩ := hz _ hmem
    iterate 7 (refine kX_one rfl ?_)
    refine kX_ialdV rfl rfl (by decide) (k) (by first | rfl | decide) (by omega) (ho k q) ?_
    iterate 1 (refine kX_one rfl ?_)
    refine kX_cal (mr_nextOf L xs d (va_up σ 293 CH) n b op[k] 0 h u1 (Nat.zero_le _)) rfl (Or.inr rfl) rfl rfl rfl (fun r1 σ1 q1 => ?_)
    obtain ⟨hx, rfl⟩ := q1
    rcases hx with ⟨-, hx⟩ | ⟨z, -, z1, z2, -, rfl⟩
    · exact absurd z02 (hx z0 (Nat.zero_le _) z01)
    · refine kX_iastN rfl rfl (by decide) (k) (by first | rfl | decide) (by omega) ?_
      iterate 2 (refine kX_one rfl ?_)
      have := ih (k + 1, upd CH k (nI z), fun p => if p = k then z else c p) ⟨q, fun p hp _ hpk => by
        simp only at hpk ⊢
        by_cases e : p = k
        · subst e
          rw [pk_us, if_pos rfl]
          exact ⟨rfl, z1, z2⟩
        · rw [pk_un e, if_neg e]
          exact i2 p hp (Nat.zero_le _) (by omega)⟩ (by simp only; omega)
      dsimp only at this
      rw [← nI_1] at this
      refine kX_to _ _ rfl rfl rfl ?_ this
      funext c; unfold  va_up; repeat' split
      all_goals first | rfl | omega | (subst_vars; rfl) | (funext j; unfold upd; repeat' split; all_goals first | rfl | omega | (subst_vars; rfl))
theorem nI_dec (k : Nat) : nI k + Int32.ofInt (-1) = nI k - 1 := by
  rw [Int32.sub_eq_add_neg]
  rfl
set_option maxRecDepth 100000 in
set_option maxHeartbeats 4000000 in
theorem mr_rc_down (L : Nat) (xs : Nat → Int32) (d : Nat) (σ : kS) (n b : Nat) (op : List Nat) (c0 : Nat → Nat) (h : mTb σ n b) (h6 : op.length ≤ 6) (ho : lst (σ 292) op) (h200 : ∀ u ∈ op, u < 200) (hz : ∀ u ∈ op, ∃ z, z < n ∧ ofs σ u z) (x s t : Int32) (my : Int64) (Q : Option Value → kS → Prop)
    (he : ∀ K CH c, K ≤ op.length → chI σ n op CH c 0 op.length → (∀ p, p < K → c p = c0 p) → (∀ k (hk : k < op.length), K = k + 1 → ∃ z, c0 k + 1 ≤ z ∧ z < n ∧ ofs σ op[k] z) → kX kT L xs (d + 3) 217 367 [(10, .int (nI K - 1)), (0, .ref 232), (1, .int x), (2, .int s), (3, .int t), (4, .int (nI op.length)), (5, .long my)] [] (va_up σ 293 CH) Q) :
    ∀ q : Nat × (Nat → Int32) × (Nat → Nat), (q.1 ≤ op.length ∧ chI σ n op q.2.1 q.2.2 0 op.length ∧ ∀ p, p < q.1 → q.2.2 p = c0 p) → kX kT L xs (d + 3) 217 314 [(10, .int (nI q.1 - 1)), (0, .ref 232), (1, .int x), (2, .int s), (3, .int t), (4, .int (nI op.length)), (5, .long my)] [] (va_up σ 293 q.2.1) Q := by
  have hn := h.1
  refine kX_while (fun q : Nat × (Nat → Int32) × (Nat → Nat) => [(10, .int (nI q.1 - 1)), (0, .ref 232), (1, .int x), (2, .int s), (3, .int t), (4, .int (nI op.length)), (5, .long my)]) (fun q => va_up σ 293 q.2.1) _ (fun q => q.1) ?_
  rintro ⟨K, CH, c⟩ ⟨i1, i2, i3⟩ ih
  dsimp only at i1 i2 i3 ih ⊢
  rcases Nat.eq_zero_or_pos K with rfl | hK
  · iterate 2 (refine kX_one rfl ?_)
    exact he 0 CH c (Nat.zero_le _) i2 (fun p hp => absurd hp (Nat.not_lt_zero p)) (fun k _ e => by omega)
  · obtain ⟨k, rfl⟩ : ∃ k, K = k + 1 := ⟨K - 1, by omega⟩
    have hk : k < op.length := i1
    obtain ⟨w1, w2, w3⟩ := i2 k hk (Nat.zero_le _) hk
    have hmem : op[k] ∈ op := List.getElem_mem hk
    have u1 := h200 _ hmem
    obtain ⟨z0, z01, z02⟩ := hz _ hmem
    have ek : c k = c0 k := i3 k (by omega)
    rw [nI_pred]
    iterate 1 (refine kX_one rfl ?_)
    repeat refine kX_one rfl ?_
    refine kX_ifF (decide_eq_false (nI_pos (by omega))) ?_
    iterate 4 (refine kX_one rfl ?_)
    refine kX_ialdV rfl rfl (by decide) (k) (by first | rfl | decide) (by omega) (ho k hk) ?_
    iterate 3 (refine kX_one rfl ?_)
    refine kX_ialdV rfl rfl (by decide) (k) (by first | rfl | decide) (by omega) (w1) ?_
    iterate 2 (refine kX_one rfl ?_)
    refine kX_top (nI_1 (c k)) ?_
    refine kX_cal (mr_nextOf L xs d (va_up σ 293 CH) n b op[k] (c k + 1) h u1 w2) rfl (Or.inr rfl) rfl rfl rfl (fun r1 σ1 q1 => ?_)
    obtain ⟨hx, rfl⟩ := q1
    rcases hx with ⟨rfl, hx⟩ | ⟨z, zl, z1, z2, -, rfl⟩
    · iterate 8 (refine kX_one rfl ?_)
      refine kX_ialdV rfl rfl (by decide) (k) (by first | rfl | decide) (by omega) (ho k hk) ?_
      iterate 1 (refine kX_one rfl ?_)
      refine kX_cal (mr_nextOf L xs d (va_up σ 293 CH) n b op[k] 0 h u1 (Nat.zero_le _)) rfl (Or.inr rfl) rfl rfl rfl (fun r1 σ1 q1 => ?_)
      obtain ⟨hx2, rfl⟩ := q1
      rcases hx2 with ⟨-, hx2⟩ | ⟨z, -, z1, z2, -, rfl⟩
      · exact absurd z02 (hx2 z0 (Nat.zero_le _) z01)
      · refine kX_iastN rfl rfl (by decide) (k) (by first | rfl | decide) (by omega) ?_
        iterate 2 (refine kX_one rfl ?_)
        have := ih (k, upd CH k (nI z), fun p => if p = k then z else c p) ⟨by simp only; omega, fun p hp _ hpk => by
          simp only at hpk ⊢
          by_cases e : p = k
          · subst e
            rw [pk_us, if_pos rfl]
            exact ⟨rfl, z1, z2⟩
          · rw [pk_un e, if_neg e]
            exact i2 p hp (Nat.zero_le _) hp, fun p hp => by
          simp only at hp ⊢
          rw [if_neg (show ¬ p = k by omega)]
          exact i3 p (by omega)⟩ (by simp only; omega)
        dsimp only at this
        rw [← nI_dec] at this
        refine kX_to _ _ rfl rfl rfl ?_ this
        funext c; unfold  va_up; repeat' split
        all_goals first | rfl | omega | (subst_vars; rfl) | (funext j; unfold upd; repeat' split; all_goals first | rfl | omega | (subst_vars; rfl))
    · repeat refine kX_one rfl ?_
      refine kX_ifT (decide_eq_true (Int32.not_lt.mp (nI_pos (by omega)))) ?_
      have := he (k + 1) CH c i1 i2 i3 (fun k' hk' e => by
        obtain rfl : k' = k := by omega
        exact ⟨z, by omega, z1, z2⟩)
      rw [nI_pred] at this
      exact this
/-- how far the odometer has turned -/
def oM (c : Nat → Nat) : Nat → Nat
  | 0 => 0
  | p + 1 => oM c p * 201 + (200 - c p)
theorem oM_same {c c' : Nat → Nat} : ∀ q, (∀ p, p < q → c' p = c p) → oM c' q = oM c q
  | 0, _ => rfl
  | q + 1, h => by
    rw [oM, oM, oM_same q (fun p hp => h p (by omega)), h q (by omega)]
theorem oM_lt {c c' : Nat → Nat} {q : Nat} (h1 : ∀ p, p < q → c' p = c p) (h2 : c q < c' q) (h3 : c' q ≤ 200) : ∀ m, q < m → oM c' m < oM c m
  | 0, h => by omega
  | m + 1, h => by
    by_cases e : q = m
    · subst e
      rw [oM, oM, oM_same q h1]
      omega
    · have := oM_lt h1 h2 h3 m (by omega)
      rw [oM, oM]
      omega
end
