/-! how large what comes in a row may be -/
def vsz : Jvm.Term → Nat
  | .add a b => 1 + vsz a + vsz b
  | .sub a b => 1 + vsz a + vsz b
  | .mul a b => 1 + vsz a + vsz b
  | .div a b => 1 + vsz a + vsz b
  | .length a => 1 + vsz a
  | .sum a => 1 + vsz a
  | _ => 1
theorem vsz_nd2 (k : Nat) (a b : Jvm.Term) : vsz (vnd k a (some b)) = 1 + vsz a + vsz b := by
  unfold vnd
  dsimp only
  repeat' split
  all_goals rfl
theorem vsz_nd1 (k : Nat) (a : Jvm.Term) : vsz (vnd k a none) = 1 + vsz a := by
  unfold vnd
  dsimp only
  repeat' split
  all_goals rfl
theorem vsz_tvl {V AG : Nat → Prop} {K F S : Nat → Int32} (hV : ∀ t, V t → t < 100000 ∧ tOk V AG K F S t) : ∀ t, V t → vsz (tvl K F S t) = tsz K F S t := by
  intro t
  induction t using Nat.strongRecOn with
  | _ t ih =>
    intro ht
    rcases (hV t ht).2 with ⟨k, h3, hk, -, -⟩ | ⟨k, x, y, h3, hk, hx, hy, h4, h5, h6, h7⟩ | ⟨k, x, h3, hk, hx, hy, h4, h6⟩
    · unfold tvl tsz
      rw [tA_0 hk h3, tA_0 hk h3]
      rfl
    · have ix := ih x h4 h6
      have iy := ih y h5 h7
      unfold tvl tsz at ix iy ⊢
      rw [tA_2 hV hk hx hy (by omega) (by omega) h4 h5 h6 h7, tA_2 hV hk hx hy (by omega) (by omega) h4 h5 h6 h7, vsz_nd2, ix, iy]
      rfl
    · have ix := ih x h4 h6
      unfold tvl tsz at ix ⊢
      rw [tA_1 hV hk hx hy (by omega) (by omega) h4 h6, tA_1 hV hk hx hy (by omega) (by omega) h4 h6, vsz_nd1, ix]
      rfl
theorem vsz_tin {σ : kS} {n b s : Nat} (h : mTb σ n b) : ∀ t, t < n → mSt σ n s t → vsz (tin σ s t) ≤ 24 * tsz (σ 233) (σ 234) (σ 235) t := by
  have hV := mTb_num h
  have h24 := h.2.2.2.2.2.2.2.2.2
  intro t
  induction t using Nat.strongRecOn with
  | _ t ih =>
    intro ht hS
    rcases (hV t ht).2 with ⟨k, h3, hk, -, -⟩ | ⟨k, x, y, h3, hk, hx, hy, h4, h5, h6, h7⟩ | ⟨k, x, h3, hk, hx, hy, h4, h6⟩
    · have e1 : tsz (σ 233) (σ 234) (σ 235) t = 1 := by
        unfold tsz
        rw [tA_0 hk h3]
      have e2 : tin σ s t = if σ 233 t = nI 3 then tvl (σ 233) (σ 234) (σ 235) (mVl σ s t) else .arg t := tA_0 hk h3
      rw [e1, e2]
      split
      · next e =>
        have e3 : tvs (σ 233) (σ 234) (σ 235) t = [t] := by
          unfold tvs
          rw [tA_0 hk h3, if_pos e]
        obtain ⟨p, z, z1, z2, z3, z4, -⟩ := hS t (by rw [e3]; simp)
        have hn := h.1
        have : mVl σ s t = z := by
          unfold mVl
          rw [z3, fN_nI (by omega), z4, fN_nI (by omega)]
        rw [this, vsz_tvl hV z z2]
        have := h24 z z2
        omega
      · show 1 ≤ _
        omega
    · have e1 : tsz (σ 233) (σ 234) (σ 235) t = 1 + tsz (σ 233) (σ 234) (σ 235) x + tsz (σ 233) (σ 234) (σ 235) y := by
        unfold tsz
        rw [tA_2 hV hk hx hy (by omega) (by omega) h4 h5 h6 h7]
        rfl
      have e2 : tin σ s t = vnd k (tin σ s x) (some (tin σ s y)) := tA_2 hV hk hx hy (by omega) (by omega) h4 h5 h6 h7
      have e3 : tvs (σ 233) (σ 234) (σ 235) t = tvs (σ 233) (σ 234) (σ 235) x ++ tvs (σ 233) (σ 234) (σ 235) y := by
        unfold tvs
        rw [tA_2 hV hk hx hy (by omega) (by omega) h4 h5 h6 h7]
        rfl
      have ix := ih x h4 h6 (fun u hu => hS u (by rw [e3]; exact List.mem_append_left _ hu))
      have iy := ih y h5 h7 (fun u hu => hS u (by rw [e3]; exact List.mem_append_right _ hu))
      rw [e1, e2, vsz_nd2]
      omega
    · have e1 : tsz (σ 233) (σ 234) (σ 235) t = 1 + tsz (σ 233) (σ 234) (σ 235) x := by
        unfold tsz
        rw [tA_1 hV hk hx hy (by omega) (by omega) h4 h6]
        rfl
      have e2 : tin σ s t = vnd k (tin σ s x) none := tA_1 hV hk hx hy (by omega) (by omega) h4 h6
      have e3 : tvs (σ 233) (σ 234) (σ 235) t = tvs (σ 233) (σ 234) (σ 235) x := by
        unfold tvs
        rw [tA_1 hV hk hx hy (by omega) (by omega) h4 h6]
        exact List.append_nil _
      have ix := ih x h4 h6 (fun u hu => hS u (by rw [e3]; exact hu))
      rw [e1, e2, vsz_nd1]
      omega
/-- all of a row of trees are at most so large -/
def trB (l : trT) : Prop := ∀ q ∈ l, vsz q.1 ≤ 576
theorem trB_A {l : trT} {g : Jvm.Term} {w p : Int32} (h : trB l) (hg : vsz g ≤ 576) : trB (trA l g w p) := by
  unfold trA cit
  split
  · exact h
  · intro q hq
    rcases List.mem_append.mp hq with hq | hq
    · exact h q hq
    · rw [List.mem_singleton] at hq
      subst hq
      exact hg
theorem trB_K {A : Nat → Prop} {H : Nat → Int32} {l : trT} {p : Nat} (h : trB l) : trB (trK A H l p) := by
  unfold trK
  split
  · next a b c e =>
    have := h _ (List.mem_of_getElem? e)
    have e2 : vsz (Jvm.Term.add a b) = 1 + vsz a + vsz b := rfl
    rw [e2] at this
    exact trB_A (trB_A h (by omega)) (by omega)
  · next a b c e =>
    have := h _ (List.mem_of_getElem? e)
    have e2 : vsz (Jvm.Term.sub a b) = 1 + vsz a + vsz b := rfl
    rw [e2] at this
    unfold cit
    split
    · exact trB_A h (by omega)
    · exact h
  · next a b c e =>
    have := h _ (List.mem_of_getElem? e)
    have e2 : vsz (Jvm.Term.mul a b) = 1 + vsz a + vsz b := rfl
    rw [e2] at this
    unfold cit
    split
    · exact trB_A h (by omega)
    · exact h
  · next a b c e =>
    have := h _ (List.mem_of_getElem? e)
    have e2 : vsz (Jvm.Term.div a b) = 1 + vsz a + vsz b := rfl
    rw [e2] at this
    exact trB_A h (by omega)
  · exact h
theorem trB_P {A : Nat → Prop} {H : Nat → Int32} : ∀ (f p : Nat) (l : trT), trB l → trB (trP A H f p l)
  | 0, _, _, h => h
  | f + 1, p, l, h => by
    unfold trP
    split
    · exact trB_P f _ _ (trB_K h)
    · exact h
theorem trB_E {A : Nat → Prop} {H : Nat → Int32} : ∀ (f : Nat) (l : trT), trB l → trB (trE A H f l)
  | 0, _, h => h
  | f + 1, l, h => by
    unfold trE
    split
    · exact trB_E f _ (trB_P _ _ _ h)
    · exact trB_P _ _ _ h
theorem trB_Kn {σ : kS} {n b : Nat} {kl : List Nat} (h : mTb σ n b) (hK : mKn σ n kl) : trB (trKn σ kl) := by
  have hV := mTb_num h
  have h24 := h.2.2.2.2.2.2.2.2.2
  have key : ∀ (kl : List Nat) (l : trT), (∀ t ∈ kl, t < n) → trB l → trB (kl.foldl (fun l t => trA l (tvl (σ 233) (σ 234) (σ 235) t) (nI 0) (-6)) l) := by
    intro kl
    induction kl with
    | nil => exact fun l _ hl => hl
    | cons a kl ih =>
      intro l hk hl
      have ha := hk a List.mem_cons_self
      refine ih _ (fun t ht => hk t (List.mem_cons_of_mem _ ht)) (trB_A hl ?_)
      rw [vsz_tvl hV a ha]
      have := h24 a ha
      omega
  exact key kl [] (fun t ht => (hK.2.2.2 t ht).1) (fun q hq => (by cases hq))
theorem trB_Sn {σ : kS} {n b R S : Nat} {ds : List Nat} {tr : trT} (h : mTb σ n b) (hR : mRo σ n R) (hS : mRn σ n R S ds) (ht : trB tr) : ∀ k, k ≤ ds.length → trB (trSn σ ds tr k)
  | 0, _ => ht
  | k + 1, hk => by
    have hn := h.1
    have hR4 := hR.1
    have ih := trB_Sn h hR hS ht k (by omega)
    have hkl : k < ds.length := hk
    have hgd : ds.getD k 0 = ds[k] := by rw [List.getD_eq_getElem?_getD, List.getElem?_eq_getElem hkl]; rfl
    obtain ⟨r, r1, r2, r3, r4, r5, r6, -⟩ := hS.2.2.2 _ (hS.2.2.1 _ (List.getElem_mem hkl))
    have hcnt : (ds.take k).count ds[k] < ds.count ds[k] := by
      have := count_take_le ds ds[k] (k + 1)
      rw [List.take_succ_eq_append_getElem hkl, List.count_append] at this
      simp at this
      omega
    have hmev2 : mEv σ ds[k] ((ds.take k).count ds[k]) = 6 * r + (ds.take k).count ds[k] := by
      unfold mEv
      rw [r2, fN_nI (by omega)]
    obtain ⟨t, t1, t2, -⟩ := hR.2.2.2.2.2 r ((ds.take k).count ds[k]) r1 (by omega)
    have hst := r6 _ hcnt
    rw [trSn, hgd, hmev2]
    rw [t2, fN_nI (by omega)] at hst ⊢
    unfold cit
    split
    · refine trB_A ih ?_
      have h1 := vsz_tin h t t1 hst
      have h2 := h.2.2.2.2.2.2.2.2.2 t t1
      omega
    · exact ih
theorem trB_run {σ : kS} {n b R S : Nat} {kl ds : List Nat} (h : mTb σ n b) (hR : mRo σ n R) (hK : mKn σ n kl) (hS : mRn σ n R S ds) : trB (trRun σ kl ds) := trB_E _ _ (trB_Sn h hR hS (trB_Kn h hK) _ (Nat.le_refl _))
/-- .. so the TERMS of the row are -/
theorem rwM_sz {σ ρ : kS} {n b R S n' b' : Nat} {kl ds : List Nat} {l : rwT} (h : mTb σ n b) (hR : mRo σ n R) (hK : mKn σ n kl) (hS : mRn σ n R S ds) (hT : mTb ρ n' b') (e : rwM ρ l = trRun σ kl ds) {t : Nat} (hi : rwI l t) (hv : mv n' b' t) : tsz (ρ 233) (ρ 234) (ρ 235) t ≤ 576 := by
  have hb := trB_run h hR hK hS
  rw [← e] at hb
  obtain ⟨q, hq, rfl⟩ := hi
  have := hb _ (List.mem_map.mpr ⟨q, hq, rfl⟩)
  rw [vsz_tvl hT.2.2.2.2.2.1.1 _ hv] at this
  exact this
