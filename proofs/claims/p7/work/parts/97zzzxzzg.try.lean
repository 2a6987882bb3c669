/-! alike: tryWays -/
theorem lI_toInt {k : Nat} (h : k < 9223372036854775808) : (lI k).toInt = k := by
  unfold lI
  rw [Int64.toInt_ofInt_of_le (by omega) (by omega)]
theorem lI_32 {k : Nat} (h : k < 2147483648) : (lI k).toInt32 = nI k := by
  apply Int32.toInt_inj.mp
  rw [Int64.toInt_toInt32, lI_toInt (by omega), nI_toInt h, Int.bmod_def]
  have : (k : Int) % ((2 ^ 32 : Nat) : Int) = k := Int.emod_eq_of_lt (by omega) (by omega)
  rw [this, if_pos (by omega)]
theorem wyN_le : ∀ {cs : List Nat}, (∀ c ∈ cs, c ≤ 200) → wyN cs ≤ 200 ^ cs.length
  | [], _ => by decide
  | c :: cs, h => by
    have h1 := wyN_le (cs := cs) (fun x hx => h x (List.mem_cons_of_mem _ hx))
    have h2 := h c List.mem_cons_self
    show c * wyN cs ≤ 200 ^ (cs.length + 1)
    rw [Nat.pow_succ, Nat.mul_comm (200 ^ cs.length)]
    exact Nat.mul_le_mul h2 h1
theorem sub_toInt {k : Nat} (hk : k ≤ 20001) : ((Int16.ofInt 20000).toInt32 - nI k).toInt = 20000 - (k : Int) := by
  rw [show (Int16.ofInt 20000).toInt32 = nI 20000 from rfl, Int32.toInt_sub, nI_toInt (by omega), nI_toInt (by omega), Int.bmod_def]
  by_cases q : k ≤ 20000
  · have : (((20000 : Nat) : Int) - (k : Int)) % ((2 ^ 32 : Nat) : Int) = 20000 - k := Int.emod_eq_of_lt (by omega) (by omega)
    rw [this, if_pos (by omega)]
  · obtain rfl : k = 20001 := by omega
    decide
theorem lw_in {W k : Nat} (hW : W < 9223372036854775808) (hk : k ≤ 20001) (q : jcmp .le (lg_cmp (lI W) ((Int16.ofInt 20000).toInt32 - nI k).toInt64) 0 = true) : k + W ≤ 20000 := by
  have q := lw_le q
  rw [Int64.le_iff_toInt_le, lI_toInt hW, Int32.toInt_toInt64, sub_toInt hk] at q
  omega
theorem lw_out {W k : Nat} (hW : W < 9223372036854775808) (hk : k ≤ 20001) (q : jcmp .le (lg_cmp (lI W) ((Int16.ofInt 20000).toInt32 - nI k).toInt64) 0 = false) : 20000 < k + W := by
  have q : ¬ lg_cmp (lI W) ((Int16.ofInt 20000).toInt32 - nI k).toInt64 ≤ 0 := of_decide_eq_false q
  refine Classical.byContradiction (fun z => q ?_)
  have : ¬ lI W > ((Int16.ofInt 20000).toInt32 - nI k).toInt64 := by
    show ¬ ((Int16.ofInt 20000).toInt32 - nI k).toInt64 < lI W
    rw [Int64.lt_iff_toInt_lt, lI_toInt hW, Int32.toInt_toInt64, sub_toInt hk]
    omega
  unfold lg_cmp
  rw [if_neg this]
  split <;> decide
theorem lw_ge {j W : Nat} (hj : j < 2147483648) (hW : W < 2147483648) (q : jcmp .ge (lg_cmp (nI j).toInt64 (lI W)) 0 = true) : W ≤ j := by
  have q : 0 ≤ lg_cmp (nI j).toInt64 (lI W) := of_decide_eq_true q
  rw [lg_cmp_ge, Int64.le_iff_toInt_le, Int32.toInt_toInt64, nI_toInt hj, lI_toInt (by omega)] at q
  omega
theorem lw_geF {j W : Nat} (hj : j < 2147483648) (hW : W < 2147483648) (q : jcmp .ge (lg_cmp (nI j).toInt64 (lI W)) 0 = false) : j < W := by
  have q : ¬ 0 ≤ lg_cmp (nI j).toInt64 (lI W) := of_decide_eq_false q
  rw [lg_cmp_ge, Int64.le_iff_toInt_le, Int32.toInt_toInt64, nI_toInt hj, lI_toInt (by omega)] at q
  omega
theorem sWy_n {σ : kS} {kl : List Nat} {S C i s t : Nat} {a : Nat → Int32} {ps : List Nat} {os : List (List Nat)} {x : sX} (h : x.2.2.2 ≠ 0) : ∀ m w, sWy σ kl S C i s a t ps os m w x = x
  | 0, _ => rfl
  | m + 1, w => by
    rw [sWy, cit_F h]
/-- one way -/
noncomputable def sW1 (σ : kS) (kl : List Nat) (n S C i s : Nat) (a : Nat → Int32) (r dn t w : Nat) (x : sX) : sX := cit (trM σ (trSt (stI σ a) kl S) (tin (stI σ (aWy σ n r dn s a w)) s t)) (sRe σ kl S C x (aWy σ n r dn s a w) (nI i) (nI s)) x
theorem sWy_s {σ : kS} {kl : List Nat} {n S C i s t r dn : Nat} {a : Nat → Int32} {x : sX} (h : x.2.2.2 = 0) (m w : Nat) : sWy σ kl S C i s a t (owP σ r dn) (owO σ n r dn) (m + 1) w x = sWy σ kl S C i s a t (owP σ r dn) (owO σ n r dn) m (w + 1) (sW1 σ kl n S C i s a r dn t w x) := by
  rw [sWy, cit_T h]
  rfl
/-- STATES only come -/
theorem sRe_pre {σ : kS} {kl : List Nat} {S C i : Nat} {x : sX} {a : Nat → Int32} {f y : Int32} (hi : i < x.1.length) : i < (sRe σ kl S C x a f y).1.length ∧ xq (sRe σ kl S C x a f y).1 i = xq x.1 i := by
  unfold sRe
  by_cases q : ∃ q ∈ x.1, q.1 = a
  · rw [cit_T q]
    exact ⟨hi, rfl⟩
  · rw [cit_F q]
    by_cases q2 : 600 ≤ x.1.length
    · rw [cit_T q2]
      exact ⟨hi, rfl⟩
    · rw [cit_F q2]
      refine ⟨?_, xq_lt hi⟩
      show i < (x.1 ++ [(a, f, y)]).length
      rw [List.length_append]
      exact Nat.lt_add_right _ hi
theorem sW1_pre {σ : kS} {kl : List Nat} {n S C i j s r dn t w : Nat} {x : sX} {a : Nat → Int32} (hi : j < x.1.length) : j < (sW1 σ kl n S C i s a r dn t w x).1.length ∧ xq (sW1 σ kl n S C i s a r dn t w x).1 j = xq x.1 j := by
  unfold sW1
  by_cases q : trM σ (trSt (stI σ a) kl S) (tin (stI σ (aWy σ n r dn s a w)) s t)
  · rw [cit_T q]
    exact sRe_pre hi
  · rw [cit_F q]
    exact ⟨hi, rfl⟩
/-- receiving brings the intruder nothing -/
theorem tr_way {σ : kS} {n b R S C s r dn t w m : Nat} {kl : List Nat} {a : Nat → Int32} (h : aJ σ n b R S C kl m) (ha : aOk σ n R S a) (hs : s < S) (r1 : r < R) (r2 : σ 255 s = nI r) (r3 : a (7 * s) = nI dn) (hdn : dn < fN (σ 247 r)) (hse : σ 249 (6 * r + dn) = 0) (ht : t < n) (het : σ 248 (6 * r + dn) = nI t) (hw : w < wyN ((owO σ n r dn).map List.length)) : trSt (stI σ (aWy σ n r dn s a w)) kl S = trSt (stI σ a) kl S := by
  have hT := h.1.1
  have hR := h.1.2.1
  have hR4 := hR.1
  have he6 : fN (σ 247 r) ≤ 6 := by
    obtain ⟨-, e, e1, e2⟩ := hR.2.2.1 r r1
    rw [e2, fN_nI (by omega)]
    exact e1
  obtain ⟨-, hp, -⟩ := aOk_way hT hR ha hs r1 r2 r3 hdn hse ht het hw
  refine trSt_cg (σ := stI σ a) (b := b) hT hR h.1.2.2.2.1 (aOk_Sv hT hR h.1.2.2.1 ha) (fun u _ => ⟨rfl, rfl, rfl⟩) (eqC_of (P := fun c => c ≠ 264 ∧ c ≠ 265) (fun c q => by rw [stI_lo _ _ q.1 q.2, stI_lo _ _ q.1 q.2]) _ (by decide)) (fun u hu => ?_) (fun u k hu hk hne => ?_)
  · by_cases e : u = s
    · subst e
      refine Or.inr ⟨((hp.2 u hu).2 rfl).1, ?_⟩
      show σ 249 (6 * fN (σ 255 u) + fN (a (7 * u))) = 0
      rw [r2, r3, fN_nI (by omega), fN_nI (by omega)]
      exact hse
    · exact Or.inl ((hp.2 u hu).1 e).1
  · by_cases e : u = s
    · exact ((hp.2 u hu).2 e).2 k hk hne
    · exact ((hp.2 u hu).1 e).2 k hk
theorem dgv_0 (cs : List Nat) : (fun j => (dg cs 0).getD j 0) = fun _ => 0 := by
  funext j
  rw [List.getD_eq_getElem?_getD]
  by_cases h : j < cs.length
  · rw [List.getElem?_eq_getElem (by rw [dg_len]; exact h)]
    exact dg_0 cs j h
  · rw [List.getElem?_eq_none (by rw [dg_len]; omega)]
    rfl
/-- how the loop over the ways stands: the way before was w - 1 -/
def twI (σ τ ω : kS) (n S s r dn u : Nat) (pl : List Nat) (l : rwT) (w : Nat) : Prop := (w = 0 → ω 202 = τ 202) ∧ (w ≠ 0 → wyQ ω ω s (owP σ r dn) (owS σ r dn) (fun so => opL σ so n) (fun j => (dg ((owO σ n r dn).map List.length) (w - 1)).getD j 0) (τ 202) (owS σ r dn).length ∧ ∀ x ∈ pl, ptQ ω n u l s x)
