/-! the reference: standsFor -/
/-- all that is in a TERM, and itself -/
def tsl (K F S : Nat → Int32) : Nat → Nat → List Nat
  | 0, t => [t]
  | f + 1, t => t :: (if fN (K t) ≤ 3 then [] else tsl K F S f (fN (F t)) ++ (if S t = -1 then [] else tsl K F S f (fN (S t))))
section TSL
variable {V AG : Nat → Prop} {K F S : Nat → Int32}
theorem tsl_all (hV : ∀ t, V t → t < 100000 ∧ tOk V AG K F S t) : ∀ (f t : Nat), t < f → V t → (tsl K F S f t).length = tsz K F S t ∧ t ∈ tsl K F S f t ∧ ∀ u ∈ tsl K F S f t, V u ∧ u ≤ t ∧ (∀ x, F u = nI x → x < 100000 → x ∈ tsl K F S f t) ∧ (∀ y, S u = nI y → y < 100000 → y ∈ tsl K F S f t) := by
  intro f
  induction f with
  | zero => intro t h; omega
  | succ f ih =>
    intro t hf ht
    have hm1 : ∀ z, z < 100000 → (-1 : Int32) = nI z → False := fun z hz e => nI_m1 (by omega) e.symm
    rcases (hV t ht).2 with ⟨k, h3, hk, hF, hS⟩ | ⟨k, x, y, h3, hk, hx, hy, h4, h5, h6, h7⟩ | ⟨k, x, h3, hk, hx, hy, h4, h6⟩
    · have e : tsl K F S (f + 1) t = [t] := by
        rw [tsl, hk, fN_nI (by omega), if_pos h3]
      have ez : tsz K F S t = 1 := tA_0 hk h3
      rw [e]
      refine ⟨by rw [ez]; rfl, List.mem_singleton.mpr rfl, fun u hu => ?_⟩
      rw [List.mem_singleton] at hu
      subst hu
      exact ⟨ht, Nat.le_refl _, fun x ex hx => (hm1 x hx (hF.symm.trans ex)).elim, fun y ey hy => (hm1 y hy (hS.symm.trans ey)).elim⟩
    · have hk3 : ¬ k ≤ 3 := by omega
      have hx9 := (hV x h6).1
      have hy9 := (hV y h7).1
      have hy1 : nI y ≠ -1 := nI_m1 (by omega)
      have e : tsl K F S (f + 1) t = t :: (tsl K F S f x ++ tsl K F S f y) := by
        rw [tsl, hk, fN_nI (show k < 2147483648 by omega), if_neg hk3, hx, hy, if_neg hy1, fN_nI (show x < 2147483648 by omega), fN_nI (show y < 2147483648 by omega)]
      have ez : tsz K F S t = 1 + tsz K F S x + tsz K F S y := tA_2 hV hk hx hy (by omega) (by omega) h4 h5 h6 h7
      obtain ⟨x1, x2, x3⟩ := ih x (by omega) h6
      obtain ⟨y1, y2, y3⟩ := ih y (by omega) h7
      rw [e]
      refine ⟨by rw [List.length_cons, List.length_append, x1, y1, ez]; omega, List.mem_cons_self, fun u hu => ?_⟩
      rcases List.mem_cons.mp hu with rfl | hu
      · refine ⟨ht, Nat.le_refl _, fun z ez hz => ?_, fun z ez hz => ?_⟩
        · have : x = z := nI_inj (hx.symm.trans ez)
          subst this
          exact List.mem_cons_of_mem _ (List.mem_append_left _ x2)
        · have : y = z := nI_inj (hy.symm.trans ez)
          subst this
          exact List.mem_cons_of_mem _ (List.mem_append_right _ y2)
      · rcases List.mem_append.mp hu with hu | hu
        · obtain ⟨a1, a2, a3, a4⟩ := x3 u hu
          exact ⟨a1, by omega, fun z ez hz => List.mem_cons_of_mem _ (List.mem_append_left _ (a3 z ez hz)), fun z ez hz => List.mem_cons_of_mem _ (List.mem_append_left _ (a4 z ez hz))⟩
        · obtain ⟨a1, a2, a3, a4⟩ := y3 u hu
          exact ⟨a1, by omega, fun z ez hz => List.mem_cons_of_mem _ (List.mem_append_right _ (a3 z ez hz)), fun z ez hz => List.mem_cons_of_mem _ (List.mem_append_right _ (a4 z ez hz))⟩
    · have hk3 : ¬ k ≤ 3 := by omega
      have hx9 := (hV x h6).1
      have e : tsl K F S (f + 1) t = t :: tsl K F S f x := by
        rw [tsl, hk, fN_nI (show k < 2147483648 by omega), if_neg hk3, hx, hy, if_pos rfl, fN_nI (show x < 2147483648 by omega), List.append_nil]
      have ez : tsz K F S t = 1 + tsz K F S x := tA_1 hV hk hx hy (by omega) (by omega) h4 h6
      obtain ⟨x1, x2, x3⟩ := ih x (by omega) h6
      rw [e]
      refine ⟨by rw [List.length_cons, x1, ez]; omega, List.mem_cons_self, fun u hu => ?_⟩
      rcases List.mem_cons.mp hu with rfl | hu
      · refine ⟨ht, Nat.le_refl _, fun z ez hz => ?_, fun z ez hz => (hm1 z hz (hy.symm.trans ez)).elim⟩
        have : x = z := nI_inj (hx.symm.trans ez)
        subst this
        exact List.mem_cons_of_mem _ x2
      · obtain ⟨a1, a2, a3, a4⟩ := x3 u hu
        exact ⟨a1, by omega, fun z ez hz => List.mem_cons_of_mem _ (a3 z ez hz), fun z ez hz => List.mem_cons_of_mem _ (a4 z ez hz)⟩
/-- the VARIABLES of what is in a TERM are in it -/
theorem tsl_tvs (hV : ∀ t, V t → t < 100000 ∧ tOk V AG K F S t) : ∀ (f t : Nat), t < f → V t → ∀ u ∈ tsl K F S f t, ∀ v ∈ tvs K F S u, v ∈ tvs K F S t := by
  intro f
  induction f with
  | zero => intro t h; omega
  | succ f ih =>
    intro t hf ht u hu v hv
    rcases (hV t ht).2 with ⟨k, h3, hk, hF, hS⟩ | ⟨k, x, y, h3, hk, hx, hy, h4, h5, h6, h7⟩ | ⟨k, x, h3, hk, hx, hy, h4, h6⟩
    · rw [tsl, hk, fN_nI (by omega), if_pos h3, List.mem_singleton] at hu
      subst hu
      exact hv
    · have hk3 : ¬ k ≤ 3 := by omega
      have hx9 := (hV x h6).1
      have hy9 := (hV y h7).1
      have hy1 : nI y ≠ -1 := nI_m1 (by omega)
      rw [tsl, hk, fN_nI (show k < 2147483648 by omega), if_neg hk3, hx, hy, if_neg hy1, fN_nI (show x < 2147483648 by omega), fN_nI (show y < 2147483648 by omega)] at hu
      have et : tvs K F S t = tvs K F S x ++ tvs K F S y := tA_2 hV hk hx hy (by omega) (by omega) h4 h5 h6 h7
      rcases List.mem_cons.mp hu with rfl | hu
      · exact hv
      · rw [et]
        rcases List.mem_append.mp hu with hu | hu
        · exact List.mem_append_left _ (ih x (by omega) h6 u hu v hv)
        · exact List.mem_append_right _ (ih y (by omega) h7 u hu v hv)
    · have hk3 : ¬ k ≤ 3 := by omega
      have hx9 := (hV x h6).1
      rw [tsl, hk, fN_nI (show k < 2147483648 by omega), if_neg hk3, hx, hy, if_pos rfl, fN_nI (show x < 2147483648 by omega), List.append_nil] at hu
      have et : tvs K F S t = tvs K F S x ++ [] := tA_1 hV hk hx hy (by omega) (by omega) h4 h6
      rcases List.mem_cons.mp hu with rfl | hu
      · exact hv
      · rw [et, List.append_nil]
        exact ih x (by omega) h6 u hu v hv
end TSL
theorem cnt_mem : ∀ (l : List Nat) (m : Nat), cnt (fun u => u ∈ l) m ≤ l.length
  | [], m => by rw [cnt_zero (fun u hu => by cases hu)]; exact Nat.zero_le _
  | a :: l, m => by
    have ih := cnt_mem l m
    by_cases ha : a ∈ l
    · have : cnt (fun u => u ∈ a :: l) m = cnt (fun u => u ∈ l) m := cnt_congr m (fun t _ => by
        rw [List.mem_cons]
        exact ⟨fun q => q.elim (fun e => by rw [e]; exact ha) id, Or.inr⟩)
      rw [this, List.length_cons]
      omega
    · by_cases hm : a < m
      · have := cnt_add (f := fun u => u ∈ l) (g := fun u => u ∈ a :: l) (t := a) ha (fun u => by rw [List.mem_cons]; exact or_comm) m hm
        rw [this, List.length_cons]
        omega
      · have : cnt (fun u => u ∈ a :: l) m = cnt (fun u => u ∈ l) m := cnt_congr m (fun t ht => by
          rw [List.mem_cons]
          exact ⟨fun q => q.elim (fun e => by omega) id, Or.inr⟩)
        rw [this, List.length_cons]
        omega
theorem cnt_mono {f g : Nat → Prop} (h : ∀ u, f u → g u) : ∀ m, cnt f m ≤ cnt g m
  | 0 => Nat.le_refl _
  | m + 1 => by
    have := cnt_mono h m
    unfold cnt
    by_cases hf : f m
    · rw [if_pos hf, if_pos (h m hf)]
      omega
    · rw [if_neg hf]
      split <;> omega
theorem cnt_up (f : Nat → Prop) : ∀ {m m' : Nat}, m ≤ m' → cnt f m ≤ cnt f m' := by
  intro m m' h
  induction m' with
  | zero =>
    obtain rfl : m = 0 := by omega
    exact Nat.le_refl _
  | succ m' ih =>
    by_cases e : m = m' + 1
    · subst e
      exact Nat.le_refl _
    · have := ih (by omega)
      rw [show cnt f (m' + 1) = cnt f m' + @ite _ (f m') (Classical.propDecidable _) 1 0 from rfl]
      omega
