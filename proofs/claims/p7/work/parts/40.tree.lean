/-! TERMS as they lie in three rows (kind, first, second); what is told of one by going down -/
def fN (x : Int32) : Nat := x.toNatClampNeg
theorem fN_nI {k : Nat} (h : k < 2147483648) : fN (nI k) = k := nI_clamp h
/-- t is a TERM whose parts are of V; AG: what may be an AGENT -/
def tOk (V AG : Nat → Prop) (K F S : Nat → Int32) (t : Nat) : Prop :=
  (∃ k, k ≤ 3 ∧ K t = nI k ∧ F t = -1 ∧ S t = -1) ∨
  (∃ k x y, (k = 4 ∨ k = 5 ∨ ((k = 6 ∨ k = 8) ∧ AG y)) ∧ K t = nI k ∧ F t = nI x ∧ S t = nI y ∧ x < t ∧ y < t ∧ V x ∧ V y) ∨
  (∃ k x, (k = 9 ∨ (k = 7 ∧ AG x)) ∧ K t = nI k ∧ F t = nI x ∧ S t = -1 ∧ x < t ∧ V x)
/-- a fold over what a TERM is of -/
def tF {α : Type} (lf : Nat → α) (nd : Nat → α → Option α → α) (K F S : Nat → Int32) : Nat → Nat → α
  | 0, t => lf t
  | f + 1, t => if fN (K t) ≤ 3 then lf t else nd (fN (K t)) (tF lf nd K F S f (fN (F t))) (if S t = -1 then none else some (tF lf nd K F S f (fN (S t))))
theorem tF_fuel {α : Type} {lf : Nat → α} {nd : Nat → α → Option α → α} {V AG : Nat → Prop} {K F S : Nat → Int32} (hV : ∀ t, V t → t < 100000 ∧ tOk V AG K F S t) : ∀ (f g t : Nat), V t → t < f → t < g → tF lf nd K F S f t = tF lf nd K F S g t := by
  intro f
  induction f with
  | zero => intro g t _ h; omega
  | succ f ih =>
    intro g t ht h1 h2
    obtain ⟨g, rfl⟩ : ∃ g', g = g' + 1 := ⟨g - 1, by omega⟩
    unfold tF
    rcases (hV t ht).2 with ⟨k, h3, hk, -, -⟩ | ⟨k, x, y, h3, hk, hx, hy, h4, h5, h6, h7⟩ | ⟨k, x, h3, hk, hx, hy, h4, h6⟩
    · rw [hk, fN_nI (by omega), if_pos h3, if_pos h3]
    · have hk9 : k ≤ 8 := by omega
      have := (hV t ht).1
      have hk3 : ¬ k ≤ 3 := by omega
      have hy1 : nI y ≠ -1 := nI_m1 (by omega)
      rw [hk, fN_nI (show k < 2147483648 by omega), if_neg hk3, if_neg hk3, hx, hy, if_neg hy1, if_neg hy1, fN_nI (show x < 2147483648 by omega), fN_nI (show y < 2147483648 by omega), ih g x h6 (by omega) (by omega), ih g y h7 (by omega) (by omega)]
    · have hk9 : k ≤ 9 := by omega
      have := (hV t ht).1
      have hk3 : ¬ k ≤ 3 := by omega
      rw [hk, fN_nI (show k < 2147483648 by omega), if_neg hk3, if_neg hk3, hx, hy, if_pos rfl, if_pos rfl, fN_nI (show x < 2147483648 by omega), ih g x h6 (by omega) (by omega)]
/-- of the TERM t -/
def tA {α : Type} (lf : Nat → α) (nd : Nat → α → Option α → α) (K F S : Nat → Int32) (t : Nat) : α := tF lf nd K F S (t + 1) t
section TA
variable {α : Type} {lf : Nat → α} {nd : Nat → α → Option α → α} {V AG : Nat → Prop} {K F S : Nat → Int32}
theorem tA_0 {t k : Nat} (hk : K t = nI k) (h3 : k ≤ 3) : tA lf nd K F S t = lf t := by
  unfold tA tF
  rw [hk, fN_nI (by omega), if_pos h3]
theorem tA_2 (hV : ∀ t, V t → t < 100000 ∧ tOk V AG K F S t) {t k x y : Nat} (hk : K t = nI k) (hx : F t = nI x) (hy : S t = nI y) (h3 : 3 < k) (hk9 : k ≤ 9) (h4 : x < t) (h5 : y < t) (h6 : V x) (h7 : V y) : tA lf nd K F S t = nd k (tA lf nd K F S x) (some (tA lf nd K F S y)) := by
  have h8 := (hV x h6).1
  have h9 := (hV y h7).1
  unfold tA
  have hk3 : ¬ k ≤ 3 := by omega
  have hy1 : nI y ≠ -1 := nI_m1 (by omega)
  rw [tF, hk, fN_nI (show k < 2147483648 by omega), if_neg hk3, hx, hy, if_neg hy1, fN_nI (show x < 2147483648 by omega), fN_nI (show y < 2147483648 by omega), tF_fuel hV t (x + 1) x h6 (by omega) (by omega), tF_fuel hV t (y + 1) y h7 (by omega) (by omega)]
theorem tA_1 (hV : ∀ t, V t → t < 100000 ∧ tOk V AG K F S t) {t k x : Nat} (hk : K t = nI k) (hx : F t = nI x) (hy : S t = -1) (h3 : 3 < k) (hk9 : k ≤ 9) (h4 : x < t) (h6 : V x) : tA lf nd K F S t = nd k (tA lf nd K F S x) none := by
  have h8 := (hV x h6).1
  unfold tA
  have hk3 : ¬ k ≤ 3 := by omega
  rw [tF, hk, fN_nI (show k < 2147483648 by omega), if_neg hk3, hx, hy, if_pos rfl, fN_nI (show x < 2147483648 by omega), tF_fuel hV t (x + 1) x h6 (by omega) (by omega)]
/-- what is told of t hangs on what stands at V alone -/
theorem tA_congr {K' F' S' : Nat → Int32} {lf' : Nat → α} (hV : ∀ t, V t → t < 100000 ∧ tOk V AG K F S t) (hK : ∀ t, V t → K' t = K t ∧ F' t = F t ∧ S' t = S t ∧ lf' t = lf t) : ∀ t, V t → tA lf' nd K' F' S' t = tA lf nd K F S t := by
  intro t
  induction t using Nat.strongRecOn with
  | _ t ih =>
    intro ht
    obtain ⟨e1, e2, e3, e4⟩ := hK t ht
    have hV' : ∀ t, V t → t < 100000 ∧ tOk V AG K' F' S' t := fun t ht => by
      obtain ⟨e1, e2, e3, -⟩ := hK t ht
      refine ⟨(hV t ht).1, ?_⟩
      have := (hV t ht).2
      unfold tOk at this ⊢
      rw [e1, e2, e3]
      exact this
    rcases (hV t ht).2 with ⟨k, h3, hk, -, -⟩ | ⟨k, x, y, h3, hk, hx, hy, h4, h5, h6, h7⟩ | ⟨k, x, h3, hk, hx, hy, h4, h6⟩
    · rw [tA_0 (e1.trans hk) h3, tA_0 hk h3, e4]
    · rw [tA_2 hV' (e1.trans hk) (e2.trans hx) (e3.trans hy) (by omega) (by omega) h4 h5 h6 h7, tA_2 hV hk hx hy (by omega) (by omega) h4 h5 h6 h7, ih x h4 h6, ih y h5 h7]
    · rw [tA_1 hV' (e1.trans hk) (e2.trans hx) (e3.trans hy) (by omega) (by omega) h4 h6, tA_1 hV hk hx hy (by omega) (by omega) h4 h6, ih x h4 h6]
end TA
/-- SIZE -/
def tsz (K F S : Nat → Int32) (t : Nat) : Nat := tA (fun _ => 1) (fun _ a b => 1 + a + b.getD 0) K F S t
/-- GROUND -/
def tgd (K F S : Nat → Int32) (t : Nat) : Bool := tA (fun t => decide (K t ≠ nI 3)) (fun _ a b => a && b.getD true) K F S t
def bI (b : Bool) : Int32 := if b then 1 else 0
theorem bI_01 (b : Bool) : bI b = 0 ∨ bI b = 1 := by cases b <;> decide
theorem bI_ne (b : Bool) : bI b ≠ 0 ↔ b = true := by cases b <;> decide
theorem bI_eq (b : Bool) : bI b = 0 ↔ b = false := by cases b <;> decide
