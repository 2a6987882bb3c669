/-! what a TERM is, as a tree; which trees a row makes -/
def vnd (k : Nat) (a : Jvm.Term) (b : Option Jvm.Term) : Jvm.Term := match b with
  | some b => if k = 4 then .add a b else if k = 5 then .sub a b else if k = 6 then .mul a b else .div a b
  | none => if k = 7 then .length a else .sum a
def tvl (K F S : Nat → Int32) (t : Nat) : Jvm.Term := tA (fun t => .arg t) vnd K F S t
theorem tvl_0 {K F S : Nat → Int32} {t k : Nat} (hk : K t = nI k) (h3 : k ≤ 3) : tvl K F S t = .arg t := tA_0 hk h3
section TVL
variable {V AG : Nat → Prop} {K F S : Nat → Int32}
theorem tvl_2 (hV : ∀ t, V t → t < 100000 ∧ tOk V AG K F S t) {t k x y : Nat} (hk : K t = nI k) (hx : F t = nI x) (hy : S t = nI y) (h3 : 3 < k) (hk9 : k ≤ 9) (h4 : x < t) (h5 : y < t) (h6 : V x) (h7 : V y) : tvl K F S t = vnd k (tvl K F S x) (some (tvl K F S y)) := tA_2 hV hk hx hy h3 hk9 h4 h5 h6 h7
theorem tvl_1 (hV : ∀ t, V t → t < 100000 ∧ tOk V AG K F S t) {t k x : Nat} (hk : K t = nI k) (hx : F t = nI x) (hy : S t = -1) (h3 : 3 < k) (hk9 : k ≤ 9) (h4 : x < t) (h6 : V x) : tvl K F S t = vnd k (tvl K F S x) none := tA_1 hV hk hx hy h3 hk9 h4 h6
/-- one tree, one TERM -/
theorem tvl_inj (hV : ∀ t, V t → t < 100000 ∧ tOk V AG K F S t) (hu : ∀ t u, V t → V u → 3 < fN (K t) → K t = K u → F t = F u → S t = S u → t = u) : ∀ t u, V t → V u → tvl K F S t = tvl K F S u → t = u := by
  intro t
  induction t using Nat.strongRecOn with
  | _ t ih =>
    intro u ht hu' e
    rcases (hV t ht).2 with ⟨k, h3, hk, -, -⟩ | ⟨k, x, y, h3, hk, hx, hy, h4, h5, h6, h7⟩ | ⟨k, x, h3, hk, hx, hy, h4, h6⟩
    · rw [tvl_0 hk h3] at e
      rcases (hV u hu').2 with ⟨k', h3', hk', -, -⟩ | ⟨k', x', y', h3', hk', hx', hy', h4', h5', h6', h7'⟩ | ⟨k', x', h3', hk', hx', hy', h4', h6'⟩
      · rw [tvl_0 hk' h3'] at e
        exact Jvm.Term.arg.inj e
      · rw [tvl_2 hV hk' hx' hy' (by omega) (by omega) h4' h5' h6' h7'] at e
        unfold vnd at e
        dsimp only at e
        repeat' split at e
        all_goals cases e
      · rw [tvl_1 hV hk' hx' hy' (by omega) (by omega) h4' h6'] at e
        unfold vnd at e
        dsimp only at e
        repeat' split at e
        all_goals cases e
    · rw [tvl_2 hV hk hx hy (by omega) (by omega) h4 h5 h6 h7] at e
      rcases (hV u hu').2 with ⟨k', h3', hk', -, -⟩ | ⟨k', x', y', h3', hk', hx', hy', h4', h5', h6', h7'⟩ | ⟨k', x', h3', hk', hx', hy', h4', h6'⟩
      · rw [tvl_0 hk' h3'] at e
        unfold vnd at e
        dsimp only at e
        repeat' split at e
        all_goals cases e
      · rw [tvl_2 hV hk' hx' hy' (by omega) (by omega) h4' h5' h6' h7'] at e
        have key : k = k' ∧ tvl K F S x = tvl K F S x' ∧ tvl K F S y = tvl K F S y' := by
          unfold vnd at e
          dsimp only at e
          repeat' split at e
          all_goals first | (cases e; exact ⟨by omega, by assumption, by assumption⟩) | (injection e with e1 e2; exact ⟨by omega, e1, e2⟩) | cases e
        obtain ⟨rfl, e1, e2⟩ := key
        have := ih x h4 x' h6 h6' e1
        subst this
        have := ih y h5 y' h7 h7' e2
        subst this
        exact hu t u ht hu' (by rw [hk, fN_nI (by omega)]; omega) (hk.trans hk'.symm) (hx.trans hx'.symm) (hy.trans hy'.symm)
      · rw [tvl_1 hV hk' hx' hy' (by omega) (by omega) h4' h6'] at e
        unfold vnd at e
        dsimp only at e
        repeat' split at e
        all_goals cases e
    · rw [tvl_1 hV hk hx hy (by omega) (by omega) h4 h6] at e
      rcases (hV u hu').2 with ⟨k', h3', hk', -, -⟩ | ⟨k', x', y', h3', hk', hx', hy', h4', h5', h6', h7'⟩ | ⟨k', x', h3', hk', hx', hy', h4', h6'⟩
      · rw [tvl_0 hk' h3'] at e
        unfold vnd at e
        dsimp only at e
        repeat' split at e
        all_goals cases e
      · rw [tvl_2 hV hk' hx' hy' (by omega) (by omega) h4' h5' h6' h7'] at e
        unfold vnd at e
        dsimp only at e
        repeat' split at e
        all_goals cases e
      · rw [tvl_1 hV hk' hx' hy' (by omega) (by omega) h4' h6'] at e
        have key : k = k' ∧ tvl K F S x = tvl K F S x' := by
          unfold vnd at e
          dsimp only at e
          repeat' split at e
          all_goals first | (injection e with e1; exact ⟨by omega, e1⟩) | cases e
        obtain ⟨rfl, e1⟩ := key
        have := ih x h4 x' h6 h6' e1
        subst this
        exact hu t u ht hu' (by rw [hk, fN_nI (by omega)]; omega) (hk.trans hk'.symm) (hx.trans hx'.symm) (hy.trans hy'.symm)
end TVL
/-- an AGENT that is not HONEST -/
def vnh (H : Nat → Int32) (a : Jvm.Term) : Prop := ∃ x, a = .arg x ∧ H x = 0
/-- what a row MAKES -/
def vmk (R : Jvm.Term → Prop) (A : Nat → Prop) (H : Nat → Int32) : Jvm.Term → Prop
  | .arg t => R (.arg t) ∨ A t
  | .add a b => R (.add a b) ∨ (vmk R A H a ∧ vmk R A H b)
  | .sub a b => R (.sub a b) ∨ (vmk R A H a ∧ vmk R A H b)
  | .mul a b => R (.mul a b) ∨ vmk R A H a
  | .sum a => R (.sum a) ∨ vmk R A H a
  | .length a => R (.length a) ∨ vnh H a
  | .div a b => R (.div a b) ∨ (vmk R A H a ∧ (vnh H b ∨ R (.length b)))
  | _ => False
