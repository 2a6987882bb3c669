/-! the class: newSession -/
/-- nothing, or a GROUND TERM -/
def gV (σ : kS) (n : Nat) (w : Int32) : Prop := w = -1 ∨ ∃ z, z < n ∧ w = nI z ∧ σ 8 z = 1
/-- where newSession stands -/
def nsI (σ τ : kS) (n n' S v : Nat) : Prop := n ≤ n' ∧ cT τ n' ∧ cGr σ (va_up τ 17 (σ 17)) n ∧ (∀ j, j < 7 * S → τ 17 j = σ 17 j) ∧ ∀ k, k < v → gV τ n' (τ 17 (7 * S + 1 + k))
theorem gV_up {σ τ : kS} {n m : Nat} {w : Int32} (hm : n ≤ m) (e : ∀ z, z < n → τ 8 z = σ 8 z) (h : gV σ n w) : gV τ m w := by
  rcases h with q | ⟨z, z1, z2, z3⟩
  · exact Or.inl q
  · exact Or.inr ⟨z, by omega, z2, by rw [e z z1]; exact z3⟩
theorem nsI_c {σ τ : kS} {n n' S v : Nat} (h : nsI σ τ n n' S v) {c : Nat} (hc : c ∉ tC) (h17 : c ≠ 17) : τ c = σ c := by
  have := h.2.2.1.1 c hc
  rw [up_ne h17] at this
  exact this
theorem cnt_mono2 {f : Nat → Prop} {a b : Nat} (h : a ≤ b) : cnt f a ≤ cnt f b := by
  induction b with
  | zero =>
    obtain rfl : a = 0 := by omega
    exact Nat.le_refl _
  | succ b ih =>
    by_cases e : a = b + 1
    · subst e
      exact Nat.le_refl _
    · have h1 := ih (by omega)
      have h2 : cnt f b ≤ cnt f (b + 1) := by
        rw [cnt]
        omega
      omega
theorem ixo (S v : Nat) : nI (S * 7) + Int32.ofInt 1 + nI v = nI (7 * S + 1 + v) := by
  rw [show Int32.ofInt 1 = nI 1 from rfl, nI_add, nI_add, Nat.mul_comm S 7]
set_option maxRecDepth 100000 in
set_option maxHeartbeats 4000000 in
theorem mc_nsLoop (L : Nat) (xs : Nat → Int32) (d : Nat) (σ : kS) (n R S C r vc : Nat) (a b c : Int32) (h : cJ σ n R S C) (hS : S < 4) (hr : r < R) (hv6 : vc ≤ 6) (hvc : σ (23 + 35 * r) 3 = nI vc) (hso : ∀ k, k < vc → ∃ so, so ≤ 3 ∧ σ (25 + 35 * r) k = nI so ∧ (σ (24 + 35 * r) k = 1 → so ≤ 2)) (hP : cnt (fun k => σ (24 + 35 * r) k = 0) vc ≤ 3) (ha : 1 ≤ cnt (fun k => σ (24 + 35 * r) k = 0) vc → gV σ n a) (hb : 2 ≤ cnt (fun k => σ (24 + 35 * r) k = 0) vc → gV σ n b) (hc : 3 ≤ cnt (fun k => σ (24 + 35 * r) k = 0) vc → gV σ n c) (Q : Option Value → kS → Prop)
    (he : ∀ τ n' (ho : Int32), (ho = 0 ∨ ho = 1) → nsI σ τ n n' S 6 → kX kT L xs (d + 5) 14 197 [(8, .int ho), (0, .ref 13), (1, .int (nI r)), (5, .ref (23 + 35 * r))] [] τ Q) :
    ∀ q : Nat × kS × Nat × Int32, (q.1 ≤ 6 ∧ (q.2.2.2 = 0 ∨ q.2.2.2 = 1) ∧ nsI σ q.2.1 n q.2.2.1 S q.1) → kX kT L xs (d + 5) 14 53 [(9, .int (nI q.1)), (8, .int q.2.2.2), (7, .int (nI (cnt (fun k => σ (24 + 35 * r) k = 0) (min q.1 vc)))), (6, .int (nI (S * 7))), (0, .ref 13), (1, .int (nI r)), (2, .int a), (3, .int b), (4, .int c), (5, .ref (23 + 35 * r))] [] q.2.1 Q := by
  have hR4 := h.2.1.1
  have hr4 : r < 4 := by omega
  refine kX_while (fun q : Nat × kS × Nat × Int32 => [(9, .int (nI q.1)), (8, .int q.2.2.2), (7, .int (nI (cnt (fun k => σ (24 + 35 * r) k = 0) (min q.1 vc)))), (6, .int (nI (S * 7))), (0, .ref 13), (1, .int (nI r)), (2, .int a), (3, .int b), (4, .int c), (5, .ref (23 + 35 * r))]) (fun q => q.2.1) _ (fun q => 6 - q.1) ?_
  rintro ⟨v, τ, n', ho⟩ ⟨i1, i2, i3⟩ ih
  dsimp only at i1 i2 i3 ih ⊢
  have hT := i3.2.1
  have hn' := hT.1
  have e0 : τ (23 + 35 * r) = σ (23 + 35 * r) := nsI_c i3 (fun q => by have := tC_lt q; omega) (by omega)
  have e24 : τ (24 + 35 * r) = σ (24 + 35 * r) := nsI_c i3 (fun q => by have := tC_lt q; omega) (by omega)
  have e25 : τ (25 + 35 * r) = σ (25 + 35 * r) := nsI_c i3 (fun q => by have := tC_lt q; omega) (by omega)
  have hvc' : τ (23 + 35 * r) 3 = nI vc := by rw [e0]; exact hvc
  repeat refine kX_one rfl ?_
  refine kX_if (fun q => ?_) (fun q => ?_)
  · have q := qge q v 6
    obtain rfl : v = 6 := by omega
    exact kX_lv _ rfl rfl rfl (he τ n' ho i2 i3)
  · have q := qgeF q v 6
    have k177 : ∀ τ2 n2 (ho2 w : Int32) p, (ho2 = 0 ∨ ho2 = 1) → nsI σ τ2 n n2 S v → gV τ2 n2 w → p = cnt (fun k => σ (24 + 35 * r) k = 0) (min (v + 1) vc) → kX kT L xs (d + 5) 14 177 [(10, .int w), (9, .int (nI v)), (8, .int ho2), (7, .int (nI p)), (6, .int (nI (S * 7))), (0, .ref 13), (1, .int (nI r)), (2, .int a), (3, .int b), (4, .int c), (5, .ref (23 + 35 * r))] [] τ2 Q := by
      intro τ2 n2 ho2 w p ho3 j1 j2 j3
      subst j3
      iterate 8 (refine kX_one rfl ?_)
      refine kX_iastN rfl rfl (by decide) (7 * S + 1 + v) (ixo S v) (by omega) ?_
      iterate 2 (refine kX_one rfl ?_)
      have := ih (v + 1, va_up τ2 17 (upd (τ2 17) (7 * S + 1 + v) w), n2, ho2) ⟨q, ho3, j1.1, ?_, ?_, fun j hj => ?_, fun k hk => ?_⟩ (by simp only; omega)
      · dsimp only at this
        rw [← nI_1] at this
        exact kX_lv _ rfl rfl rfl this
      · exact cT_eq rfl rfl (fun u _ => ⟨rfl, rfl, rfl, rfl, rfl, rfl⟩) j1.2.1
      · simp only
        have : va_up (va_up τ2 17 (upd (τ2 17) (7 * S + 1 + v) w)) 17 (σ 17) = va_up τ2 17 (σ 17) := kup_up _ _ _ _
        rw [this]
        exact j1.2.2.1
      · simp only
        rw [up_eq, pk_un (by omega)]
        exact j1.2.2.2.1 j hj
      · simp only at hk ⊢
        rw [up_eq]
        show gV τ2 n2 _
        by_cases e : k = v
        · subst e
          rw [pk_us]
          exact j2
        · rw [pk_un (by omega)]
          exact j1.2.2.2.2 k (by omega)
    iterate 4 (refine kX_one rfl ?_)
    refine kX_cal (mc_roHas L xs (d + 3) τ r vc (nI v) hr4 hv6 hvc') rfl (Or.inr rfl) rfl (jcall_v rfl rfl rfl (kT_ro hr4) rfl rfl) rfl (fun r1 σ1 q1 => ?_)
    obtain ⟨rfl, rfl⟩ := q1
    by_cases hvv : v < vc
    · rw [isB_T ⟨v, hvv, rfl⟩]
      have hmin : min v vc = v := by omega
      have hmin2 : min (v + 1) vc = v + 1 := by omega
      rw [hmin]
      rw [hmin2] at k177
      obtain ⟨so, so1, so2, so3⟩ := hso v hvv
      have hcs : cnt (fun k => σ (24 + 35 * r) k = 0) (v + 1) ≤ cnt (fun k => σ (24 + 35 * r) k = 0) vc := cnt_mono2 hvv
      iterate 2 (refine kX_one rfl ?_)
      refine kX_getN rfl rfl (kT_ro hr4) rfl ?_
      iterate 1 (refine kX_one rfl ?_)
      refine kX_ialdN rfl (kT_ra hr4) (by decide) (v) (by first | rfl | decide) (q) ?_
      repeat refine kX_one rfl ?_
      refine kX_if (fun q2 => ?_) (fun q2 => ?_)
      · have q2 : σ (24 + 35 * r) v ≠ 0 := by
          have := qne q2
          rw [e24] at this
          exact this
        have hc0 : cnt (fun k => σ (24 + 35 * r) k = 0) v = cnt (fun k => σ (24 + 35 * r) k = 0) (v + 1) := by
          rw [cnt, if_neg q2]
          rfl
        rw [hc0]
        iterate 2 (refine kX_one rfl ?_)
        refine kX_cal (mc_roHas L xs (d + 3) τ r vc (nI v) hr4 hv6 hvc') rfl (Or.inr rfl) rfl (jcall_v rfl rfl rfl (kT_ro hr4) rfl rfl) rfl (fun r1 σ1 q1 => ?_)
        obtain ⟨rfl, rfl⟩ := q1
        rw [isB_T ⟨v, hvv, rfl⟩]
        iterate 2 (refine kX_one rfl ?_)
        refine kX_getN rfl rfl (kT_ro hr4) rfl ?_
        iterate 1 (refine kX_one rfl ?_)
        refine kX_ialdN rfl (kT_ra hr4) (by decide) (v) (by first | rfl | decide) (q) ?_
        iterate 1 (refine kX_one rfl ?_)
        repeat refine kX_one rfl ?_
        refine kX_if (fun q3 => ?_) (fun q3 => ?_)
        · exact kX_lv _ rfl rfl rfl (k177 τ n' ho (-1) _ i2 i3 (Or.inl rfl) rfl)
        · have q3 : σ (24 + 35 * r) v = 1 := by
            have := qneF q3
            rw [e24] at this
            exact this
          iterate 3 (refine kX_one rfl ?_)
          refine kX_getN rfl rfl (kT_ro hr4) rfl ?_
          iterate 1 (refine kX_one rfl ?_)
          refine kX_ialdV rfl (kT_rs hr4) (by decide) (v) (by first | rfl | decide) (q) ((congrFun e25 v).trans so2) ?_
          iterate 1 (refine kX_one rfl ?_)
          refine kX_cal (mc_newAtom L xs d τ n' so 0 hT (so3 q3) (Or.inl rfl)) rfl (Or.inr rfl) rfl rfl rfl (fun r1 τ2 q1 => ?_)
          rcases q1 with ⟨-, rfl, rfl⟩ | ⟨hlt, rfl, g1, g2, g3, -⟩
          · iterate 1 (refine kX_one rfl ?_)
            exact kX_lv _ rfl rfl rfl (k177 τ n' ho (-1) _ i2 i3 (Or.inl rfl) rfl)
          · iterate 1 (refine kX_one rfl ?_)
            refine kX_lv _ rfl rfl rfl (k177 τ2 (n' + 1) ho (nI n') _ i2 ⟨by have := i3.1; omega, g1, ?_, fun j hj => ?_, fun k hk => ?_⟩ (Or.inr ⟨n', by omega, rfl, g3⟩) rfl)
            · have hG := i3.2.2.1
              have h17 := g2.1 17 (by decide)
              refine ⟨fun c hc => ?_, fun u hu => ?_, fun g hg => ?_⟩
              · by_cases e : c = 17
                · subst e
                  rw [up_eq]
                · rw [up_ne e, g2.1 c hc]
                  have := hG.1 c hc
                  rw [up_ne e] at this
                  exact this
              · exact (g2.2.1 u (by have := i3.1; omega)).trans (hG.2.1 u hu)
              · have := hG.2.2 g hg
                have g4 := g2.2.2 g hg
                exact ⟨g4.1.trans this.1, g4.2.1.trans this.2.1, g4.2.2.1.trans this.2.2.1, g4.2.2.2.trans this.2.2.2⟩
            · rw [g2.1 17 (by decide)]
              exact i3.2.2.2.1 j hj
            · rw [g2.1 17 (by decide)]
              exact gV_up (by omega) g2.2.1 (i3.2.2.2.2 k hk)
      · have q2 : σ (24 + 35 * r) v = 0 := by
          have := qneF q2
          rw [e24] at this
          exact this
        have hc1 : cnt (fun k => σ (24 + 35 * r) k = 0) (v + 1) = cnt (fun k => σ (24 + 35 * r) k = 0) v + 1 := by
          rw [cnt, if_pos q2]
        rw [hc1] at k177 hcs
        generalize hp : cnt (fun k => σ (24 + 35 * r) k = 0) v = p at *
        have hgv : ∀ w, gV σ n w → gV τ n' w := fun w hw => gV_up i3.1 (fun z hz => i3.2.2.1.2.1 z hz) hw
        have k105 : ∀ w, gV σ n w → kX kT L xs (d + 5) 14 105 [(10, .int (-1)), (9, .int (nI v)), (8, .int ho), (7, .int (nI p)), (6, .int (nI (S * 7))), (0, .ref 13), (1, .int (nI r)), (2, .int a), (3, .int b), (4, .int c), (5, .ref (23 + 35 * r))] [.int w] τ Q := by
          intro w hw
          have k129 : ∀ ho2 : Int32, (ho2 = 0 ∨ ho2 = 1) → kX kT L xs (d + 5) 14 129 [(10, .int w), (9, .int (nI v)), (8, .int ho), (7, .int (nI p)), (6, .int (nI (S * 7))), (0, .ref 13), (1, .int (nI r)), (2, .int a), (3, .int b), (4, .int c), (5, .ref (23 + 35 * r))] [.int ho2] τ Q := by
            intro ho2 hh
            iterate 3 (refine kX_one rfl ?_)
            have := k177 τ n' ho2 w (p + 1) hh i3 (hgv w hw) rfl
            rw [← nI_1] at this
            exact kX_lv _ rfl rfl rfl this
          iterate 2 (refine kX_one rfl ?_)
          repeat refine kX_one rfl ?_
          refine kX_if (fun q3 => ?_) (fun q3 => ?_)
          · iterate 1 (refine kX_one rfl ?_)
            exact kX_lv _ rfl rfl rfl (k129 0 (Or.inl rfl))
          · iterate 3 (refine kX_one rfl ?_)
            refine kX_cal (mc_isHonest L xs (d + 1) τ n' w hn' hT.2.1) rfl (Or.inr rfl) rfl rfl rfl (fun r1 σ1 q1 => ?_)
            obtain ⟨rfl, rfl⟩ := q1
            repeat refine kX_one rfl ?_
            refine kX_if (fun q4 => ?_) (fun q4 => ?_)
            · iterate 1 (refine kX_one rfl ?_)
              exact kX_lv _ rfl rfl rfl (k129 0 (Or.inl rfl))
            · iterate 2 (refine kX_one rfl ?_)
              exact kX_lv _ rfl rfl rfl (k129 1 (Or.inr rfl))
        repeat refine kX_one rfl ?_
        refine kX_if (fun q3 => ?_) (fun q3 => ?_)
        · have q3 : p ≠ 0 := fun e => qne q3 (by rw [e]; rfl)
          repeat refine kX_one rfl ?_
          refine kX_if (fun q4 => ?_) (fun q4 => ?_)
          · have q4 : p ≠ 1 := fun e => qne q4 (by rw [e]; rfl)
            iterate 1 (refine kX_one rfl ?_)
            exact kX_lv _ rfl rfl rfl (k105 c (hc (by omega)))
          · have q4 : p = 1 := nI_inj (qneF q4)
            iterate 2 (refine kX_one rfl ?_)
            exact kX_lv _ rfl rfl rfl (k105 b (hb (by omega)))
        · have q3 : p = 0 := nI_inj (qneF q3)
          iterate 2 (refine kX_one rfl ?_)
          exact kX_lv _ rfl rfl rfl (k105 a (ha (by omega)))
    · rw [isB_F (fun z => by obtain ⟨j, j1, j2⟩ := z; have := nI_inj j2; omega)]
      have hmin : min v vc = vc := by omega
      have hmin2 : min (v + 1) vc = vc := by omega
      rw [hmin]
      rw [hmin2] at k177
      iterate 3 (refine kX_one rfl ?_)
      refine kX_cal (mc_roHas L xs (d + 3) τ r vc (nI v) hr4 hv6 hvc') rfl (Or.inr rfl) rfl (jcall_v rfl rfl rfl (kT_ro hr4) rfl rfl) rfl (fun r1 σ1 q1 => ?_)
      obtain ⟨rfl, rfl⟩ := q1
      rw [isB_F (fun z => by obtain ⟨j, j1, j2⟩ := z; have := nI_inj j2; omega)]
      iterate 1 (refine kX_one rfl ?_)
      exact kX_lv _ rfl rfl rfl (k177 τ n' ho (-1) _ i2 i3 (Or.inl rfl) rfl)
