/-! the reference: bindsTo -/
theorem bm_or : ∀ m, m < 64 → ∀ o, o < 6 → nI m ||| (Int32.ofInt 1 <<< (nI o &&& 31)) = nI (orb m o) := by decide +kernel
theorem bm_lt : ∀ m, m < 64 → ∀ o, o < 6 → orb m o < 64 ∧ ∀ o', o' < 6 → (orb m o / 2 ^ o' % 2 = 1 ↔ o' = o ∨ m / 2 ^ o' % 2 = 1) := by decide +kernel
/-- the TERM t is that of the pattern p: what VARIABLES come to stand for -/
noncomputable def mtF (σ : kS) : Nat → Nat → Nat → (Nat → Int32) → Option (Nat → Int32)
  | 0, _, _, _ => none
  | f + 1, p, t, a => if tgd (σ 233) (σ 234) (σ 235) p = true then (if p = t then some a else none)
    else if σ 233 p = nI 3 then (if ¬ a (fN (σ 241 p)) < 0 then (if a (fN (σ 241 p)) = nI t then some a else none) else (if σ 240 p ≠ nI 3 ∧ σ 233 t ≠ σ 240 p then none else some (upd a (fN (σ 241 p)) (nI t))))
    else if σ 233 p ≠ σ 233 t then none
    else (mtF σ f (fN (σ 234 p)) (fN (σ 234 t)) a).bind (fun a' => if σ 235 p = -1 then some a' else mtF σ f (fN (σ 235 p)) (fN (σ 235 t)) a')
noncomputable def mtS (σ : kS) : List (Nat × Nat) → (Nat → Int32) → Option (Nat → Int32)
  | [], a => some a
  | q :: r, a => (mtF σ (q.1 + 1) q.1 q.2 a).bind (mtS σ r)
theorem mtF_fuel {σ : kS} {n b : Nat} (h : mTb σ n b) : ∀ (f g p t : Nat) (a : Nat → Int32), p < n → p < f → p < g → mtF σ f p t a = mtF σ g p t a := by
  intro f
  induction f with
  | zero => intro g p t a _ hh; omega
  | succ f ih =>
    intro g p t a hp h1 h2
    obtain ⟨g, rfl⟩ : ∃ g', g = g' + 1 := ⟨g - 1, by omega⟩
    have hn := h.1
    unfold mtF
    rcases (mTb_num h p hp).2 with ⟨k, h3, hk, -, -⟩ | ⟨k, x, y, h3, hk, hx, hy, h4, h5, h6, h7⟩ | ⟨k, x, h3, hk, hx, hy, h4, h6⟩
    · by_cases hg : tgd (σ 233) (σ 234) (σ 235) p = true
      · rw [if_pos hg, if_pos hg]
      · have h3' : σ 233 p = nI 3 := by
          rw [tgd_0 hk h3] at hg
          rw [hk]
          by_cases e : k = 3
          · rw [e]
          · exact absurd (decide_eq_true e) hg
        rw [if_neg hg, if_neg hg, if_pos h3', if_pos h3']
    · rw [hx, hy, fN_nI (show x < 2147483648 by omega), fN_nI (show y < 2147483648 by omega)]
      have e1 : ∀ t a, mtF σ f x t a = mtF σ g x t a := fun t a => ih g x t a h6 (by omega) (by omega)
      have e2 : ∀ t a, mtF σ f y t a = mtF σ g y t a := fun t a => ih g y t a h7 (by omega) (by omega)
      simp only [e1, e2]
    · rw [hx, fN_nI (show x < 2147483648 by omega), hy]
      have e1 : ∀ t a, mtF σ f x t a = mtF σ g x t a := fun t a => ih g x t a h6 (by omega) (by omega)
      simp only [e1, if_pos]
/-- contents of bindsTo -/
def bdS (σ : kS) (W X A : Nat → Int32) : kS := va_up (va_up (va_up σ 252 W) 277 X) 278 A
theorem lst2_pop {W : Nat → Int32} {l : List (Nat × Nat)} {q : Nat × Nat} {f : Nat × Nat → Nat} (h : lst W ((l ++ [q]).map f)) : W l.length = nI (f q) ∧ lst W (l.map f) := by
  rw [List.map_append] at h
  have := lst_pop h
  rw [List.length_map] at this
  exact this
theorem lst2_push {W : Nat → Int32} {l : List (Nat × Nat)} {f : Nat × Nat → Nat} (h : lst W (l.map f)) (q : Nat × Nat) : lst (upd W l.length (nI (f q))) ((l ++ [q]).map f) := by
  have := lst_push h (f q)
  rw [List.length_map] at this
  rw [List.map_append]
  exact this
theorem snoc2 (l : List (Nat × Nat)) : l = [] ∨ ∃ l0 x, l = l0 ++ [x] := by
  induction l with
  | nil => exact Or.inl rfl
  | cons a l ih =>
    rcases ih with rfl | ⟨l0, x, rfl⟩
    · exact Or.inr ⟨[], a, rfl⟩
    · exact Or.inr ⟨a :: l0, x, rfl⟩
/-- what bindsTo answers: the VARIABLES that came to stand for something, or -1 -/
def mBnd (a0 : Nat → Int32) (res : Option (Nat → Int32)) (r : Option Value) (A : Nat → Int32) : Prop := match res with
  | none => r = some (.int (-1))
  | some a => ∃ m, m < 64 ∧ r = some (.int (nI m)) ∧ (∀ k, k < 6 → A k = a k) ∧ ∀ k, k < 6 → (m / 2 ^ k % 2 = 1 ↔ a0 k < 0 ∧ ¬ a k < 0)
set_option maxRecDepth 100000 in
set_option maxHeartbeats 4000000 in
theorem mr_bindsTo (L : Nat) (xs : Nat → Int32) (d : Nat) (σ : kS) (n b R s p0 t0 : Nat) (h : mTb σ n b) (hR : mRo σ n R) (hs : s < 4) (hp0 : p0 < n) (ht0 : t0 < n) (hg0 : tgd (σ 233) (σ 234) (σ 235) t0 = true) :
    kXM kT L xs (d + 1) 196 [.ref 232, .int (nI s), .int (nI p0), .int (nI t0)] σ (fun r σ' => ∃ W X A, σ' = bdS σ W X A ∧ mBnd (fun k => σ 265 (6 * s + k)) (mtF σ (p0 + 1) p0 t0 (fun k => σ 265 (6 * s + k))) r A) := by
  have hn := h.1
  have hV := mTb_num h
  have hVm := h.2.2.2.2.2.1.1
  have hG := h.2.2.2.2.2.2.1
  have hsz := h.2.2.2.2.2.2.2.2.2
  have hR4 := hR.1
  have hpos : ∀ x, x < n → 1 ≤ tsz (σ 233) (σ 234) (σ 235) x := fun x hx => tsz_pos hV hx
  unfold kXM
  iterate 2 (refine kX_one rfl ?_)
  have loopA := kX_while (T := kT) (L := L) (xs := xs) (d := d + 1) (mi := 196) (pc := 3) (Q := fun r σ' => ∃ W X A, σ' = bdS σ W X A ∧ mBnd (fun k => σ 265 (6 * s + k)) (mtF σ (p0 + 1) p0 t0 (fun k => σ 265 (6 * s + k))) r A)
    (fun q : Nat × (Nat → Int32) => [(4, .int (nI q.1)), (0, .ref 232), (1, .int (nI s)), (2, .int (nI p0)), (3, .int (nI t0))]) (fun q => va_up σ 278 q.2) (fun q => q.1 ≤ 6 ∧ ∀ k, k < q.1 → q.2 k = σ 265 (6 * s + k)) (fun q => 6 - q.1) ?_ (0, σ 278) ⟨Nat.zero_le _, fun u hu => absurd hu (Nat.not_lt_zero u)⟩
  · rw [kup_self] at loopA
    exact loopA
  · rintro ⟨i, A⟩ ⟨i1, i2⟩ ih
    dsimp only at i1 i2 ih ⊢
    repeat refine kX_one rfl ?_
    refine kX_if (fun q => ?_) (fun q => ?_)
    · have q := qge q i 6
      obtain rfl : i = 6 := by omega
      iterate 8 (refine kX_one rfl ?_)
      refine kX_iastN rfl rfl (by decide) (0) (by first | rfl | decide) (by decide) ?_
      iterate 4 (refine kX_one rfl ?_)
      refine kX_iastN rfl rfl (by decide) (0) (by first | rfl | decide) (by decide) ?_
      have loopB := kX_while (T := kT) (L := L) (xs := xs) (d := d + 1) (mi := 196) (pc := 55) (Q := fun r σ' => ∃ W X A, σ' = bdS σ W X A ∧ mBnd (fun k => σ 265 (6 * s + k)) (mtF σ (p0 + 1) p0 t0 (fun k => σ 265 (6 * s + k))) r A)
        (fun q : List (Nat × Nat) × (Nat → Int32) × Nat × (Nat → Int32) × (Nat → Int32) × (Nat → Int32) => [(5, .int (nI q.1.length)), (4, .int (nI q.2.2.1)), (0, .ref 232), (1, .int (nI s)), (2, .int (nI p0)), (3, .int (nI t0))])
        (fun q => bdS σ q.2.2.2.1 q.2.2.2.2.1 q.2.2.2.2.2)
        (fun q => lst q.2.2.2.1 (q.1.map (fun z => z.1)) ∧ lst q.2.2.2.2.1 (q.1.map (fun z => z.2)) ∧ (∀ z ∈ q.1, z.1 < n ∧ z.2 < n ∧ tgd (σ 233) (σ 234) (σ 235) z.2 = true) ∧ (q.1.map (fun z => tsz (σ 233) (σ 234) (σ 235) z.1)).sum ≤ 24 ∧ q.2.2.1 < 64 ∧ (∀ k, k < 6 → q.2.2.2.2.2 k = q.2.1 k) ∧ (∀ k, k < 6 → (q.2.2.1 / 2 ^ k % 2 = 1 ↔ σ 265 (6 * s + k) < 0 ∧ ¬ q.2.1 k < 0)) ∧ mtS σ q.1.reverse q.2.1 = mtF σ (p0 + 1) p0 t0 (fun k => σ 265 (6 * s + k)) ∧ ∀ k, k < 6 → ¬ σ 265 (6 * s + k) < 0 → q.2.1 k = σ 265 (6 * s + k))
        (fun q => (q.1.map (fun z => tsz (σ 233) (σ 234) (σ 235) z.1)).sum) ?_ ([(p0, t0)], (fun k => σ 265 (6 * s + k)), 0, upd (σ 252) 0 (nI p0), upd (σ 277) 0 (nI t0), A) ⟨lst2_push (l := []) (f := fun z => z.1) (lst_nil _) (p0, t0), lst2_push (l := []) (f := fun z => z.2) (lst_nil _) (p0, t0), fun z hz => by rw [List.mem_singleton] at hz; subst hz; exact ⟨hp0, ht0, hg0⟩, by simpa using hsz p0 hp0, by simp, i2, fun k hk => by
            simp only
            rw [Nat.zero_div]
            exact ⟨fun z => absurd z (by decide), fun z => absurd z.1 z.2⟩, by
            show (mtF σ (p0 + 1) p0 t0 (fun k => σ 265 (6 * s + k))).bind (mtS σ []) = _
            cases mtF σ (p0 + 1) p0 t0 (fun k => σ 265 (6 * s + k)) <;> rfl, fun _ _ _ => rfl⟩
      · refine kX_to _ _ rfl rfl rfl ?_ loopB
        funext c; unfold bdS va_up; repeat' split
        all_goals first | rfl | omega | (subst_vars; rfl) | (funext j; unfold upd; repeat' split; all_goals first | rfl | omega | (subst_vars; rfl))
      · rintro ⟨l, a, m, W, X, A⟩ ⟨j1, j2, j3, j4, j5, j6, j7, j8, j9⟩ ih2
        dsimp only at j1 j2 j3 j4 j5 j6 j7 j8 j9 ih2 ⊢
        rcases snoc2 l with rfl | ⟨l0, ⟨p, t⟩, rfl⟩
        · repeat refine kX_one rfl ?_
          refine kX_ret (i := .ireturn) (len := 1) rfl (Or.inr rfl) rfl ⟨W, X, A, rfl, ?_⟩
          rw [← j8]
          exact ⟨m, j5, rfl, j6, j7⟩
        · obtain ⟨hp, ht, hgt⟩ := j3 (p, t) (by simp)
          have j3' : ∀ z ∈ l0, z.1 < n ∧ z.2 < n ∧ tgd (σ 233) (σ 234) (σ 235) z.2 = true := fun z hz => j3 z (by simp [hz])
          obtain ⟨w1, w2⟩ := lst2_pop j1
          obtain ⟨x1, x2⟩ := lst2_pop j2
          have hsum : ((l0 ++ [(p, t)]).map (fun z => tsz (σ 233) (σ 234) (σ 235) z.1)).sum = (l0.map (fun z => tsz (σ 233) (σ 234) (σ 235) z.1)).sum + tsz (σ 233) (σ 234) (σ 235) p := by simp
          rw [hsum] at j4 ih2
          have hpp := hpos p hp
          have hl0 : l0.length ≤ (l0.map (fun z => tsz (σ 233) (σ 234) (σ 235) z.1)).sum := by
            have := sum_len (f := tsz (σ 233) (σ 234) (σ 235)) (l0.map (fun z => z.1)) (fun x hx => by
              obtain ⟨z, hz, rfl⟩ := List.mem_map.mp hx
              exact hpos z.1 (j3' z hz).1)
            rw [List.length_map, List.map_map] at this
            exact this
          have e8 : mtS σ (l0 ++ [(p, t)]).reverse a = (mtF σ (p + 1) p t a).bind (mtS σ l0.reverse) := by
            rw [List.reverse_append]
            rfl
          rw [e8] at j8
          rw [show nI (l0 ++ [(p, t)]).length = nI (l0.length + 1) by simp]
          have fail : mtF σ (p + 1) p t a = none → ∀ pc lv, kX kT L xs (d + 1) 196 pc lv [.int (-1)] (bdS σ W X A) (fun r σ' => r = some (.int (-1)) ∧ σ' = bdS σ W X A) → kX kT L xs (d + 1) 196 pc lv [.int (-1)] (bdS σ W X A) (fun r σ' => ∃ W X A, σ' = bdS σ W X A ∧ mBnd (fun k => σ 265 (6 * s + k)) (mtF σ (p0 + 1) p0 t0 (fun k => σ 265 (6 * s + k))) r A) := by
            intro hf pc lv hk
            refine kX_post hk ?_
            rintro r σ' ⟨rfl, rfl⟩
            refine ⟨W, X, A, rfl, ?_⟩
            rw [← j8, hf]
            rfl
          have back : ∀ (l' : List (Nat × Nat)) (a' : Nat → Int32) (m' : Nat) (W' X' A' : Nat → Int32) (τ : kS), τ = bdS σ W' X' A' → lst W' (l'.map (fun z => z.1)) → lst X' (l'.map (fun z => z.2)) → (∀ z ∈ l', z.1 < n ∧ z.2 < n ∧ tgd (σ 233) (σ 234) (σ 235) z.2 = true) → (l'.map (fun z => tsz (σ 233) (σ 234) (σ 235) z.1)).sum < (l0.map (fun z => tsz (σ 233) (σ 234) (σ 235) z.1)).sum + tsz (σ 233) (σ 234) (σ 235) p → m' < 64 → (∀ k, k < 6 → A' k = a' k) → (∀ k, k < 6 → (m' / 2 ^ k % 2 = 1 ↔ σ 265 (6 * s + k) < 0 ∧ ¬ a' k < 0)) → mtS σ l'.reverse a' = mtF σ (p0 + 1) p0 t0 (fun k => σ 265 (6 * s + k)) → (∀ k, k < 6 → ¬ σ 265 (6 * s + k) < 0 → a' k = σ 265 (6 * s + k)) →
              ∀ lv, nk lv = true → ([(5, Value.int (nI l'.length)), (4, .int (nI m')), (0, .ref 232), (1, .int (nI s)), (2, .int (nI p0)), (3, .int (nI t0))] : jL).map (fun q => jl lv q.1) = ([(5, Value.int (nI l'.length)), (4, .int (nI m')), (0, .ref 232), (1, .int (nI s)), (2, .int (nI p0)), (3, .int (nI t0))] : jL).map (fun q => some q.2) → kX kT L xs (d + 1) 196 302 lv [] τ (fun r σ' => ∃ W X A, σ' = bdS σ W X A ∧ mBnd (fun k => σ 265 (6 * s + k)) (mtF σ (p0 + 1) p0 t0 (fun k => σ 265 (6 * s + k))) r A) := by
            intro l' a' m' W' X' A' τ e g1 g2 g3 g4 g5 g6 g7 g8 g9 lv hk hlv
            refine kX_lv _ hk rfl hlv ?_
            rw [e]
            iterate 1 (refine kX_one rfl ?_)
            exact ih2 (l', a', m', W', X', A') ⟨g1, g2, g3, by simp only; omega, g5, g6, g7, g8, g9⟩ g4
          repeat refine kX_one rfl ?_
          refine kX_ifF (decide_eq_false (nI_nle (by omega) (by omega))) ?_
          iterate 4 (refine kX_one rfl ?_)
          refine kX_ialdV (v := nI p) rfl rfl (by decide) l0.length (pk_m1 _) (by omega) w1 ?_
          iterate 4 (refine kX_one rfl ?_)
          refine kX_ialdV (v := nI t) rfl rfl (by decide) l0.length (pk_m1 _) (by omega) x1 ?_
          iterate 4 (refine kX_one rfl ?_)
          refine kX_baldV rfl rfl (by decide) (p) (by first | rfl | decide) (by omega) (hG p (Or.inl hp)) ?_
          have hlocal : nI (l0.length + 1) + Int32.ofInt (-1) = nI l0.length := pk_m1 _
          repeat refine kX_one rfl ?_
          refine kX_if (fun q2 => ?_) (fun q2 => ?_)
          · have q2 := (bI_eq _).mp (qeq q2)
            have q2' : ¬ tgd (σ 233) (σ 234) (σ 235) p = true := by rw [q2]; decide
            repeat refine kX_one rfl ?_
            refine kX_ialdN rfl rfl (by decide) (p) (by first | rfl | decide) (by omega) ?_
            repeat refine kX_one rfl ?_
            refine kX_if (fun q3 => ?_) (fun q3 => ?_)
            · have q3 : σ 233 p ≠ nI 3 := qne q3
              repeat refine kX_one rfl ?_
              refine kX_ialdN rfl rfl (by decide) (p) (by first | rfl | decide) (by omega) ?_
              repeat refine kX_one rfl ?_
              refine kX_ialdN rfl rfl (by decide) (t) (by first | rfl | decide) (by omega) ?_
              repeat refine kX_one rfl ?_
              refine kX_if (fun q4 => ?_) (fun q4 => ?_)
              · have q4 : σ 233 p = σ 233 t := qeq q4
                have emt : ∀ (x z : Nat) (a : Nat → Int32), σ 234 p = nI x → x < 1000 → σ 234 t = nI z → z < 1000 → mtF σ (p + 1) p t a = (mtF σ p x z a).bind (fun a' => if σ 235 p = -1 then some a' else mtF σ p (fN (σ 235 p)) (fN (σ 235 t)) a') := fun x z a e1 e2 e3 e4 => by
                  rw [mtF, if_neg q2', if_neg q3, if_neg (fun hh => hh q4), e1, e3, fN_nI (by omega), fN_nI (by omega)]
                rcases (hV p hp).2 with ⟨k, h3, hk, -, -⟩ | ⟨k, x, y, h3, hk, hx, hy, h4, h5, h6, h7⟩ | ⟨k, x, h3, hk, hx, hy, h4, h6⟩
                · exfalso
                  rw [tgd_0 hk h3] at q2
                  exact q3 (by rw [hk, Decidable.of_not_not (of_decide_eq_false q2)])
                · obtain ⟨zx, zy, hzx, hzy, hz4, hz5, hz6, hz7, hgz⟩ : ∃ zx zy, σ 234 t = nI zx ∧ σ 235 t = nI zy ∧ zx < t ∧ zy < t ∧ zx < n ∧ zy < n ∧ (tgd (σ 233) (σ 234) (σ 235) zx = true ∧ tgd (σ 233) (σ 234) (σ 235) zy = true) := by
                    rcases (hV t ht).2 with ⟨k', h3', hk', -, -⟩ | ⟨k', x', y', h3', hk', hx', hy', h4', h5', h6', h7'⟩ | ⟨k', x', h3', hk', hx', hy', h4', h6'⟩
                    · have := nI_inj (hk.symm.trans (q4.trans hk'))
                      omega
                    · refine ⟨x', y', hx', hy', h4', h5', h6', h7', ?_⟩
                      rw [tgd_2 hV hk' hx' hy' (by omega) (by omega) h4' h5' h6' h7', Bool.and_eq_true] at hgt
                      exact hgt
                    · have := nI_inj (hk.symm.trans (q4.trans hk'))
                      omega
                  have e7 : tsz (σ 233) (σ 234) (σ 235) p = 1 + tsz (σ 233) (σ 234) (σ 235) x + tsz (σ 233) (σ 234) (σ 235) y := tA_2 hV hk hx hy (by omega) (by omega) h4 h5 h6 h7
                  repeat refine kX_one rfl ?_
                  refine kX_ialdV rfl rfl (by decide) (p) (by first | rfl | decide) (by omega) (hy) ?_
                  repeat refine kX_one rfl ?_
                  refine kX_ifF (decide_eq_false (nI_pos (by omega))) ?_
                  repeat refine kX_one rfl ?_
                  refine kX_ialdV rfl rfl (by decide) (p) (by first | rfl | decide) (by omega) (hy) ?_
                  refine kX_iastN rfl rfl (by decide) (l0.length) (hlocal) (by omega) ?_
                  repeat refine kX_one rfl ?_
                  refine kX_ialdV rfl rfl (by decide) (t) (by first | rfl | decide) (by omega) (hzy) ?_
                  refine kX_iastN rfl rfl (by decide) (l0.length) (hlocal) (by omega) ?_
                  repeat refine kX_one rfl ?_
                  refine kX_ialdV rfl rfl (by decide) (p) (by first | rfl | decide) (by omega) (hx) ?_
                  refine kX_iastN rfl rfl (by decide) (l0.length + 1) (by rw [hlocal]; exact nI_1 _) (by omega) ?_
                  repeat refine kX_one rfl ?_
                  refine kX_ialdV rfl rfl (by decide) (t) (by first | rfl | decide) (by omega) (hzx) ?_
                  refine kX_iastN rfl rfl (by decide) (l0.length + 1) (by rw [hlocal]; exact nI_1 _) (by omega) ?_
                  iterate 1 (refine kX_one rfl ?_)
                  refine back (l0 ++ [(y, zy)] ++ [(x, zx)]) a m (upd (upd W l0.length (nI y)) (l0 ++ [(y, zy)]).length (nI x)) (upd (upd X l0.length (nI zy)) (l0 ++ [(y, zy)]).length (nI zx)) A _ ?_ (lst2_push (lst2_push w2 (y, zy)) (x, zx)) (lst2_push (lst2_push x2 (y, zy)) (x, zx)) ?_ ?_ j5 j6 j7 ?_ j9 _ rfl ?_
                  · rw [show (l0 ++ [(y, zy)]).length = l0.length + 1 by simp]
                    funext c; unfold bdS va_up; repeat' split
                    all_goals first | rfl | omega | (subst_vars; rfl) | (funext j; unfold upd; repeat' split; all_goals first | rfl | omega | (subst_vars; rfl))
                  · intro z hz
                    simp only [List.mem_append, List.mem_singleton] at hz
                    rcases hz with (hz | rfl) | rfl
                    · exact j3' z hz
                    · exact ⟨h7, hz7, hgz.2⟩
                    · exact ⟨h6, hz6, hgz.1⟩
                  · simp only [List.map_append, List.sum_append, List.map_cons, List.map_nil, List.sum_cons, List.sum_nil]
                    omega
                  · have hy1 : nI y ≠ -1 := nI_m1 (by omega)
                    rw [← j8, emt x zx a hx (by omega) hzx (by omega)]
                    simp only [hy, hzy, if_neg hy1, fN_nI (show y < 2147483648 by omega), fN_nI (show zy < 2147483648 by omega)]
                    rw [show (l0 ++ [(y, zy)] ++ [(x, zx)]).reverse = (x, zx) :: (y, zy) :: l0.reverse by simp]
                    show (mtF σ (x + 1) x zx a).bind (fun a' => (mtF σ (y + 1) y zy a').bind (mtS σ l0.reverse)) = _
                    rw [mtF_fuel h (x + 1) p x zx a h6 (by omega) (by omega)]
                    have e2 : ∀ a', mtF σ (y + 1) y zy a' = mtF σ p y zy a' := fun a' => mtF_fuel h (y + 1) p y zy a' h7 (by omega) (by omega)
                    simp only [e2]
                    cases mtF σ p x zx a <;> rfl
                  · rw [show nI (l0 ++ [(y, zy)] ++ [(x, zx)]).length = nI (l0.length + 1) + Int32.ofInt (-1) + 1 + 1 by rw [hlocal, nI_1, nI_1]; simp]
                    rfl
                · obtain ⟨zx, hzx, hz4, hz6, hgz⟩ : ∃ zx, σ 234 t = nI zx ∧ zx < t ∧ zx < n ∧ tgd (σ 233) (σ 234) (σ 235) zx = true := by
                    rcases (hV t ht).2 with ⟨k', h3', hk', -, -⟩ | ⟨k', x', y', h3', hk', hx', hy', h4', h5', h6', h7'⟩ | ⟨k', x', h3', hk', hx', hy', h4', h6'⟩
                    · have := nI_inj (hk.symm.trans (q4.trans hk'))
                      omega
                    · have := nI_inj (hk.symm.trans (q4.trans hk'))
                      omega
                    · refine ⟨x', hx', h4', h6', ?_⟩
                      rw [tgd_1 hV hk' hx' hy' (by omega) (by omega) h4' h6'] at hgt
                      exact hgt
                  have e7 : tsz (σ 233) (σ 234) (σ 235) p = 1 + tsz (σ 233) (σ 234) (σ 235) x := tA_1 hV hk hx hy (by omega) (by omega) h4 h6
                  repeat refine kX_one rfl ?_
                  refine kX_ialdV rfl rfl (by decide) (p) (by first | rfl | decide) (by omega) (hy) ?_
                  repeat refine kX_one rfl ?_
                  refine kX_ialdV rfl rfl (by decide) (p) (by first | rfl | decide) (by omega) (hx) ?_
                  refine kX_iastN rfl rfl (by decide) (l0.length) (hlocal) (by omega) ?_
                  repeat refine kX_one rfl ?_
                  refine kX_ialdV rfl rfl (by decide) (t) (by first | rfl | decide) (by omega) (hzx) ?_
                  refine kX_iastN rfl rfl (by decide) (l0.length) (hlocal) (by omega) ?_
                  iterate 1 (refine kX_one rfl ?_)
                  refine back (l0 ++ [(x, zx)]) a m (upd W l0.length (nI x)) (upd X l0.length (nI zx)) A _ ?_ (lst2_push w2 (x, zx)) (lst2_push x2 (x, zx)) ?_ ?_ j5 j6 j7 ?_ j9 _ rfl ?_
                  · funext c; unfold bdS va_up; repeat' split
                    all_goals first | rfl | omega | (subst_vars; rfl) | (funext j; unfold upd; repeat' split; all_goals first | rfl | omega | (subst_vars; rfl))
                  · intro z hz
                    simp only [List.mem_append, List.mem_singleton] at hz
                    rcases hz with hz | rfl
                    · exact j3' z hz
                    · exact ⟨h6, hz6, hgz⟩
                  · simp only [List.map_append, List.sum_append, List.map_cons, List.map_nil, List.sum_cons, List.sum_nil]
                    omega
                  · rw [← j8, emt x zx a hx (by omega) hzx (by omega), hy]
                    rw [show (l0 ++ [(x, zx)]).reverse = (x, zx) :: l0.reverse by simp]
                    show (mtF σ (x + 1) x zx a).bind (mtS σ l0.reverse) = _
                    rw [mtF_fuel h (x + 1) p x zx a h6 (by omega) (by omega)]
                    cases mtF σ p x zx a <;> rfl
                  · rw [show nI (l0 ++ [(x, zx)]).length = nI (l0.length + 1) + Int32.ofInt (-1) + 1 by rw [hlocal, nI_1]; simp]
                    rfl
              · have q4 : σ 233 p ≠ σ 233 t := qeqF q4
                iterate 1 (refine kX_one rfl ?_)
                refine fail (by rw [mtF, if_neg q2', if_neg q3, if_pos q4]) _ _ ?_
                refine kX_ret (i := .ireturn) (len := 1) rfl (Or.inr rfl) rfl (⟨rfl, rfl⟩)
            · have q3 : σ 233 p = nI 3 := qneF q3
              obtain ⟨r, k, r1, k1, kv⟩ := hR.2.2.2.2.1 p hp q3
              obtain ⟨t', so, as, a1, a2, a3, a4, a5, a6, a7, -⟩ := hR.2.2.2.1 r k r1 k1
              have hpt : p = t' := nI_inj (kv.symm.trans a2)
              subst hpt
              obtain ⟨⟨v, hv6, hv⟩, -⟩ := hR.2.2.1 r r1
              have hk6 : k < 6 := by rw [hv, fN_nI (by omega)] at k1; omega
              have hfk : fN (σ 241 p) = k := by rw [a5]; exact fN_nI (by omega)
              repeat refine kX_one rfl ?_
              refine kX_ialdV rfl rfl (by decide) (p) (by first | rfl | decide) (by omega) (a5) ?_
              repeat refine kX_one rfl ?_
              refine kX_ialdV (v := a k) rfl rfl (by decide) k rfl hk6 (j6 k hk6) ?_
              /- it stands for t from here on -/
              have bind : ∀ (hok : mtF σ (p + 1) p t a = some (upd a k (nI t))) (m' : Nat), m' < 64 → (∀ k', k' < 6 → (m' / 2 ^ k' % 2 = 1 ↔ σ 265 (6 * s + k') < 0 ∧ ¬ upd a k (nI t) k' < 0)) → (∀ k', k' < 6 → ¬ σ 265 (6 * s + k') < 0 → upd a k (nI t) k' = σ 265 (6 * s + k')) → ∀ lv, nk lv = true → ([(8, Value.int (nI k)), (7, .int (nI t)), (5, .int (nI l0.length)), (4, .int (nI m')), (0, .ref 232), (1, .int (nI s)), (2, .int (nI p0)), (3, .int (nI t0))] : jL).map (fun q => jl lv q.1) = ([(8, Value.int (nI k)), (7, .int (nI t)), (5, .int (nI l0.length)), (4, .int (nI m')), (0, .ref 232), (1, .int (nI s)), (2, .int (nI p0)), (3, .int (nI t0))] : jL).map (fun q => some q.2) → kX kT L xs (d + 1) 196 199 lv [] (bdS σ W X A) (fun r σ' => ∃ W X A, σ' = bdS σ W X A ∧ mBnd (fun k => σ 265 (6 * s + k)) (mtF σ (p0 + 1) p0 t0 (fun k => σ 265 (6 * s + k))) r A) := by
                intro hok m' g1 g2 g9 lv hk' hlv
                refine kX_lv _ hk' rfl hlv ?_
                repeat refine kX_one rfl ?_
                refine kX_iastN rfl rfl (by decide) (k) (by first | rfl | decide) (hk6) ?_
                iterate 1 (refine kX_one rfl ?_)
                refine back l0 (upd a k (nI t)) m' W X (upd A k (nI t)) _ ?_ w2 x2 j3' (by omega) g1 (fun k' hk2 => ?_) g2 ?_ g9 _ rfl rfl
                · funext c; unfold bdS va_up; repeat' split
                  all_goals first | rfl | omega | (subst_vars; rfl) | (funext j; unfold upd; repeat' split; all_goals first | rfl | omega | (subst_vars; rfl))
                · by_cases e : k' = k
                  · subst e
                    rw [pk_us, pk_us]
                  · rw [pk_un e, pk_un e]
                    exact j6 k' hk2
                · rw [← j8, hok]
                  rfl
              have hlv2 : ([(8, Value.int (nI k)), (7, .int (nI t)), (5, .int (nI l0.length)), (4, .int (nI m)), (0, .ref 232), (1, .int (nI s)), (2, .int (nI p0)), (3, .int (nI t0))] : jL) = [(8, Value.int (nI k)), (7, .int (nI t)), (5, .int (nI (l0.length + 1) + Int32.ofInt (-1))), (4, .int (nI m)), (0, .ref 232), (1, .int (nI s)), (2, .int (nI p0)), (3, .int (nI t0))] := by rw [hlocal]
              repeat refine kX_one rfl ?_
              refine kX_if (fun q4 => ?_) (fun q4 => ?_)
              · have q4 : a k < 0 := of_decide_eq_true q4
                /- it stood for nothing -/
                have free : ¬ (σ 240 p ≠ nI 3 ∧ σ 233 t ≠ σ 240 p) → ∀ lv, nk lv = true → ([(8, Value.int (nI k)), (7, .int (nI t)), (5, .int (nI l0.length)), (4, .int (nI m)), (0, .ref 232), (1, .int (nI s)), (2, .int (nI p0)), (3, .int (nI t0))] : jL).map (fun q => jl lv q.1) = ([(8, Value.int (nI k)), (7, .int (nI t)), (5, .int (nI l0.length)), (4, .int (nI m)), (0, .ref 232), (1, .int (nI s)), (2, .int (nI p0)), (3, .int (nI t0))] : jL).map (fun q => some q.2) → kX kT L xs (d + 1) 196 175 lv [] (bdS σ W X A) (fun r σ' => ∃ W X A, σ' = bdS σ W X A ∧ mBnd (fun k => σ 265 (6 * s + k)) (mtF σ (p0 + 1) p0 t0 (fun k => σ 265 (6 * s + k))) r A) := by
                  intro hok lv hk' hlv
                  refine kX_lv _ hk' rfl hlv ?_
                  obtain ⟨o1, o2⟩ := bm_lt m j5 k hk6
                  repeat refine kX_one rfl ?_
                  refine kX_ialdV (v := a k) rfl rfl (by decide) k rfl hk6 (j6 k hk6) ?_
                  repeat refine kX_one rfl ?_
                  refine kX_ifT (decide_eq_true q4) ?_
                  iterate 5 (refine kX_one rfl ?_)
                  refine kX_top (bm_or m j5 k hk6) ?_
                  iterate 1 (refine kX_one rfl ?_)
                  have hk0 : σ 265 (6 * s + k) < 0 := Classical.byContradiction (fun hnn => absurd q4 (by rw [j9 k hk6 hnn]; exact hnn))
                  refine bind ?_ (orb m k) o1 (fun k' hk2 => ?_) (fun k' hk2 hnn => ?_) _ rfl rfl
                  · rw [mtF, if_neg q2', if_pos q3, hfk, if_neg (fun hh => hh q4), if_neg hok]
                  · rw [o2 k' hk2, j7 k' hk2]
                    by_cases e : k' = k
                    · subst e
                      rw [pk_us]
                      exact ⟨fun _ => ⟨hk0, nI_pos (by omega)⟩, fun _ => Or.inl rfl⟩
                    · rw [pk_un e]
                      exact ⟨fun z => z.elim (fun z => absurd z e) id, Or.inr⟩
                  · by_cases e : k' = k
                    · subst e
                      exact absurd hk0 hnn
                    · rw [pk_un e]
                      exact j9 k' hk2 hnn
                repeat refine kX_one rfl ?_
                refine kX_ialdN rfl rfl (by decide) (p) (by first | rfl | decide) (by omega) ?_
                repeat refine kX_one rfl ?_
                refine kX_if (fun q5 => ?_) (fun q5 => ?_)
                · have q5 : σ 240 p = nI 3 := qeq q5
                  refine free (fun z => z.1 q5) _ rfl ?_
                  rw [hlv2]
                  rfl
                · have q5 : σ 240 p ≠ nI 3 := qeqF q5
                  repeat refine kX_one rfl ?_
                  refine kX_ialdN rfl rfl (by decide) (t) (by first | rfl | decide) (by omega) ?_
                  repeat refine kX_one rfl ?_
                  refine kX_ialdN rfl rfl (by decide) (p) (by first | rfl | decide) (by omega) ?_
                  repeat refine kX_one rfl ?_
                  refine kX_if (fun q6 => ?_) (fun q6 => ?_)
                  · have q6 : σ 233 t = σ 240 p := qeq q6
                    refine free (fun z => z.2 q6) _ rfl ?_
                    rw [hlv2]
                    rfl
                  · have q6 : σ 233 t ≠ σ 240 p := qeqF q6
                    iterate 1 (refine kX_one rfl ?_)
                    refine fail (by rw [mtF, if_neg q2', if_pos q3, hfk, if_neg (fun hh => hh q4), if_pos ⟨q5, q6⟩]) _ _ ?_
                    refine kX_ret (i := .ireturn) (len := 1) rfl (Or.inr rfl) rfl (⟨rfl, rfl⟩)
              · have q4 : ¬ a k < 0 := of_decide_eq_false q4
                repeat refine kX_one rfl ?_
                refine kX_ialdV (v := a k) rfl rfl (by decide) k rfl hk6 (j6 k hk6) ?_
                repeat refine kX_one rfl ?_
                refine kX_if (fun q5 => ?_) (fun q5 => ?_)
                · have q5 : a k = nI t := qeq q5
                  repeat refine kX_one rfl ?_
                  refine kX_ialdV (v := a k) rfl rfl (by decide) k rfl hk6 (j6 k hk6) ?_
                  repeat refine kX_one rfl ?_
                  refine kX_ifF (decide_eq_false q4) ?_
                  iterate 3 (refine kX_one rfl ?_)
                  have eu : upd a k (nI t) = a := by
                    funext z
                    unfold upd
                    split
                    · next e => rw [e, q5]
                    · rfl
                  refine bind (by rw [eu, mtF, if_neg q2', if_pos q3, hfk, if_pos q4, if_pos q5]) m j5 (by rw [eu]; exact j7) (by rw [eu]; exact j9) _ rfl ?_
                  rw [hlv2]
                  rfl
                · have q5 : a k ≠ nI t := qeqF q5
                  iterate 2 (refine kX_one rfl ?_)
                  refine fail (by rw [mtF, if_neg q2', if_pos q3, hfk, if_pos q4, if_neg q5]) _ _ ?_
                  refine kX_ret (i := .ireturn) (len := 1) rfl (Or.inr rfl) rfl (⟨rfl, rfl⟩)
          · have q2 := (bI_ne _).mp (qeqF q2)
            repeat refine kX_one rfl ?_
            refine kX_if (fun q3 => ?_) (fun q3 => ?_)
            · have q3 : p = t := nI_inj (qeq q3)
              refine back l0 a m W X A _ rfl w2 x2 j3' (by omega) j5 j6 j7 ?_ j9 _ rfl ?_
              · rw [← j8, mtF, if_pos q2, if_pos q3]
                rfl
              · rw [show nI l0.length = nI (l0.length + 1) + Int32.ofInt (-1) from hlocal.symm]
                rfl
            · have q3 : p ≠ t := fun e => qeqF q3 (by rw [e])
              iterate 1 (refine kX_one rfl ?_)
              refine fail (by rw [mtF, if_pos q2, if_neg q3]) _ _ ?_
              refine kX_ret (i := .ireturn) (len := 1) rfl (Or.inr rfl) rfl (⟨rfl, rfl⟩)
    · have q := qgeF q i 6
      repeat refine kX_one rfl ?_
      refine kX_ialdN rfl rfl (by decide) (6 * s + i) (ix6 s i) (by omega) ?_
      refine kX_iastN rfl rfl (by decide) (i) (by first | rfl | decide) (by omega) ?_
      iterate 2 (refine kX_one rfl ?_)
      rw [kup_up]
      have := ih (i + 1, upd A i (σ 265 (6 * s + i))) ⟨by simp only; omega, fun u hu => by
        simp only at hu ⊢
        by_cases e : u = i
        · subst e
          exact pk_us
        · rw [pk_un e]
          exact i2 u (by omega)⟩ (by simp only; omega)
      rw [← nI_1] at this
      exact this
