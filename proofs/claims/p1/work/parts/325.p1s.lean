/-! p1: the reference's search on a fresh object (wip/gen_p1s.py) -/
theorem jinN {k n : Nat} (h : k < n) (hn : n ≤ 100000) : jin (nI k) n = true := decide_eq_true (nI_in h (by omega))
theorem jeq_rf (x : Int32) : jcmp .eq x x = true := decide_eq_true rfl
def kgd (mi pc : Nat) : Bool := (Nat.beq mi 179 && Nat.beq pc 19) || (Nat.beq mi 220 && (Nat.beq pc 2 || (Nat.beq pc 27 || (Nat.beq pc 104 || Nat.beq pc 129))))
theorem kX_oneG {T : List jC} {L : Nat} {xs : Nat → Int32} {d mi pc : Nat} {lv : jL} {st : List Value} {σ : kS} {Q : Option Value → kS → Prop} {pc1 : Nat} {lv1 : jL} {st1 : List Value} {σ1 : kS} (_ : kgd mi pc = false) (hs : kone T L xs d mi pc lv st σ = some (pc1, lv1, st1, σ1)) (g : kX T L xs d mi pc1 lv1 st1 σ1 Q) : kX T L xs d mi pc lv st σ Q := kX_one hs g
set_option maxRecDepth 100000 in
theorem kc_a_loop (L : Nat) (xs : Nat → Int32) (d : Nat) (σ : kS) (Q : Option Value → kS → Prop) (he : ∀ f, kX kT L xs (d + 1) 220 25 [(1, .int (nI 4)), (0, .ref 232)] [] (va_up σ 290 f) Q) : ∀ (m i : Nat), i + m = 4 → ∀ f, kX kT L xs (d + 1) 220 2 [(1, .int (nI i)), (0, .ref 232)] [] (va_up σ 290 f) Q := by
  intro m
  have hb : Int32.ofInt 4 = nI 4 := by decide
  induction m with
  | zero =>
    intro i hi f
    have hi : i = 4 := by omega
    subst hi
    iterate 3 (refine kX_one rfl ?_)
    refine kX_ifT (by show jcmp .ge (nI 4) (Int32.ofInt 4) = true; rw [hb]; decide) ?_
    exact he f
  | succ m ih =>
    intro i hi f
    have hlt : i < 4 := by omega
    iterate 3 (refine kX_one rfl ?_)
    refine kX_ifF (by show jcmp .ge (nI i) (Int32.ofInt 4) = false; rw [hb]; exact decide_eq_false (nI_ge hlt (by decide))) ?_
    iterate 6 (refine kX_one rfl ?_)
    refine kX_iald rfl rfl (jinN hlt (by decide)) ?_
    refine kX_iast rfl rfl (jinN hlt (by decide)) ?_
    iterate 2 (refine kX_one rfl ?_)
    rw [kup_up]
    have := ih (i + 1) (by omega)
    rw [nI_succ] at this
    exact this _
theorem kc_a_begin {L : Nat} {xs : Nat → Int32} {d : Nat} {σ : kS} {Q : Option Value → kS → Prop} (he : ∀ f, kX kT L xs (d + 1) 220 25 [(1, .int (nI 4)), (0, .ref 232)] [] (va_up σ 290 f) Q) : kX kT L xs (d + 1) 220 2 [(1, .int (0)), (0, .ref 232)] [] σ Q := by
  have := kc_a_loop L xs d σ Q he 4 0 rfl (σ 290)
  rw [kup_self, nI_0] at this
  exact this
set_option maxRecDepth 100000 in
theorem kc_b_loop (L : Nat) (xs : Nat → Int32) (d : Nat) (σ : kS) (Q : Option Value → kS → Prop) (he : ∀ f, kX kT L xs (d + 1) 220 51 [(1, .int (nI 24)), (0, .ref 232)] [] (va_up σ 291 f) Q) : ∀ (m i : Nat), i + m = 24 → ∀ f, kX kT L xs (d + 1) 220 27 [(1, .int (nI i)), (0, .ref 232)] [] (va_up σ 291 f) Q := by
  intro m
  have hb : (Int8.ofInt 24).toInt32 = nI 24 := by decide
  induction m with
  | zero =>
    intro i hi f
    have hi : i = 24 := by omega
    subst hi
    iterate 3 (refine kX_one rfl ?_)
    refine kX_ifT (by show jcmp .ge (nI 24) ((Int8.ofInt 24).toInt32) = true; rw [hb]; decide) ?_
    exact he f
  | succ m ih =>
    intro i hi f
    have hlt : i < 24 := by omega
    iterate 3 (refine kX_one rfl ?_)
    refine kX_ifF (by show jcmp .ge (nI i) ((Int8.ofInt 24).toInt32) = false; rw [hb]; exact decide_eq_false (nI_ge hlt (by decide))) ?_
    iterate 6 (refine kX_one rfl ?_)
    refine kX_iald rfl rfl (jinN hlt (by decide)) ?_
    refine kX_iast rfl rfl (jinN hlt (by decide)) ?_
    iterate 2 (refine kX_one rfl ?_)
    rw [kup_up]
    have := ih (i + 1) (by omega)
    rw [nI_succ] at this
    exact this _
theorem kc_b_begin {L : Nat} {xs : Nat → Int32} {d : Nat} {σ : kS} {Q : Option Value → kS → Prop} (he : ∀ f, kX kT L xs (d + 1) 220 51 [(1, .int (nI 24)), (0, .ref 232)] [] (va_up σ 291 f) Q) : kX kT L xs (d + 1) 220 27 [(1, .int (0)), (0, .ref 232)] [] σ Q := by
  have := kc_b_loop L xs d σ Q he 24 0 rfl (σ 291)
  rw [kup_self, nI_0] at this
  exact this
set_option maxRecDepth 100000 in
theorem kc_c_loop (L : Nat) (xs : Nat → Int32) (d : Nat) (c : Int32) (σ : kS) (Q : Option Value → kS → Prop) (he : ∀ f, kX kT L xs (d + 1) 220 127 [(2, .int (nI 4)), (1, .int c), (0, .ref 232)] [] (va_up σ 264 f) Q) : ∀ (m i : Nat), i + m = 4 → ∀ f, kX kT L xs (d + 1) 220 104 [(2, .int (nI i)), (1, .int c), (0, .ref 232)] [] (va_up σ 264 f) Q := by
  intro m
  have hb : Int32.ofInt 4 = nI 4 := by decide
  induction m with
  | zero =>
    intro i hi f
    have hi : i = 4 := by omega
    subst hi
    iterate 3 (refine kX_one rfl ?_)
    refine kX_ifT (by show jcmp .ge (nI 4) (Int32.ofInt 4) = true; rw [hb]; decide) ?_
    exact he f
  | succ m ih =>
    intro i hi f
    have hlt : i < 4 := by omega
    iterate 3 (refine kX_one rfl ?_)
    refine kX_ifF (by show jcmp .ge (nI i) (Int32.ofInt 4) = false; rw [hb]; exact decide_eq_false (nI_ge hlt (by decide))) ?_
    iterate 6 (refine kX_one rfl ?_)
    refine kX_iald rfl rfl (jinN hlt (by decide)) ?_
    refine kX_iast rfl rfl (jinN hlt (by decide)) ?_
    iterate 2 (refine kX_one rfl ?_)
    rw [kup_up]
    have := ih (i + 1) (by omega)
    rw [nI_succ] at this
    exact this _
theorem kc_c_begin {L : Nat} {xs : Nat → Int32} {d : Nat} {c : Int32} {σ : kS} {Q : Option Value → kS → Prop} (he : ∀ f, kX kT L xs (d + 1) 220 127 [(2, .int (nI 4)), (1, .int c), (0, .ref 232)] [] (va_up σ 264 f) Q) : kX kT L xs (d + 1) 220 104 [(2, .int (0)), (1, .int c), (0, .ref 232)] [] σ Q := by
  have := kc_c_loop L xs d c σ Q he 4 0 rfl (σ 264)
  rw [kup_self, nI_0] at this
  exact this
set_option maxRecDepth 100000 in
theorem kc_d_loop (L : Nat) (xs : Nat → Int32) (d : Nat) (c : Int32) (σ : kS) (Q : Option Value → kS → Prop) (he : ∀ f, kX kT L xs (d + 1) 220 153 [(2, .int (nI 24)), (1, .int c), (0, .ref 232)] [] (va_up σ 265 f) Q) : ∀ (m i : Nat), i + m = 24 → ∀ f, kX kT L xs (d + 1) 220 129 [(2, .int (nI i)), (1, .int c), (0, .ref 232)] [] (va_up σ 265 f) Q := by
  intro m
  have hb : (Int8.ofInt 24).toInt32 = nI 24 := by decide
  induction m with
  | zero =>
    intro i hi f
    have hi : i = 24 := by omega
    subst hi
    iterate 3 (refine kX_one rfl ?_)
    refine kX_ifT (by show jcmp .ge (nI 24) ((Int8.ofInt 24).toInt32) = true; rw [hb]; decide) ?_
    exact he f
  | succ m ih =>
    intro i hi f
    have hlt : i < 24 := by omega
    iterate 3 (refine kX_one rfl ?_)
    refine kX_ifF (by show jcmp .ge (nI i) ((Int8.ofInt 24).toInt32) = false; rw [hb]; exact decide_eq_false (nI_ge hlt (by decide))) ?_
    iterate 6 (refine kX_one rfl ?_)
    refine kX_iald rfl rfl (jinN hlt (by decide)) ?_
    refine kX_iast rfl rfl (jinN hlt (by decide)) ?_
    iterate 2 (refine kX_one rfl ?_)
    rw [kup_up]
    have := ih (i + 1) (by omega)
    rw [nI_succ] at this
    exact this _
theorem kc_d_begin {L : Nat} {xs : Nat → Int32} {d : Nat} {c : Int32} {σ : kS} {Q : Option Value → kS → Prop} (he : ∀ f, kX kT L xs (d + 1) 220 153 [(2, .int (nI 24)), (1, .int c), (0, .ref 232)] [] (va_up σ 265 f) Q) : kX kT L xs (d + 1) 220 129 [(2, .int (0)), (1, .int c), (0, .ref 232)] [] σ Q := by
  have := kc_d_loop L xs d c σ Q he 24 0 rfl (σ 265)
  rw [kup_self, nI_0] at this
  exact this
set_option maxRecDepth 100000 in
set_option maxHeartbeats 16000000 in
theorem kr_search (L : Nat) (xs : Nat → Int32) (σ σ1 : kS) : kXM kT L xs 200 220 [.ref 232] (va_up σ1 232 (kz σ 232)) (fun r _ => r = some (.int 0)) := by
  unfold kXM
  repeat first
    | refine kX_oneG rfl rfl ?_
    | refine kb_begin (fun f9 => ?_)
    | refine kc_a_begin (fun f9 => ?_)
    | refine kc_b_begin (fun f9 => ?_)
    | refine kc_c_begin (fun f9 => ?_)
    | refine kc_d_begin (fun f9 => ?_)
    | refine kX_inl rfl (Or.inr rfl) rfl rfl rfl ?_
    | refine kX_ret rfl (Or.inr rfl) rfl ?_
    | refine kX_ifT (by show jcmp .lt ((200 : Int32) - 1) 200 = true; decide) ?_
  rfl
