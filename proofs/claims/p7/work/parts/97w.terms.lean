/-! the class: new TERMS -/
theorem cGr_put (σ : kS) (n : Nat) (w x y z g : Int32) (hn : n < 200) : cGr σ (cPut σ n w x y z g) n := by
  refine ⟨fun c hc => ?_, fun u hu => pk_un (by omega), fun g hg => ⟨pk_un (by omega), pk_un (by omega), pk_un (by omega), rfl⟩⟩
  simp only [tC, List.mem_cons, List.not_mem_nil, or_false, not_or] at hc
  simp [cPut, va_up, hc]
theorem cGr_up {σ : kS} {n c : Nat} {f : Nat → Int32} (hc : c = 9 ∨ c = 10 ∨ c = 11 ∨ c = 12 ∨ c = 7) : cGr σ (va_up σ c f) n := by
  rcases hc with rfl | rfl | rfl | rfl | rfl
  all_goals
    refine ⟨fun e he => ?_, fun u hu => rfl, fun g hg => ⟨rfl, rfl, rfl, rfl⟩⟩
    simp only [tC, List.mem_cons, List.not_mem_nil, or_false, not_or] at he
    simp [va_up, he]
/-- the new TERM's own word, by its rows -/
theorem cTt_new {τ : kS} {n k : Nat} {x y g : Int32} (e1 : τ 2 n = nI k) (e2 : τ 3 n = x) (e3 : τ 4 n = y) (e4 : τ 8 n = g) (hk : k ≤ 9) (hx : cCh n x) (hy : cCh n y) (hg : g = 0 ∨ g = 1) (h3 : k = 3 → g = 0 ∧ ∃ p, p < 6 ∧ τ 12 n = nI p) (hgc : k ≠ 3 → (g = 1 ↔ cG τ n x ∧ cG τ n y)) (hl : k ≤ 3 → x = -1 ∧ y = -1) (ho : 4 ≤ k → g = 0 → ∃ x', x' < n ∧ x = nI x' ∧ ((∃ y', y' < n ∧ y = nI y') ∨ (y = -1 ∧ (k = 7 ∨ k = 9)))) (hnx : 4 ≤ k → τ 6 n = -1 ∨ ∃ u, u < n ∧ τ 6 n = nI u ∧ 4 ≤ fN (τ 2 u)) : cTt τ n := by
  have hf : fN (nI k) = k := fN_nI (by omega)
  have h3' : nI k = nI 3 ↔ k = 3 := ⟨fun q => nI_inj q, fun q => by rw [q]⟩
  unfold cTt
  rw [e1, e2, e3, e4, hf]
  refine ⟨⟨k, hk, rfl⟩, hx, hy, hg, fun q => h3 (h3'.mp q), fun q => hgc (fun z => q (h3'.mpr z)), hl, fun q q2 => ?_, hnx⟩
  obtain ⟨x', x1, x2, x3⟩ := ho q q2
  refine ⟨x', x1, x2, ?_⟩
  rcases x3 with x3 | ⟨x3, x4⟩
  · exact Or.inl x3
  · exact Or.inr ⟨x3, x4.elim (fun z => Or.inl (by rw [z])) (fun z => Or.inr (by rw [z]))⟩
set_option maxRecDepth 100000 in
set_option maxHeartbeats 4000000 in
theorem mc_newAtom (L : Nat) (xs : Nat → Int32) (d : Nat) (σ : kS) (n k : Nat) (b : Int32) (h : cT σ n) (hk : k ≤ 2) (hb : b = 0 ∨ b = 1) : kXM kT L xs (d + 4) 104 [.ref 1, .int (nI k), .int b] σ (fun r σ' => (n = 200 ∧ r = some (.int (-1)) ∧ σ = σ') ∨ (n < 200 ∧ r = some (.int (nI n)) ∧ cT σ' (n + 1) ∧ cGr σ σ' n ∧ σ' 8 n = 1 ∧ σ' 2 n = nI k)) := by
  unfold kXM
  iterate 4 (refine kX_one rfl ?_)
  refine kX_cal (mc_put L xs d σ n (nI k) (-1) (-1) h.1 h.2.1 (cT_01 h)) rfl (Or.inr rfl) rfl rfl rfl (fun r1 σ1 q1 => ?_)
  rcases q1 with ⟨rfl, rfl, rfl⟩ | ⟨hn, rfl, z, g, g1, g2, rfl⟩
  · repeat refine kX_one rfl ?_
    refine kX_ret (i := .ireturn) (len := 1) rfl (Or.inr rfl) rfl (Or.inl ⟨rfl, rfl, rfl⟩)
  · have hg : g = 1 := g2.mpr ⟨cG_m1 σ n (by omega), cG_m1 σ n (by omega)⟩
    subst hg
    iterate 2 (refine kX_one rfl ?_)
    repeat refine kX_one rfl ?_
    refine kX_if (fun q => ?_) (fun q => ?_)
    · exact absurd (qeq q) (nI_m1 (by omega))
    · iterate 4 (refine kX_one rfl ?_)
      refine kX_bastN rfl rfl (by decide) (n) (by first | rfl | decide) (hn) (hb) ?_
      repeat refine kX_one rfl ?_
      refine kX_ret (i := .ireturn) (len := 1) rfl (Or.inr rfl) rfl (Or.inr ⟨hn, rfl, ?_, cGr_trans (cGr_put σ n _ _ _ _ _ hn) (cGr_up (Or.inl rfl)) (Nat.le_refl _), pk_us, pk_us⟩)
      refine cT_push h hn rfl (fun u hu => ⟨pk_un (by omega), pk_un (by omega), pk_un (by omega), pk_un (by omega), rfl, rfl⟩) (fun s hs => Or.inl rfl) ?_
      exact cTt_new (k := k) pk_us pk_us pk_us pk_us (by omega) (Or.inl rfl) (Or.inl rfl) (Or.inr rfl) (fun q => by omega) (fun _ => ⟨fun _ => ⟨cG_m1 _ n (by omega), cG_m1 _ n (by omega)⟩, fun _ => rfl⟩) (fun _ => ⟨rfl, rfl⟩) (fun q => by omega) (fun q => by omega)
set_option maxRecDepth 100000 in
set_option maxHeartbeats 4000000 in
theorem mc_newVariable (L : Nat) (xs : Nat → Int32) (d : Nat) (σ : kS) (n p : Nat) (r0 so : Int32) (h : cT σ n) (hp : p < 6) : kXM kT L xs (d + 4) 105 [.ref 1, .int r0, .int (nI p), .int so] σ (fun r σ' => (n = 200 ∧ r = some (.int (-1)) ∧ σ = σ') ∨ (n < 200 ∧ r = some (.int (nI n)) ∧ cT σ' (n + 1) ∧ cGr σ σ' n)) := by
  unfold kXM
  iterate 4 (refine kX_one rfl ?_)
  refine kX_cal (mc_put L xs d σ n (nI 3) (-1) (-1) h.1 h.2.1 (cT_01 h)) rfl (Or.inr rfl) rfl rfl rfl (fun r1 σ1 q1 => ?_)
  rcases q1 with ⟨rfl, rfl, rfl⟩ | ⟨hn, rfl, z, g, g1, g2, rfl⟩
  · repeat refine kX_one rfl ?_
    refine kX_ret (i := .ireturn) (len := 1) rfl (Or.inr rfl) rfl (Or.inl ⟨rfl, rfl, rfl⟩)
  · iterate 3 (refine kX_one rfl ?_)
    repeat refine kX_one rfl ?_
    refine kX_if (fun q => ?_) (fun q => ?_)
    · exact absurd (qeq q) (nI_m1 (by omega))
    · iterate 4 (refine kX_one rfl ?_)
      refine kX_bastN rfl rfl (by decide) (n) (by first | rfl | decide) (hn) (Or.inl rfl) ?_
      iterate 4 (refine kX_one rfl ?_)
      refine kX_iastN rfl rfl (by decide) (n) (by first | rfl | decide) (hn) ?_
      iterate 4 (refine kX_one rfl ?_)
      refine kX_iastN rfl rfl (by decide) (n) (by first | rfl | decide) (hn) ?_
      iterate 4 (refine kX_one rfl ?_)
      refine kX_iastN rfl rfl (by decide) (n) (by first | rfl | decide) (hn) ?_
      repeat refine kX_one rfl ?_
      have e : ∀ τ : kS, τ = va_up (va_up (va_up (va_up (cPut σ n (nI 3) (-1) (-1) z g) 8 (upd (upd (σ 8) n g) n 0)) 10 (upd (σ 10) n r0)) 12 (upd (σ 12) n (nI p))) 11 (upd (σ 11) n so) → cT τ (n + 1) ∧ cGr σ τ n := by
        intro τ hτ
        subst hτ
        constructor
        · refine cT_push h hn rfl (fun u hu => ⟨pk_un (by omega), pk_un (by omega), pk_un (by omega), (pk_un (by omega)).trans (pk_un (by omega)), pk_un (by omega), rfl⟩) (fun s hs => Or.inl rfl) ?_
          exact cTt_new (k := 3) pk_us pk_us pk_us pk_us (by omega) (Or.inl rfl) (Or.inl rfl) (Or.inl rfl) (fun _ => ⟨rfl, p, hp, pk_us⟩) (fun q => absurd rfl q) (fun _ => ⟨rfl, rfl⟩) (fun q => by omega) (fun q => by omega)
        · refine ⟨fun c hc => ?_, fun u hu => (pk_un (by omega)).trans (pk_un (by omega)), fun g hg => ⟨pk_un (by omega), pk_un (by omega), pk_un (by omega), rfl⟩⟩
          simp only [tC, List.mem_cons, List.not_mem_nil, or_false, not_or] at hc
          simp [cPut, va_up, hc]
      refine kX_ret (i := .ireturn) (len := 1) rfl (Or.inr rfl) rfl (Or.inr ⟨hn, rfl, e _ rfl⟩)
set_option maxRecDepth 100000 in
set_option maxHeartbeats 4000000 in
theorem mc_newCompound (L : Nat) (xs : Nat → Int32) (d : Nat) (σ : kS) (n k : Nat) (x y : Int32) (h : cT σ n) (hk : 4 ≤ k) (hk9 : k ≤ 9) (hx : cCh n x) (hy : cCh n y) (ho : ¬ (cG σ n x ∧ cG σ n y) → ∃ x', x' < n ∧ x = nI x' ∧ ((∃ y', y' < n ∧ y = nI y') ∨ (y = -1 ∧ (k = 7 ∨ k = 9)))) : kXM kT L xs (d + 4) 106 [.ref 1, .int (nI k), .int x, .int y] σ (fun r σ' => (n = 200 ∧ r = some (.int (-1)) ∧ σ = σ') ∨ (n < 200 ∧ r = some (.int (nI n)) ∧ cT σ' (n + 1) ∧ cGr σ σ' n ∧ (cG σ n x ∧ cG σ n y → σ' 8 n = 1))) := by
  unfold kXM
  iterate 4 (refine kX_one rfl ?_)
  refine kX_cal (mc_put L xs d σ n (nI k) x y h.1 h.2.1 (cT_01 h)) rfl (Or.inr rfl) rfl rfl rfl (fun r1 σ1 q1 => ?_)
  rcases q1 with ⟨rfl, rfl, rfl⟩ | ⟨hn, rfl, z, g, g1, g2, rfl⟩
  · repeat refine kX_one rfl ?_
    refine kX_ret (i := .ireturn) (len := 1) rfl (Or.inr rfl) rfl (Or.inl ⟨rfl, rfl, rfl⟩)
  · iterate 3 (refine kX_one rfl ?_)
    repeat refine kX_one rfl ?_
    refine kX_if (fun q => ?_) (fun q => ?_)
    · exact absurd (qeq q) (nI_m1 (by omega))
    · iterate 3 (refine kX_one rfl ?_)
      refine kX_cal (mc_slot L xs (d + 2) _ (nI k) x y) rfl (Or.inr rfl) rfl rfl rfl (fun r1 σ1 q1 => ?_)
      obtain ⟨rfl, rfl⟩ := q1
      obtain ⟨sl, s1, s2⟩ := cSl_lt (nI k) x y
      iterate 7 (refine kX_one rfl ?_)
      refine kX_ialdN rfl rfl (by decide) (sl) (s2) (s1) ?_
      refine kX_iastN rfl rfl (by decide) (n) (by first | rfl | decide) (by omega) ?_
      iterate 4 (refine kX_one rfl ?_)
      refine kX_iastN rfl rfl (by decide) (sl) (s2) (s1) ?_
      repeat refine kX_one rfl ?_
      have hh := h.2.2.1 sl s1
      have e : ∀ τ : kS, τ = va_up (va_up (cPut σ n (nI k) x y z g) 6 (upd (σ 6) n (σ 7 sl))) 7 (upd (σ 7) sl (nI n)) → cT τ (n + 1) ∧ cGr σ τ n ∧ (cG σ n x ∧ cG σ n y → τ 8 n = 1) := by
        intro τ hτ
        subst hτ
        have hG : ∀ c, cG (va_up (va_up (cPut σ n (nI k) x y z g) 6 (upd (σ 6) n (σ 7 sl))) 7 (upd (σ 7) sl (nI n))) n c ↔ cG σ n c := fun c => cG_eq (fun u hu => pk_un (by omega))
        refine ⟨?_, ?_, fun q => pk_us.trans (g2.mpr q)⟩
        · refine cT_push h hn rfl (fun u hu => ⟨pk_un (by omega), pk_un (by omega), pk_un (by omega), pk_un (by omega), rfl, pk_un (by omega)⟩) (fun s hs => ?_) ?_
          · by_cases e : s = sl
            · subst e
              refine Or.inr ⟨pk_us, ?_⟩
              show 4 ≤ fN (upd (σ 2) n (nI k) n)
              rw [pk_us, fN_nI (by omega)]
              exact hk
            · exact Or.inl (pk_un e)
          · refine cTt_new (k := k) pk_us pk_us pk_us pk_us hk9 hx hy g1 (fun q => by omega) (fun _ => by rw [hG, hG]; exact g2) (fun q => by omega) (fun _ q => ho (fun z => ?_)) (fun _ => ?_)
            · rw [g2.mpr z] at q
              exact absurd q (by decide)
            · show upd (σ 6) n (σ 7 sl) n = -1 ∨ ∃ u, u < n ∧ upd (σ 6) n (σ 7 sl) n = nI u ∧ 4 ≤ fN (upd (σ 2) n (nI k) u)
              rw [pk_us]
              rcases hh with q | ⟨u, u1, u2, u3⟩
              · exact Or.inl q
              · exact Or.inr ⟨u, u1, u2, by rw [pk_un (by omega)]; exact u3⟩
        · refine ⟨fun c hc => ?_, fun u hu => pk_un (by omega), fun g hg => ⟨pk_un (by omega), pk_un (by omega), pk_un (by omega), pk_un (by omega)⟩⟩
          simp only [tC, List.mem_cons, List.not_mem_nil, or_false, not_or] at hc
          simp [cPut, va_up, hc]
      refine kX_ret (i := .ireturn) (len := 1) rfl (Or.inr rfl) rfl (Or.inr ⟨hn, rfl, e _ rfl⟩)

set_option maxRecDepth 100000 in
set_option maxHeartbeats 4000000 in
theorem mc_findFrom (L : Nat) (xs : Nat → Int32) (d : Nat) (σ : kS) (P : Nat → Prop) (c w x y : Int32) (hP : ∀ t, P t → t < 1928) (hn : ∀ t, P t → σ 6 t = -1 ∨ ∃ u, P u ∧ σ 6 t = nI u) (hc : c = -1 ∨ ∃ u, P u ∧ c = nI u) : kXM kT L xs (d + 1) 103 [.ref 1, .int c, .int w, .int x, .int y] σ (fun r σ' => (r = some (.int (-1)) ∨ ∃ t, P t ∧ r = some (.int (nI t)) ∧ σ 2 t = w ∧ σ 3 t = x ∧ σ 4 t = y) ∧ σ = σ') := by
  unfold kXM
  have k79 : ∀ lv, kX kT L xs (d + 1) 103 79 lv [] σ (fun r σ' => (r = some (.int (-1)) ∨ ∃ t, P t ∧ r = some (.int (nI t)) ∧ σ 2 t = w ∧ σ 3 t = x ∧ σ 4 t = y) ∧ σ = σ') := by
    intro lv
    iterate 1 (refine kX_one rfl ?_)
    refine kX_ret (i := .ireturn) (len := 1) rfl (Or.inr rfl) rfl (⟨Or.inl rfl, rfl⟩)
  have loop : ∀ q : Nat × Int32, (q.1 ≤ 1928 ∧ (q.2 = -1 ∨ ∃ u, P u ∧ q.2 = nI u)) → kX kT L xs (d + 1) 103 6 [(6, .int (nI q.1)), (5, .int q.2), (0, .ref 1), (1, .int c), (2, .int w), (3, .int x), (4, .int y)] [] σ (fun r σ' => (r = some (.int (-1)) ∨ ∃ t, P t ∧ r = some (.int (nI t)) ∧ σ 2 t = w ∧ σ 3 t = x ∧ σ 4 t = y) ∧ σ = σ') := by
    refine kX_while (fun q : Nat × Int32 => [(6, .int (nI q.1)), (5, .int q.2), (0, .ref 1), (1, .int c), (2, .int w), (3, .int x), (4, .int y)]) (fun _ => σ) _ (fun q => 1928 - q.1) ?_
    rintro ⟨m, a⟩ ⟨i1, i2⟩ ih
    dsimp only at i1 i2 ih ⊢
    iterate 2 (refine kX_one rfl ?_)
    repeat refine kX_one rfl ?_
    refine kX_if (fun q => ?_) (fun q => ?_)
    · exact k79 _
    · have q := qgeF q m 1928
      rcases i2 with rfl | ⟨t, hPt, rfl⟩
      · iterate 2 (refine kX_one rfl ?_)
        exact k79 _
      · have ht := hP t hPt
        iterate 1 (refine kX_one rfl ?_)
        repeat refine kX_one rfl ?_
        refine kX_ifF (decide_eq_false (nI_pos (by omega))) ?_
        iterate 2 (refine kX_one rfl ?_)
        repeat refine kX_one rfl ?_
        refine kX_if (fun q2 => ?_) (fun q2 => ?_)
        · have q2 := qge q2 t 1928
          omega
        · have k64 : kX kT L xs (d + 1) 103 64 [(6, .int (nI m)), (5, .int (nI t)), (0, .ref 1), (1, .int c), (2, .int w), (3, .int x), (4, .int y)] [] σ (fun r σ' => (r = some (.int (-1)) ∨ ∃ t, P t ∧ r = some (.int (nI t)) ∧ σ 2 t = w ∧ σ 3 t = x ∧ σ 4 t = y) ∧ σ = σ') := by
            iterate 3 (refine kX_one rfl ?_)
            refine kX_ialdN rfl rfl (by decide) (t) (by first | rfl | decide) (ht) ?_
            iterate 3 (refine kX_one rfl ?_)
            have := ih (m + 1, σ 6 t) ⟨q, hn t hPt⟩ (by simp only; omega)
            dsimp only at this
            rw [← nI_1] at this
            exact kX_lv _ rfl rfl rfl this
          iterate 3 (refine kX_one rfl ?_)
          refine kX_ialdN rfl rfl (by decide) (t) (by first | rfl | decide) (ht) ?_
          iterate 1 (refine kX_one rfl ?_)
          repeat refine kX_one rfl ?_
          refine kX_if (fun q3 => ?_) (fun q3 => ?_)
          · exact k64
          · have q3 : σ 2 t = w := qneF q3
            iterate 3 (refine kX_one rfl ?_)
            refine kX_ialdN rfl rfl (by decide) (t) (by first | rfl | decide) (ht) ?_
            iterate 1 (refine kX_one rfl ?_)
            repeat refine kX_one rfl ?_
            refine kX_if (fun q4 => ?_) (fun q4 => ?_)
            · exact k64
            · have q4 : σ 3 t = x := qneF q4
              iterate 3 (refine kX_one rfl ?_)
              refine kX_ialdN rfl rfl (by decide) (t) (by first | rfl | decide) (ht) ?_
              iterate 1 (refine kX_one rfl ?_)
              repeat refine kX_one rfl ?_
              refine kX_if (fun q5 => ?_) (fun q5 => ?_)
              · exact k64
              · have q5 : σ 4 t = y := qneF q5
                iterate 1 (refine kX_one rfl ?_)
                refine kX_ret (i := .ireturn) (len := 1) rfl (Or.inr rfl) rfl (⟨Or.inr ⟨t, hPt, rfl, q3, q4, q5⟩, rfl⟩)
  iterate 4 (refine kX_one rfl ?_)
  exact kX_lv _ rfl rfl rfl (loop (0, c) ⟨Nat.zero_le _, hc⟩)
