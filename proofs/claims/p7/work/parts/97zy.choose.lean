/-! the class: the ways to receive -/
theorem op_at {k : Nat} (h : k < 4) : (fun i => ([224, 225, 226, 227] : List Nat)[i]?) k = some (224 + k) := by
  have : k = 0 ∨ k = 1 ∨ k = 2 ∨ k = 3 := by omega
  rcases this with rfl | rfl | rfl | rfl <;> rfl
theorem kT_op {k : Nat} (h : k < 4) : kT[224 + k]? = some (.inl (0, 200, .inl (fun _ => 0))) := by
  have : k = 0 ∨ k = 1 ∨ k = 2 ∨ k = 3 := by omega
  rcases this with rfl | rfl | rfl | rfl <;> rfl
/-- the GROUND TERMS, by sort -/
def cO (τ : kS) (n : Nat) : Prop := ∀ so, so < 4 → ∃ c, c ≤ 200 ∧ τ 228 so = nI c ∧ ∀ i, i < c → ∃ z, z < n ∧ τ (224 + so) i = nI z ∧ τ 8 z = 1
theorem cO_eq {σ τ : kS} {n : Nat} (e : ∀ z, z < n → τ 8 z = σ 8 z) (e2 : ∀ c, 224 ≤ c → c < 229 → τ c = σ c) (h : cO σ n) : cO τ n := fun so hso => by
  obtain ⟨c, c1, c2, c3⟩ := h so hso
  refine ⟨c, c1, by rw [e2 _ (by decide) (by decide)]; exact c2, fun i hi => ?_⟩
  obtain ⟨z, z1, z2, z3⟩ := c3 i hi
  exact ⟨z, z1, by rw [e2 _ (by omega) (by omega)]; exact z2, by rw [e z z1]; exact z3⟩
set_option maxRecDepth 100000 in
set_option maxHeartbeats 4000000 in
theorem mc_addOption (L : Nat) (xs : Nat → Int32) (d : Nat) (σ : kS) (n so t : Nat) (h : cO σ n) (hso : so < 4) (ht : t < n) (hg : σ 8 t = 1) : kXM kT L xs (d + 1) 30 [.ref 222, .int (nI so), .int (nI t)] σ (fun r σ' => r = none ∧ (∀ c, c < 224 ∨ 229 ≤ c → σ' c = σ c) ∧ cO σ' n) := by
  obtain ⟨c, c1, c2, c3⟩ := h so hso
  unfold kXM
  iterate 3 (refine kX_one rfl ?_)
  refine kX_ialdV rfl rfl (by decide) (so) (by first | rfl | decide) (hso) (c2) ?_
  repeat refine kX_one rfl ?_
  refine kX_if (fun q => ?_) (fun q => ?_)
  · refine kX_ret (i := .return_) (len := 1) rfl (Or.inr rfl) rfl (⟨rfl, fun _ _ => rfl, h⟩)
  · have q := qgeF q c 200
    iterate 3 (refine kX_one rfl ?_)
    refine kX_aaldN rfl (rfl) (by decide) (by decide) (by decide) (so) (by first | rfl | decide) (hso) (op_at hso) ?_
    iterate 3 (refine kX_one rfl ?_)
    refine kX_ialdV rfl rfl (by decide) (so) (by first | rfl | decide) (hso) (c2) ?_
    iterate 1 (refine kX_one rfl ?_)
    refine kX_iastN rfl (kT_op hso) (by decide) (c) (by first | rfl | decide) (q) ?_
    iterate 4 (refine kX_one rfl ?_)
    refine kX_ialdV rfl rfl (by decide) so (by rfl) hso (show (va_up σ (224 + so) (upd (σ (224 + so)) c (nI t))) 228 so = nI c from by rw [up_ne (by omega)]; exact c2) ?_
    iterate 2 (refine kX_one rfl ?_)
    refine kX_top (y := nI (c + 1)) (nI_1 c) ?_
    refine kX_iastN rfl rfl (by decide) (so) (by first | rfl | decide) (hso) ?_
    refine kX_ret (i := .return_) (len := 1) rfl (Or.inr rfl) rfl ⟨rfl, fun e he => by rw [up_ne (by omega), up_ne (by omega)], fun s' hs' => ?_⟩
    by_cases e : s' = so
    · subst e
      refine ⟨c + 1, by omega, by rw [up_eq, pk_us], fun i hi => ?_⟩
      rw [up_ne (by omega), up_eq]
      by_cases e2 : i = c
      · subst e2
        exact ⟨t, ht, pk_us, by rw [up_ne (by omega), up_ne (by omega)]; exact hg⟩
      · rw [pk_un e2]
        obtain ⟨z, z1, z2, z3⟩ := c3 i (by omega)
        exact ⟨z, z1, z2, by rw [up_ne (by omega), up_ne (by omega)]; exact z3⟩
    · obtain ⟨c', a1, a2, a3⟩ := h s' hs'
      refine ⟨c', a1, by rw [up_eq, pk_un e, up_ne (by omega)]; exact a2, fun i hi => ?_⟩
      rw [up_ne (by omega), up_ne (by omega)]
      obtain ⟨z, z1, z2, z3⟩ := a3 i hi
      exact ⟨z, z1, z2, by rw [up_ne (by omega), up_ne (by omega)]; exact z3⟩
set_option maxRecDepth 100000 in
set_option maxHeartbeats 4000000 in
theorem mc_listOptions (L : Nat) (xs : Nat → Int32) (d : Nat) (σ : kS) (n : Nat) (hT : cT σ n) : kXM kT L xs (d + 2) 29 [.ref 222] σ (fun r σ' => r = none ∧ (∀ c, c < 224 ∨ 229 ≤ c → σ' c = σ c) ∧ cO σ' n) := by
  have hn := hT.1
  have loop : ∀ q : Nat × kS, (q.1 ≤ n ∧ (∀ c, c < 224 ∨ 229 ≤ c → q.2 c = σ c) ∧ cO q.2 n) → kX kT L xs (d + 2) 29 10 [(1, .int (nI q.1)), (0, .ref 222)] [] q.2 (fun r σ' => r = none ∧ (∀ c, c < 224 ∨ 229 ≤ c → σ' c = σ c) ∧ cO σ' n) := by
    refine kX_while (fun q : Nat × kS => [(1, .int (nI q.1)), (0, .ref 222)]) (fun q => q.2) _ (fun q => n - q.1) ?_
    rintro ⟨i, τ⟩ ⟨i1, i2, i3⟩ ih
    dsimp only at i1 i2 i3 ih ⊢
    iterate 4 (refine kX_one rfl ?_)
    refine kX_top (y := nI n) (by rw [i2 1 (by decide)]; exact hT.2.1) ?_
    repeat refine kX_one rfl ?_
    refine kX_if (fun q => ?_) (fun q => ?_)
    · refine kX_ret (i := .return_) (len := 1) rfl (Or.inr rfl) rfl (⟨rfl, i2, i3⟩)
    · have q := qgeF q i n
      have k66 : ∀ τ', (∀ c, c < 224 ∨ 229 ≤ c → τ' c = σ c) → cO τ' n → kX kT L xs (d + 2) 29 66 [(1, .int (nI i)), (0, .ref 222)] [] τ' (fun r σ' => r = none ∧ (∀ c, c < 224 ∨ 229 ≤ c → σ' c = σ c) ∧ cO σ' n) := by
        intro τ' t1 t2
        iterate 2 (refine kX_one rfl ?_)
        have := ih (i + 1, τ') ⟨q, t1, t2⟩ (by simp only; omega)
        dsimp only at this
        rw [← nI_1] at this
        exact kX_lv _ rfl rfl rfl this
      have hg : τ 8 i = 0 ∨ τ 8 i = 1 := by
        rw [i2 8 (by decide)]
        exact (hT.2.2.2 i q).2.2.2.1
      iterate 4 (refine kX_one rfl ?_)
      refine kX_baldN rfl rfl (by decide) (i) (by first | rfl | decide) (by omega) ?_
      repeat refine kX_one rfl ?_
      refine kX_if (fun q2 => ?_) (fun q2 => ?_)
      · exact k66 τ i2 i3
      · have hg1 : τ 8 i = 1 := hg.elim (fun z => absurd z (qeqF q2)) id
        iterate 3 (refine kX_one rfl ?_)
        refine kX_cal (mc_addOption L xs d τ n 3 i i3 (by decide) q hg1) rfl (Or.inr rfl) rfl rfl rfl (fun r1 τ1 q1 => ?_)
        obtain ⟨rfl, a1, a2⟩ := q1
        have a3 : ∀ c, c < 224 ∨ 229 ≤ c → τ1 c = σ c := fun c hc => (a1 c hc).trans (i2 c hc)
        obtain ⟨k, k1, k2⟩ := (hT.2.2.2 i q).1
        have k3 : τ1 2 i = nI k := by rw [a3 2 (by decide)]; exact k2
        iterate 4 (refine kX_one rfl ?_)
        refine kX_ialdV rfl rfl (by decide) (i) (by first | rfl | decide) (by omega) (k3) ?_
        repeat refine kX_one rfl ?_
        refine kX_if (fun q3 => ?_) (fun q3 => ?_)
        · exact k66 τ1 a3 a2
        · have q3 := qgeF q3 k 3
          iterate 5 (refine kX_one rfl ?_)
          refine kX_ialdV rfl rfl (by decide) (i) (by first | rfl | decide) (by omega) (k3) ?_
          iterate 1 (refine kX_one rfl ?_)
          refine kX_cal (mc_addOption L xs d τ1 n k i a2 (by omega) q (by rw [a1 8 (by decide)]; exact hg1)) rfl (Or.inr rfl) rfl rfl rfl (fun r1 τ2 q1 => ?_)
          obtain ⟨rfl, b1, b2⟩ := q1
          exact k66 τ2 (fun c hc => (b1 c hc).trans (a3 c hc)) b2
  unfold kXM
  iterate 3 (refine kX_one rfl ?_)
  refine kX_cal (kX_fill (T := kT) L xs d 0 σ (a := 228) (n := 4) (g0 := fun _ => 0) rfl (by decide)) rfl (Or.inr rfl) rfl rfl rfl (fun r1 σ1 q1 => ?_)
  obtain ⟨rfl, rfl⟩ := q1
  iterate 2 (refine kX_one rfl ?_)
  refine kX_lv _ rfl rfl rfl (loop (0, va_up σ 228 (fun j => if j < 4 then 0 else σ 228 j)) ⟨Nat.zero_le _, fun c hc => up_ne (by omega), fun so hso => ⟨0, by decide, ?_, fun i hi => absurd hi (Nat.not_lt_zero i)⟩⟩)
  show (if so < 4 then (0 : Int32) else σ 228 so) = 0
  rw [if_pos hso]
/-- an EVENT's bindings have sorts with options -/
def cW (τ : kS) (a m : Nat) : Prop := ∀ j, j < m → ∃ so c, so < 4 ∧ 0 < c ∧ c ≤ 200 ∧ τ (a + 2) j = nI so ∧ τ 228 so = nI c
set_option maxRecDepth 100000 in
set_option maxHeartbeats 4000000 in
theorem mc_waysOf (L : Nat) (xs : Nat → Int32) (d : Nat) (σ : kS) (n r k : Nat) (h : cO σ n) (hr4 : r < 4) (hk6 : k < 6) (hE : cE σ n (28 + 35 * r + 5 * k)) : kXM kT L xs (d + 1) 31 [.ref 222, .ref (28 + 35 * r + 5 * k)] σ (fun q σ' => (∃ w, q = some (.long w) ∧ (w = 0 ∨ ∀ m, σ (28 + 35 * r + 5 * k) 4 = nI m → m ≤ 6 → cW σ (28 + 35 * r + 5 * k) m)) ∧ σ = σ') := by
  obtain ⟨t, mm, qq, t1, m6, -, t2, m2, -, bd, -⟩ := hE
  have loop : ∀ q : Nat × Int64, (q.1 ≤ mm ∧ (q.2 = 0 ∨ cW σ (28 + 35 * r + 5 * k) q.1)) → kX kT L xs (d + 1) 31 5 [(4, .int (nI q.1)), (2, .long q.2), (0, .ref 222), (1, .ref (28 + 35 * r + 5 * k))] [] σ (fun q σ' => (∃ w, q = some (.long w) ∧ (w = 0 ∨ ∀ m, σ (28 + 35 * r + 5 * k) 4 = nI m → m ≤ 6 → cW σ (28 + 35 * r + 5 * k) m)) ∧ σ = σ') := by
    refine kX_while (fun q : Nat × Int64 => [(4, .int (nI q.1)), (2, .long q.2), (0, .ref 222), (1, .ref (28 + 35 * r + 5 * k))]) (fun _ => σ) _ (fun q => mm - q.1) ?_
    rintro ⟨j, w⟩ ⟨j1, j2⟩ ih
    dsimp only at j1 j2 ih ⊢
    iterate 2 (refine kX_one rfl ?_)
    refine kX_getN rfl rfl (kT_ev hr4 hk6) rfl ?_
    refine kX_top (m2) ?_
    repeat refine kX_one rfl ?_
    refine kX_if (fun q => ?_) (fun q => ?_)
    · have q := qge q j mm
      obtain rfl : j = mm := by omega
      iterate 1 (refine kX_one rfl ?_)
      refine kX_ret (i := .lreturn) (len := 1) rfl (Or.inr rfl) rfl ⟨⟨w, rfl, ?_⟩, rfl⟩
      rcases j2 with z | z
      · exact Or.inl z
      · refine Or.inr (fun m hm hm6 => ?_)
        have : m = j := nI_inj (hm.symm.trans m2)
        rw [this]
        exact z
    · have q := qgeF q j mm
      obtain ⟨-, ⟨so, so1, so2⟩, -⟩ := bd j q
      have hso : so < 4 := by omega
      obtain ⟨c, c1, c2, c3⟩ := h so hso
      iterate 4 (refine kX_one rfl ?_)
      refine kX_getN rfl rfl (kT_ev hr4 hk6) rfl ?_
      iterate 1 (refine kX_one rfl ?_)
      refine kX_ialdV rfl (kT_e1 hr4 hk6 (Or.inr rfl)) (by decide) (j) (by first | rfl | decide) (by omega) (so2) ?_
      refine kX_ialdV rfl rfl (by decide) (so) (by first | rfl | decide) (hso) (c2) ?_
      iterate 5 (refine kX_one rfl ?_)
      have := ih (j + 1, w * (nI c).toInt64) ⟨q, by
        simp only
        rcases j2 with z | z
        · refine Or.inl ?_
          rw [z]
          exact Int64.zero_mul
        · by_cases e : c = 0
          · refine Or.inl ?_
            rw [e]
            exact Int64.mul_zero
          · refine Or.inr (fun i hi => ?_)
            by_cases e2 : i = j
            · subst e2
              exact ⟨so, c, hso, by omega, c1, so2, c2⟩
            · exact z i (by omega)⟩ (by simp only; omega)
      dsimp only at this
      rw [← nI_1] at this
      exact kX_lv _ rfl rfl rfl this
  unfold kXM
  iterate 4 (refine kX_one rfl ?_)
  exact kX_lv _ rfl rfl rfl (loop (0, 1) ⟨Nat.zero_le _, Or.inr (fun j hj => absurd hj (Nat.not_lt_zero j))⟩)
