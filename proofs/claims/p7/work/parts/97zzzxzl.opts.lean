/-! alike: what may be received -/
/-- t may stand for a VARIABLE of the SORT so -/
def gS (σ : kS) (so t : Nat) : Prop := tgd (σ 233) (σ 234) (σ 235) t = true ∧ (so = 3 ∨ σ 233 t = nI so)
noncomputable def opL (σ : kS) (so : Nat) : Nat → List Nat
  | 0 => []
  | i + 1 => cit (gS σ so i) (opL σ so i ++ [i]) (opL σ so i)
theorem opL_1 (σ : kS) (so i : Nat) : opL σ so (i + 1) = cit (gS σ so i) (opL σ so i ++ [i]) (opL σ so i) := rfl
theorem opL_len (σ : kS) (so : Nat) : ∀ i, (opL σ so i).length ≤ i
  | 0 => Nat.le_refl _
  | i + 1 => by
    have := opL_len σ so i
    rw [opL_1]
    by_cases h : gS σ so i
    · rw [cit_T h, List.length_append, List.length_singleton]
      omega
    · rw [cit_F h]
      omega
theorem opL_mem (σ : kS) (so : Nat) : ∀ i t, t ∈ opL σ so i ↔ t < i ∧ gS σ so t
  | 0, t => ⟨fun h => absurd h List.not_mem_nil, fun h => absurd h.1 (Nat.not_lt_zero t)⟩
  | i + 1, t => by
    rw [opL_1]
    by_cases h : gS σ so i
    · rw [cit_T h, List.mem_append, opL_mem σ so i t, List.mem_singleton]
      refine ⟨fun z => ?_, fun z => ?_⟩
      · rcases z with z | rfl
        · exact ⟨by omega, z.2⟩
        · exact ⟨by omega, h⟩
      · by_cases e : t = i
        · exact Or.inr e
        · exact Or.inl ⟨by omega, z.2⟩
    · rw [cit_F h, opL_mem σ so i t]
      refine ⟨fun z => ⟨by omega, z.2⟩, fun z => ⟨?_, z.2⟩⟩
      have : t ≠ i := fun e => h (e ▸ z.2)
      omega
/-- the class's lists of options -/
def cOL (τ : kS) (f : Nat → List Nat) : Prop := ∀ so, so < 4 → τ 228 so = nI (f so).length ∧ lst (τ (224 + so)) (f so)
set_option maxRecDepth 100000 in
set_option maxHeartbeats 4000000 in
theorem mf_addOption (L : Nat) (xs : Nat → Int32) (d : Nat) (σ : kS) (so t : Nat) (f : Nat → List Nat) (h : cOL σ f) (hso : so < 4) (hl : (f so).length < 200) : kXM kT L xs (d + 1) 30 [.ref 222, .int (nI so), .int (nI t)] σ (fun r σ' => r = none ∧ (∀ c, c < 224 ∨ 229 ≤ c → σ' c = σ c) ∧ cOL σ' (fun s => if s = so then f so ++ [t] else f s)) := by
  obtain ⟨c2, c3⟩ := h so hso
  unfold kXM
  iterate 3 (refine kX_one rfl ?_)
  refine kX_ialdV rfl rfl (by decide) (so) (by first | rfl | decide) (hso) (c2) ?_
  repeat refine kX_one rfl ?_
  refine kX_if (fun q => ?_) (fun q => ?_)
  · have q := qge q (f so).length 200
    omega
  · iterate 3 (refine kX_one rfl ?_)
    refine kX_aaldN rfl (rfl) (by decide) (by decide) (by decide) (so) (by first | rfl | decide) (hso) (op_at hso) ?_
    iterate 3 (refine kX_one rfl ?_)
    refine kX_ialdV rfl rfl (by decide) (so) (by first | rfl | decide) (hso) (c2) ?_
    iterate 1 (refine kX_one rfl ?_)
    refine kX_iastN rfl (kT_op hso) (by decide) ((f so).length) (by first | rfl | decide) (hl) ?_
    iterate 4 (refine kX_one rfl ?_)
    refine kX_ialdV rfl rfl (by decide) so (by rfl) hso (show (va_up σ (224 + so) (upd (σ (224 + so)) (f so).length (nI t))) 228 so = nI (f so).length from by rw [up_ne (by omega)]; exact c2) ?_
    iterate 2 (refine kX_one rfl ?_)
    refine kX_top (y := nI ((f so).length + 1)) (nI_1 (f so).length) ?_
    refine kX_iastN rfl rfl (by decide) (so) (by first | rfl | decide) (hso) ?_
    refine kX_ret (i := .return_) (len := 1) rfl (Or.inr rfl) rfl ⟨rfl, fun e he => by rw [up_ne (by omega), up_ne (by omega)], fun s' hs' => ?_⟩
    by_cases e : s' = so
    · subst e
      dsimp only
      rw [if_pos rfl]
      refine ⟨by rw [up_eq, pk_us, List.length_append, List.length_singleton], ?_⟩
      rw [up_ne (by omega), up_eq]
      exact lst_push c3 t
    · obtain ⟨a2, a3⟩ := h s' hs'
      dsimp only
      rw [if_neg e]
      refine ⟨by rw [up_eq, pk_un e, up_ne (by omega)]; exact a2, ?_⟩
      rw [up_ne (by omega), up_ne (by omega)]
      exact a3
set_option maxRecDepth 100000 in
set_option maxHeartbeats 4000000 in
theorem mf_listOptions (L : Nat) (xs : Nat → Int32) (d : Nat) (σ : kS) (n b : Nat) (hT : cT σ n) (hM : mTb σ n b) (hA : ∀ t, t < n → aT1 σ t) : kXM kT L xs (d + 2) 29 [.ref 222] σ (fun r σ' => r = none ∧ (∀ c, c < 224 ∨ 229 ≤ c → σ' c = σ c) ∧ cOL σ' (fun so => opL σ so n)) := by
  have hn := hT.1
  have loop : ∀ q : Nat × kS, (q.1 ≤ n ∧ (∀ c, c < 224 ∨ 229 ≤ c → q.2 c = σ c) ∧ cOL q.2 (fun so => opL σ so q.1)) → kX kT L xs (d + 2) 29 10 [(1, .int (nI q.1)), (0, .ref 222)] [] q.2 (fun r σ' => r = none ∧ (∀ c, c < 224 ∨ 229 ≤ c → σ' c = σ c) ∧ cOL σ' (fun so => opL σ so n)) := by
    refine kX_while (fun q : Nat × kS => [(1, .int (nI q.1)), (0, .ref 222)]) (fun q => q.2) _ (fun q => n - q.1) ?_
    rintro ⟨i, τ⟩ ⟨i1, i2, i3⟩ ih
    dsimp only at i1 i2 i3 ih ⊢
    iterate 4 (refine kX_one rfl ?_)
    refine kX_top (y := nI n) (by rw [i2 1 (by decide)]; exact hT.2.1) ?_
    repeat refine kX_one rfl ?_
    refine kX_if (fun q => ?_) (fun q => ?_)
    · have q := qge q i n
      obtain rfl : i = n := by omega
      refine kX_ret (i := .return_) (len := 1) rfl (Or.inr rfl) rfl (⟨rfl, i2, i3⟩)
    · have q := qgeF q i n
      have k66 : ∀ τ' f, (∀ c, c < 224 ∨ 229 ≤ c → τ' c = σ c) → cOL τ' f → (∀ so, so < 4 → f so = opL σ so (i + 1)) → kX kT L xs (d + 2) 29 66 [(1, .int (nI i)), (0, .ref 222)] [] τ' (fun r σ' => r = none ∧ (∀ c, c < 224 ∨ 229 ≤ c → σ' c = σ c) ∧ cOL σ' (fun so => opL σ so n)) := by
        intro τ' f t1 t2 t3
        iterate 2 (refine kX_one rfl ?_)
        have := ih (i + 1, τ') ⟨q, t1, fun so hso => by simp only; rw [← t3 so hso]; exact t2 so hso⟩ (by simp only; omega)
        dsimp only at this
        rw [← nI_1] at this
        exact kX_lv _ rfl rfl rfl this
      have hgi : τ 8 i = bI (tgd (σ 233) (σ 234) (σ 235) i) := by
        rw [i2 8 (by decide), (hA i q).2.2.2.2.1]
        exact hM.2.2.2.2.2.2.1 i (Or.inl q)
      iterate 4 (refine kX_one rfl ?_)
      refine kX_baldV rfl rfl (by decide) (i) (by first | rfl | decide) (by omega) (hgi) ?_
      repeat refine kX_one rfl ?_
      refine kX_if (fun q2 => ?_) (fun q2 => ?_)
      · have q2 : tgd (σ 233) (σ 234) (σ 235) i = false := (bI_eq _).mp (qeq q2)
        exact k66 τ _ i2 i3 (fun so _ => by rw [opL_1, cit_F (fun z => by rw [z.1] at q2; exact absurd q2 (by decide))])
      · have q2 : tgd (σ 233) (σ 234) (σ 235) i = true := (bI_ne _).mp (qeqF q2)
        iterate 3 (refine kX_one rfl ?_)
        refine kX_cal (mf_addOption L xs d τ 3 i _ i3 (by decide) (by have := opL_len σ 3 i; omega)) rfl (Or.inr rfl) rfl rfl rfl (fun r1 τ1 q1 => ?_)
        obtain ⟨rfl, a1, a2⟩ := q1
        have a3 : ∀ c, c < 224 ∨ 229 ≤ c → τ1 c = σ c := fun c hc => (a1 c hc).trans (i2 c hc)
        obtain ⟨k, k1, k2⟩ := (hT.2.2.2 i q).1
        have k3 : τ1 2 i = nI k := by rw [a3 2 (by decide)]; exact k2
        have kr : σ 233 i = nI k := (hA i q).1.symm.trans k2
        iterate 4 (refine kX_one rfl ?_)
        refine kX_ialdV rfl rfl (by decide) (i) (by first | rfl | decide) (by omega) (k3) ?_
        repeat refine kX_one rfl ?_
        refine kX_if (fun q3 => ?_) (fun q3 => ?_)
        · have q3 := qge q3 k 3
          refine k66 τ1 _ a3 a2 (fun so hso => ?_)
          by_cases e : so = 3
          · subst e
            rw [if_pos rfl, opL_1, cit_T ⟨q2, Or.inl rfl⟩]
          · rw [if_neg e, opL_1, cit_F]
            rintro ⟨-, z | z⟩
            · exact e z
            · have := nI_inj (kr.symm.trans z)
              omega
        · have q3 := qgeF q3 k 3
          iterate 5 (refine kX_one rfl ?_)
          refine kX_ialdV rfl rfl (by decide) (i) (by first | rfl | decide) (by omega) (k3) ?_
          iterate 1 (refine kX_one rfl ?_)
          refine kX_cal (mf_addOption L xs d τ1 k i _ a2 (by omega) (by rw [if_neg (by omega)]; have := opL_len σ k i; omega)) rfl (Or.inr rfl) rfl rfl rfl (fun r1 τ2 q1 => ?_)
          obtain ⟨rfl, b1, b2⟩ := q1
          refine k66 τ2 _ (fun c hc => (b1 c hc).trans (a3 c hc)) b2 (fun so hso => ?_)
          by_cases e : so = k
          · subst e
            rw [if_pos rfl, if_neg (by omega), opL_1, cit_T ⟨q2, Or.inr kr⟩]
          · rw [if_neg e]
            by_cases e3 : so = 3
            · subst e3
              rw [if_pos rfl, opL_1, cit_T ⟨q2, Or.inl rfl⟩]
            · rw [if_neg e3, opL_1, cit_F]
              rintro ⟨-, z | z⟩
              · exact e3 z
              · exact e (nI_inj (z.symm.trans kr))
  unfold kXM
  iterate 3 (refine kX_one rfl ?_)
  refine kX_cal (kX_fill (T := kT) L xs d 0 σ (a := 228) (n := 4) (g0 := fun _ => 0) rfl (by decide)) rfl (Or.inr rfl) rfl rfl rfl (fun r1 σ1 q1 => ?_)
  obtain ⟨rfl, rfl⟩ := q1
  iterate 2 (refine kX_one rfl ?_)
  refine kX_lv _ rfl rfl rfl (loop (0, va_up σ 228 (fun j => if j < 4 then 0 else σ 228 j)) ⟨Nat.zero_le _, fun c hc => up_ne (by omega), fun so hso => ⟨?_, fun i hi => absurd hi (Nat.not_lt_zero i)⟩⟩)
  show (if so < 4 then (0 : Int32) else σ 228 so) = 0
  rw [if_pos hso]
/-- the number of ways -/
def wyN : List Nat → Nat
  | [] => 1
  | c :: l => c * wyN l
theorem wyN_app (l : List Nat) (c : Nat) : wyN (l ++ [c]) = wyN l * c := by
  induction l with
  | nil => show c * 1 = 1 * c; omega
  | cons a l ih =>
    show a * wyN (l ++ [c]) = a * wyN l * c
    rw [ih, Nat.mul_assoc]
def lI (k : Nat) : Int64 := Int64.ofInt k
theorem nI_lI {c : Nat} (h : c < 2147483648) : (nI c).toInt64 = lI c := by
  apply Int64.toInt_inj.mp
  rw [Int32.toInt_toInt64, nI_toInt h]
  unfold lI
  rw [Int64.toInt_ofInt_of_le (by omega) (by omega)]
theorem lI_mul (a b : Nat) : lI a * lI b = lI (a * b) := by
  unfold lI
  rw [← Int64.ofInt_mul]
  congr 1
/-- what binds the SORTS so -/
def cWs (τ : kS) (a : Nat) (f : Nat → List Nat) (sos : List Nat) : Prop := τ a 4 = nI sos.length ∧ sos.length ≤ 6 ∧ ∀ j (h : j < sos.length), (sos[j]'h) < 4 ∧ τ (a + 2) j = nI (sos[j]'h)
set_option maxRecDepth 100000 in
set_option maxHeartbeats 4000000 in
theorem mf_waysOf (L : Nat) (xs : Nat → Int32) (d : Nat) (σ : kS) (r k : Nat) (f : Nat → List Nat) (sos : List Nat) (h : cOL σ f) (hf : ∀ so, so < 4 → (f so).length ≤ 200) (hr4 : r < 4) (hk6 : k < 6) (hE : cWs σ (28 + 35 * r + 5 * k) f sos) : kXM kT L xs (d + 1) 31 [.ref 222, .ref (28 + 35 * r + 5 * k)] σ (fun q σ' => q = some (.long (lI (wyN (sos.map (fun so => (f so).length))))) ∧ σ = σ') := by
  obtain ⟨m2, m6, bd⟩ := hE
  have loop : ∀ q : Nat, q ≤ sos.length → kX kT L xs (d + 1) 31 5 [(4, .int (nI q)), (2, .long (lI (wyN ((sos.take q).map (fun so => (f so).length))))), (0, .ref 222), (1, .ref (28 + 35 * r + 5 * k))] [] σ (fun q σ' => q = some (.long (lI (wyN (sos.map (fun so => (f so).length))))) ∧ σ = σ') := by
    refine kX_while (fun q : Nat => [(4, .int (nI q)), (2, .long (lI (wyN ((sos.take q).map (fun so => (f so).length))))), (0, .ref 222), (1, .ref (28 + 35 * r + 5 * k))]) (fun _ => σ) _ (fun q => sos.length - q) ?_
    intro j j1 ih
    iterate 2 (refine kX_one rfl ?_)
    refine kX_getN rfl rfl (kT_ev hr4 hk6) rfl ?_
    refine kX_top (m2) ?_
    repeat refine kX_one rfl ?_
    refine kX_if (fun q => ?_) (fun q => ?_)
    · have q := qge q j sos.length
      obtain rfl : j = sos.length := by omega
      rw [List.take_length]
      iterate 1 (refine kX_one rfl ?_)
      refine kX_ret (i := .lreturn) (len := 1) rfl (Or.inr rfl) rfl ⟨rfl, rfl⟩
    · have q := qgeF q j sos.length
      obtain ⟨hso, so2⟩ := bd j q
      have hfl := hf _ hso
      iterate 4 (refine kX_one rfl ?_)
      refine kX_getN rfl rfl (kT_ev hr4 hk6) rfl ?_
      iterate 1 (refine kX_one rfl ?_)
      refine kX_ialdV rfl (kT_e1 hr4 hk6 (Or.inr rfl)) (by decide) (j) (by first | rfl | decide) (by omega) (so2) ?_
      refine kX_ialdV rfl rfl (by decide) (sos[j]) (by first | rfl | decide) (hso) ((h _ hso).1) ?_
      iterate 5 (refine kX_one rfl ?_)
      have := ih (j + 1) q (by omega)
      rw [List.take_succ_eq_append_getElem q, List.map_append, List.map_singleton, wyN_app, ← lI_mul, ← nI_lI (c := (f sos[j]).length) (by omega), ← nI_1] at this
      exact kX_lv _ rfl rfl rfl this
  unfold kXM
  iterate 4 (refine kX_one rfl ?_)
  exact kX_lv _ rfl rfl rfl (loop 0 (Nat.zero_le _))
