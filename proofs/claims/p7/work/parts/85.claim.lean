/-! the reference: found, attack, told, claims -/
set_option maxRecDepth 100000 in
set_option maxHeartbeats 4000000 in
theorem mp_found (L : Nat) (xs : Nat → Int32) (d : Nat) (σ : kS) (n b R S C : Nat) (kl : List Nat) (x : Int32) (h : mI σ n b R S C kl) : kXM kT L xs (d + 1) 221 [.ref 232, .int x] σ (fun r σ' => (∃ x, r = some (.int x)) ∧ mAfter σ σ' R) := by
  unfold kXM
  by_cases hy : ∃ k, k < 4 ∧ x = nI k
  · obtain ⟨k, hk, rfl⟩ := hy
    have : k = 0 ∨ k = 1 ∨ k = 2 ∨ k = 3 := by omega
    rcases this with rfl | rfl | rfl | rfl
    · repeat refine kX_one rfl ?_
      refine kX_ret (i := .ireturn) (len := 1) rfl (Or.inr rfl) rfl (⟨⟨_, rfl⟩, mAfter_same h⟩)
    · repeat refine kX_one rfl ?_
      refine kX_ret (i := .ireturn) (len := 1) rfl (Or.inr rfl) rfl (⟨⟨_, rfl⟩, mAfter_same h⟩)
    · repeat refine kX_one rfl ?_
      refine kX_ret (i := .ireturn) (len := 1) rfl (Or.inr rfl) rfl (⟨⟨_, rfl⟩, mAfter_same h⟩)
    · repeat refine kX_one rfl ?_
      refine kX_ret (i := .ireturn) (len := 1) rfl (Or.inr rfl) rfl (⟨⟨_, rfl⟩, mAfter_same h⟩)
  · iterate 1 (refine kX_one rfl ?_)
    refine kX_tabO rfl (kp_out 4 (fun k hk e => hy ⟨k, hk, e⟩) (by decide)) rfl ?_
    repeat refine kX_one rfl ?_
    refine kX_ret (i := .ireturn) (len := 1) rfl (Or.inr rfl) rfl (⟨⟨_, rfl⟩, mAfter_same h⟩)
set_option maxRecDepth 100000 in
set_option maxHeartbeats 4000000 in
theorem mp_told (L : Nat) (xs : Nat → Int32) (d : Nat) (σ : kS) (n b R S C : Nat) (kl : List Nat) (x : Int32) (h : mI σ n b R S C kl) : kXM kT L xs (d + 1) 224 [.ref 232, .int x] σ (fun r σ' => (∃ x, r = some (.int x)) ∧ mAfter σ σ' R) := by
  unfold kXM
  by_cases hy : ∃ k, k < 6 ∧ x = nI k
  · obtain ⟨k, hk, rfl⟩ := hy
    have : k = 0 ∨ k = 1 ∨ k = 2 ∨ k = 3 ∨ k = 4 ∨ k = 5 := by omega
    rcases this with rfl | rfl | rfl | rfl | rfl | rfl
    · repeat refine kX_one rfl ?_
      refine kX_ret (i := .ireturn) (len := 1) rfl (Or.inr rfl) rfl (⟨⟨_, rfl⟩, mAfter_same h⟩)
    · repeat refine kX_one rfl ?_
      refine kX_ret (i := .ireturn) (len := 1) rfl (Or.inr rfl) rfl (⟨⟨_, rfl⟩, mAfter_same h⟩)
    · repeat refine kX_one rfl ?_
      refine kX_ret (i := .ireturn) (len := 1) rfl (Or.inr rfl) rfl (⟨⟨_, rfl⟩, mAfter_same h⟩)
    · repeat refine kX_one rfl ?_
      refine kX_ret (i := .ireturn) (len := 1) rfl (Or.inr rfl) rfl (⟨⟨_, rfl⟩, mAfter_same h⟩)
    · repeat refine kX_one rfl ?_
      refine kX_ret (i := .ireturn) (len := 1) rfl (Or.inr rfl) rfl (⟨⟨_, rfl⟩, mAfter_same h⟩)
    · repeat refine kX_one rfl ?_
      refine kX_if (fun q => ?_) (fun q => ?_)
      · repeat refine kX_one rfl ?_
        refine kX_ret (i := .ireturn) (len := 1) rfl (Or.inr rfl) rfl (⟨⟨_, rfl⟩, mAfter_same h⟩)
      · repeat refine kX_one rfl ?_
        refine kX_ret (i := .ireturn) (len := 1) rfl (Or.inr rfl) rfl (⟨⟨_, rfl⟩, mAfter_same h⟩)
  · iterate 1 (refine kX_one rfl ?_)
    refine kX_tabO rfl (kp_out 6 (fun k hk e => hy ⟨k, hk, e⟩) (by decide)) rfl ?_
    repeat refine kX_one rfl ?_
    refine kX_ret (i := .ireturn) (len := 1) rfl (Or.inr rfl) rfl (⟨⟨_, rfl⟩, mAfter_same h⟩)
set_option maxRecDepth 100000 in
set_option maxHeartbeats 4000000 in
theorem mp_attack (L : Nat) (xs : Nat → Int32) (d : Nat) (σ : kS) (n b R S C : Nat) (kl : List Nat) (x : Int32) (h : mI σ n b R S C kl) : kXM kT L xs (d + 1) 222 [.ref 232, .int x] σ (fun r σ' => (∃ x, r = some (.int x)) ∧ mAfter σ σ' R) := by
  unfold kXM
  repeat refine kX_one rfl ?_
  refine kX_cal (mr_in L xs d σ _ _ _) rfl (Or.inr rfl) rfl rfl rfl (fun r1 σ1 q1 => ?_)
  obtain ⟨rfl, rfl⟩ := q1
  rw [isB_dec]
  repeat refine kX_one rfl ?_
  refine kX_if (fun q => ?_) (fun q => ?_)
  · repeat refine kX_one rfl ?_
    refine kX_ret (i := .ireturn) (len := 1) rfl (Or.inr rfl) rfl (⟨⟨_, rfl⟩, mAfter_same h⟩)
  · obtain ⟨q1, q2⟩ := isB_ne.mp (qeqF q)
    rcases h.2.2.2.2.2.2 with hA | ⟨as, fin, a0, a1, -⟩
    · exfalso
      have q1 : ¬ x.toInt64 < (0 : Int32).toInt64 := q1
      have q2 : ¬ (σ 232 72 - 1).toInt64 < x.toInt64 := q2
      rw [i64_lt] at q1 q2
      rw [hA] at q2
      obtain ⟨j, hj, rfl⟩ := nI_of q1
      rw [Int32.lt_iff_toInt_lt, nI_toInt hj] at q2
      have : ((-6 : Int32) - 1).toInt = -7 := by decide
      omega
    · have q2 : ¬ (σ 232 72 - 1).toInt64 < x.toInt64 := q2
      rw [a1] at q2
      obtain ⟨j, hj, rfl⟩ := (in_N (by omega)).mp ⟨q1, q2⟩
      repeat refine kX_one rfl ?_
      refine kX_ialdN rfl rfl (by decide) (j) (by first | rfl | decide) (by omega) ?_
      repeat refine kX_one rfl ?_
      refine kX_ret (i := .ireturn) (len := 1) rfl (Or.inr rfl) rfl (⟨⟨_, rfl⟩, mAfter_same h⟩)
theorem trRun_eq {σ τ : kS} {kl ds : List Nat} (e : τ 233 = σ 233 ∧ τ 234 = σ 234 ∧ τ 235 = σ 235 ∧ τ 265 = σ 265 ∧ τ 241 = σ 241 ∧ τ 249 = σ 249 ∧ τ 248 = σ 248 ∧ τ 255 = σ 255 ∧ τ 238 = σ 238) : trRun τ kl ds = trRun σ kl ds := by
  obtain ⟨e1, e2, e3, e4, e5, e6, e7, e8, e9⟩ := e
  have hs : ∀ tr k, trSn τ ds tr k = trSn σ ds tr k := by
    intro tr k
    induction k with
    | zero => rfl
    | succ k ih =>
      rw [trSn, trSn, ih]
      unfold mEv tin mVl
      rw [e1, e2, e3, e4, e5, e6, e7, e8]
  unfold trRun
  rw [hs]
  unfold trKn mA
  rw [e1, e2, e3, e9]
def clS (σ : kS) (C : Nat) (y b a nn : Int32) : kS := va_up (va_up (va_up (va_up (va_up (va_up σ 257 (upd (σ 257) C y)) 258 (upd (σ 258) C b)) 259 (upd (σ 259) C a)) 260 (upd (σ 260) C nn)) 261 (upd (σ 261) C 0)) 232 (upd (σ 232) 30 (nI (C + 1)))
theorem mI_cl {σ : kS} {n b R S C p a nn : Nat} {kl : List Nat} {y : Int32} (h : mI σ n b R S C kl) (hC : C < 6) (hp : p < R) (h1 : y ≠ 0 → a < fN (σ 244 p)) (h0 : y = 0 → a < R) (hn : nn ≤ 6) : mI (clS σ C y (nI p) (nI a) (nI nn)) n b R S (C + 1) kl := by
  obtain ⟨g1, g2, g3, g4, g5, g6, g7⟩ := h
  refine ⟨g1, g2, g3, g4, ⟨by omega, rfl, fun c hc => ?_⟩, ?_, g7⟩
  · show ∃ b' a' nn' j, b' < R ∧ upd (σ 258) C (nI p) c = nI b' ∧ upd (σ 259) C (nI a) c = nI a' ∧ (upd (σ 257) C y c ≠ 0 → a' < fN (σ 244 b')) ∧ (upd (σ 257) C y c = 0 → a' < R) ∧ nn' ≤ 6 ∧ upd (σ 260) C (nI nn) c = nI nn' ∧ j ≤ 4 ∧ upd (σ 261) C 0 c = nI j ∧ ∀ k, k < j → ∃ x y, x < fN (σ 244 b') ∧ y < fN (σ 244 a') ∧ a' < R ∧ σ 262 (4 * c + k) = nI x ∧ σ 263 (4 * c + k) = nI y
    by_cases e : c = C
    · subst e
      rw [pk_us, pk_us, pk_us, pk_us, pk_us]
      exact ⟨p, a, nn, 0, hp, rfl, rfl, h1, h0, hn, rfl, by omega, rfl, fun k hk => absurd hk (Nat.not_lt_zero k)⟩
    · rw [pk_un e, pk_un e, pk_un e, pk_un e, pk_un e]
      exact g5.2.2 c (by omega)
  · rcases g6 with g6 | ⟨g6, ds, d1, d2, d3⟩
    · exact Or.inl g6
    · refine Or.inr ⟨g6, ds, d1, d2, ?_⟩
      rcases d3 with d3 | ⟨d3, d4, l, l1, l2, l3⟩
      · exact Or.inl d3
      · refine Or.inr ⟨d3, d4, l, l1, l2, ?_⟩
        rw [trRun_eq (σ := σ) (τ := clS σ C y (nI p) (nI a) (nI nn)) ⟨rfl, rfl, rfl, rfl, rfl, rfl, rfl, rfl, rfl⟩, ← l3]
        rfl
theorem mLow_cl (σ : kS) (C : Nat) (y b a nn : Int32) : mLow σ (clS σ C y b a nn) := by
  intro c hc
  simp only [clS, va_up]
  repeat rw [if_neg (by omega)]
set_option maxRecDepth 100000 in
set_option maxHeartbeats 4000000 in
theorem mr_claim (L : Nat) (xs : Nat → Int32) (d : Nat) (σ : kS) (C : Nat) (y p a nn : Int32) (hC : σ 232 30 = nI C) (hC6 : C < 6) (hy : y = 0 ∨ y = 1) : kXM kT L xs (d + 1) 171 [.ref 232, .int y, .int p, .int a, .int nn] σ (fun r σ' => r = some (.int (nI C)) ∧ σ' = clS σ C y p a nn) := by
  unfold kXM
  repeat refine kX_one rfl ?_
  refine kX_bastN rfl rfl (by decide) (C) (hC) (by omega) (hy) ?_
  repeat refine kX_one rfl ?_
  refine kX_iastN rfl rfl (by decide) (C) (hC) (by omega) ?_
  repeat refine kX_one rfl ?_
  refine kX_iastN rfl rfl (by decide) (C) (hC) (by omega) ?_
  repeat refine kX_one rfl ?_
  refine kX_iastN rfl rfl (by decide) (C) (hC) (by omega) ?_
  repeat refine kX_one rfl ?_
  refine kX_iastN rfl rfl (by decide) (C) (hC) (by omega) ?_
  repeat refine kX_one rfl ?_
  refine kX_ret (i := .ireturn) (len := 1) rfl (Or.inr rfl) rfl ⟨?_, ?_⟩
  · show some (Value.int (σ 232 30 + 1 - 1)) = _
    rw [Int32.add_sub_cancel, hC]
  · rw [clS, nI_succ C, ← hC]
    rfl
set_option maxRecDepth 100000 in
set_option maxHeartbeats 4000000 in
theorem mp_secret (L : Nat) (xs : Nat → Int32) (d : Nat) (σ : kS) (n b R S C : Nat) (kl : List Nat) (x y : Int32) (h : mI σ n b R S C kl) : kXM kT L xs (d + 2) 172 [.ref 232, .int x, .int y] σ (fun r σ' => (∃ x, r = some (.int x)) ∧ mAfter σ σ' R) := by
  have h2 := h.2.1
  have hR4 := h2.1
  have h5 := h.2.2.2.2.1
  have hC6 := h5.1
  unfold kXM
  repeat refine kX_one rfl ?_
  refine kX_cal (mr_isRole L xs d σ R x h2.2.1 (by omega)) rfl (Or.inr rfl) rfl rfl rfl (fun r1 σ1 q1 => ?_)
  obtain ⟨rfl, rfl⟩ := q1
  repeat refine kX_one rfl ?_
  refine kX_if (fun q => ?_) (fun q => ?_)
  · repeat refine kX_one rfl ?_
    refine kX_ret (i := .ireturn) (len := 1) rfl (Or.inr rfl) rfl (⟨⟨_, rfl⟩, mAfter_same h⟩)
  · obtain ⟨r, hr, rfl⟩ := isB_ne.mp (qeqF q)
    obtain ⟨⟨v, hv6, hv⟩, -⟩ := h2.2.2.1 r hr
    repeat refine kX_one rfl ?_
    refine kX_ialdV rfl rfl (by decide) (r) (by first | rfl | decide) (by omega) (hv) ?_
    repeat refine kX_one rfl ?_
    refine kX_cal (mr_in L xs (d + 1) σ _ _ _) rfl (Or.inr rfl) rfl rfl rfl (fun r1 σ1 q1 => ?_)
    obtain ⟨rfl, rfl⟩ := q1
    rw [isB_dec]
    repeat refine kX_one rfl ?_
    refine kX_if (fun q => ?_) (fun q => ?_)
    · obtain ⟨q1, q2⟩ := isB_ne.mp (qne q)
      obtain ⟨k, hk, rfl⟩ := (in_N (n := v) (by omega)).mp ⟨q1, q2⟩
      repeat refine kX_one rfl ?_
      refine kX_if (fun q => ?_) (fun q => ?_)
      · have hC : C ≠ 6 := fun e => qne q (by rw [h5.2.1, e]; rfl)
        repeat refine kX_one rfl ?_
        refine kX_cal (mr_claim L xs d σ C _ _ _ _ h5.2.1 (by omega) (Or.inr rfl)) rfl (Or.inr rfl) rfl rfl rfl (fun r1 σ1 q1 => ?_)
        obtain ⟨rfl, rfl⟩ := q1
        repeat refine kX_one rfl ?_
        refine kX_ret (i := .ireturn) (len := 1) rfl (Or.inr rfl) rfl (⟨⟨_, rfl⟩, mLow_cl σ _ _ _ _ _, n, b, S, C + 1, kl, mI_cl (nn := 0) h (by omega) hr (fun _ => by rw [hv, fN_nI (by omega)]; exact hk) (fun e => absurd e (by decide)) (by omega)⟩)
      · repeat refine kX_one rfl ?_
        refine kX_ret (i := .ireturn) (len := 1) rfl (Or.inr rfl) rfl (⟨⟨_, rfl⟩, mAfter_same h⟩)
    · repeat refine kX_one rfl ?_
      refine kX_ret (i := .ireturn) (len := 1) rfl (Or.inr rfl) rfl (⟨⟨_, rfl⟩, mAfter_same h⟩)
set_option maxRecDepth 100000 in
set_option maxHeartbeats 4000000 in
theorem mp_agree (L : Nat) (xs : Nat → Int32) (d : Nat) (σ : kS) (n b R S C : Nat) (kl : List Nat) (x y z : Int32) (h : mI σ n b R S C kl) : kXM kT L xs (d + 2) 173 [.ref 232, .int x, .int y, .int z] σ (fun r σ' => (∃ x, r = some (.int x)) ∧ mAfter σ σ' R) := by
  have h2 := h.2.1
  have hR4 := h2.1
  have h5 := h.2.2.2.2.1
  have hC6 := h5.1
  unfold kXM
  repeat refine kX_one rfl ?_
  refine kX_cal (mr_isRole L xs d σ R x h2.2.1 (by omega)) rfl (Or.inr rfl) rfl rfl rfl (fun r1 σ1 q1 => ?_)
  obtain ⟨rfl, rfl⟩ := q1
  repeat refine kX_one rfl ?_
  refine kX_if (fun q => ?_) (fun q => ?_)
  · repeat refine kX_one rfl ?_
    refine kX_ret (i := .ireturn) (len := 1) rfl (Or.inr rfl) rfl (⟨⟨_, rfl⟩, mAfter_same h⟩)
  · obtain ⟨r, hr, rfl⟩ := isB_ne.mp (qeqF q)
    repeat refine kX_one rfl ?_
    refine kX_cal (mr_isRole L xs d σ R y h2.2.1 (by omega)) rfl (Or.inr rfl) rfl rfl rfl (fun r1 σ1 q1 => ?_)
    obtain ⟨rfl, rfl⟩ := q1
    repeat refine kX_one rfl ?_
    refine kX_if (fun q => ?_) (fun q => ?_)
    · obtain ⟨a, ha, rfl⟩ := isB_ne.mp (qne q)
      repeat refine kX_one rfl ?_
      refine kX_cal (mr_in L xs (d + 1) σ _ _ _) rfl (Or.inr rfl) rfl rfl rfl (fun r1 σ1 q1 => ?_)
      obtain ⟨rfl, rfl⟩ := q1
      rw [isB_dec]
      repeat refine kX_one rfl ?_
      refine kX_if (fun q => ?_) (fun q => ?_)
      · obtain ⟨k, k1, k2, rfl⟩ := in_R (lo := 0) (hi := 6) (by omega) (by omega) (isB_ne.mp (qne q)).1 (isB_ne.mp (qne q)).2
        repeat refine kX_one rfl ?_
        refine kX_if (fun q => ?_) (fun q => ?_)
        · have hC : C ≠ 6 := fun e => qne q (by rw [h5.2.1, e]; rfl)
          repeat refine kX_one rfl ?_
          refine kX_cal (mr_claim L xs d σ C _ _ _ _ h5.2.1 (by omega) (Or.inl rfl)) rfl (Or.inr rfl) rfl rfl rfl (fun r1 σ1 q1 => ?_)
          obtain ⟨rfl, rfl⟩ := q1
          repeat refine kX_one rfl ?_
          refine kX_ret (i := .ireturn) (len := 1) rfl (Or.inr rfl) rfl (⟨⟨_, rfl⟩, mLow_cl σ _ _ _ _ _, n, b, S, C + 1, kl, mI_cl h (by omega) hr (fun e => absurd rfl e) (fun _ => ha) k2⟩)
        · repeat refine kX_one rfl ?_
          refine kX_ret (i := .ireturn) (len := 1) rfl (Or.inr rfl) rfl (⟨⟨_, rfl⟩, mAfter_same h⟩)
      · repeat refine kX_one rfl ?_
        refine kX_ret (i := .ireturn) (len := 1) rfl (Or.inr rfl) rfl (⟨⟨_, rfl⟩, mAfter_same h⟩)
    · repeat refine kX_one rfl ?_
      refine kX_ret (i := .ireturn) (len := 1) rfl (Or.inr rfl) rfl (⟨⟨_, rfl⟩, mAfter_same h⟩)

def jnS (σ : kS) (c j : Nat) (x y : Int32) : kS := va_up (va_up (va_up σ 262 (upd (σ 262) (4 * c + j) x)) 263 (upd (σ 263) (4 * c + j) y)) 261 (upd (σ 261) c (nI (j + 1)))
theorem mLow_jn (σ : kS) (c j : Nat) (x y : Int32) : mLow σ (jnS σ c j x y) := by
  intro c hc
  simp only [jnS, va_up]
  repeat rw [if_neg (by omega)]
theorem mI_jn {σ : kS} {n b R S C c j p a x y : Nat} {kl : List Nat} (h : mI σ n b R S C kl) (hc : c < C) (hj : σ 261 c = nI j) (hj4 : j < 4) (hb : σ 258 c = nI p) (hp : p < R) (ha : σ 259 c = nI a) (haR : a < R) (hx : x < fN (σ 244 p)) (hy : y < fN (σ 244 a)) : mI (jnS σ c j (nI x) (nI y)) n b R S C kl := by
  obtain ⟨g1, g2, g3, g4, g5, g6, g7⟩ := h
  have hR4 := g2.1
  refine ⟨g1, g2, g3, g4, ⟨g5.1, g5.2.1, fun c' hc' => ?_⟩, ?_, g7⟩
  · obtain ⟨b', a', nn', j', e1, e2, e3, e4, e5, e6, e7, e8, e9, e10⟩ := g5.2.2 c' hc'
    show ∃ b' a' nn' j, b' < R ∧ σ 258 c' = nI b' ∧ σ 259 c' = nI a' ∧ (σ 257 c' ≠ 0 → a' < fN (σ 244 b')) ∧ (σ 257 c' = 0 → a' < R) ∧ nn' ≤ 6 ∧ σ 260 c' = nI nn' ∧ j ≤ 4 ∧ upd (σ 261) c (nI (_ + 1)) c' = nI j ∧ ∀ k, k < j → ∃ x' y', x' < fN (σ 244 b') ∧ y' < fN (σ 244 a') ∧ a' < R ∧ upd (σ 262) (4 * c + _) (nI x) (4 * c' + k) = nI x' ∧ upd (σ 263) (4 * c + _) (nI y) (4 * c' + k) = nI y'
    by_cases e : c' = c
    · subst e
      refine ⟨b', a', nn', j + 1, e1, e2, e3, e4, e5, e6, e7, by omega, pk_us, fun k hk => ?_⟩
      by_cases ek : k = j
      · subst ek
        have hba : a' < 6 := by
          by_cases hs : σ 257 c' = 0
          · have := e5 hs; omega
          · have hz := e4 hs
            obtain ⟨⟨v, hv6, hv⟩, -⟩ := g2.2.2.1 b' e1
            rw [hv, fN_nI (by omega)] at hz
            omega
        have eb : b' = p := nI_inj (e2.symm.trans hb)
        have ea : a' = a := nI_inj (e3.symm.trans ha)
        subst eb ea
        exact ⟨x, y, hx, hy, haR, pk_us, pk_us⟩
      · rw [pk_un (by omega), pk_un (by omega)]
        obtain rfl : j' = j := nI_inj (e9.symm.trans hj)
        exact e10 k (by omega)
    · refine ⟨b', a', nn', j', e1, e2, e3, e4, e5, e6, e7, e8, by rw [pk_un e]; exact e9, fun k hk => ?_⟩
      rw [pk_un (by omega), pk_un (by omega)]
      exact e10 k hk
  · rcases g6 with g6 | ⟨g6, ds, d1, d2, d3⟩
    · exact Or.inl g6
    · refine Or.inr ⟨g6, ds, d1, d2, ?_⟩
      rcases d3 with d3 | ⟨d3, d4, l, l1, l2, l3⟩
      · exact Or.inl d3
      · refine Or.inr ⟨d3, d4, l, l1, l2, ?_⟩
        rw [trRun_eq (σ := σ) (τ := jnS σ c j (nI x) (nI y)) ⟨rfl, rfl, rfl, rfl, rfl, rfl, rfl, rfl, rfl⟩, ← l3]
        rfl
