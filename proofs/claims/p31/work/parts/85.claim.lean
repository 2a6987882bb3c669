section
/-! the reference: found, attack, told, claims -/
theorem trRun_eq {σ τ : kS} {kl ds : List Nat} (e : τ 233 = σ 233 ∧ τ 234 = σ 234 ∧ τ 235 = σ 235 ∧ τ 265 = σ 265 ∧ τ 241 = σ 241 ∧ τ 249 = σ 249 ∧ τ 248 = σ 248 ∧ τ 255 = σ 255 ∧ τ 238 = σ 238) : trRun τ kl ds = trRun σ kl ds := by
  obtain ⟨e1, e2, e3, e4, e5, e6, e7, e8, e9⟩ := e
  have hs : ∀ tr k, trSn τ ds tr k = trSn σ ds tr k := by
    intro tr k
    induction k with
    | zero => rfl
    | succ k ih =>
      rw [trSn, trSn, ih]
      unfold mEv tin mVl
      rw [e1, e2, e3, e4, e5, e6, e7, e8]
  unfold trRun
  rw [hs]
  unfold trKn mA
  rw [e1, e2, e3, e9]
def clS (σ : kS) (C : Nat) (y b a nn : Int32) : kS := va_up (va_up (va_up (va_up (va_up (va_up σ 257 (upd (σ 257) C y)) 258 (upd (σ 258) C b)) 259 (upd (σ 259) C a)) 260 (upd (σ 260) C nn)) 261 (upd (σ 261) C 0)) 232 (upd (σ 232) 30 (nI (C + 1)))
theorem mI_cl {σ : kS} {n b R S C p a nn : Nat} {kl : List Nat} {y : Int32} (h : mI σ n b R S C kl) (hC : C < 6) (hp : p < R) (h1 : y ≠ 0 → a < fN (σ 244 p)) (h0 : y = 0 → a < R) (hn : nn ≤ 6) : mI (clS σ C y (nI p) (nI a) (nI nn)) n b R S (C + 1) kl := by
  obtain ⟨g1, g2, g3, g4, g5, g6, g7⟩ := h
  refine ⟨g1, g2, g3, g4, ⟨by omega, rfl, fun c hc => ?_⟩, ?_, g7⟩
  · show ∃ b' a' nn' j, b' < R ∧ upd (σ 258) C (nI p) c = nI b' ∧ upd (σ 259) C (nI a) c = nI a' ∧ (upd (σ 257) C y c ≠ 0 → a' < fN (σ 244 b')) ∧ (upd (σ 257) C y c = 0 → a' < R) ∧ nn' ≤ 6 ∧ upd (σ 260) C (nI nn) c = nI nn' ∧ j ≤ 4 ∧ upd (σ 261) C 0 c = nI j ∧ ∀ k, k < j → ∃ x y, x < fN (σ 244 b') ∧ y < fN (σ 244 a') ∧ a' < R ∧ σ 262 (4 * c + k) = nI x ∧ σ 263 (4 * c + k) = nI y
    by_cases e : c = C
    · subst e
      rw [pk_us, pk_us, pk_us, pk_us, pk_us]
      exact ⟨p, a, nn, 0, hp, rfl, rfl, h1, h0, hn, rfl, by omega, rfl, fun k hk => absurd hk (Nat.not_lt_zero k)⟩
    · rw [pk_un e, pk_un e, pk_un e, pk_un e, pk_un e]
      exact g5.2.2 c (by omega)
  · rcases g6 with g6 | ⟨g6, ds, d1, d2, d3⟩
    · exact Or.inl g6
    · refine Or.inr ⟨g6, ds, d1, d2, ?_⟩
      rcases d3 with d3 | ⟨d3, d4, l, l1, l2, l3⟩
      · exact Or.inl d3
      · refine Or.inr ⟨d3, d4, l, l1, l2, ?_⟩
        rw [trRun_eq (σ := σ) (τ := clS σ C y (nI p) (nI a) (nI nn)) ⟨rfl, rfl, rfl, rfl, rfl, rfl, rfl, rfl, rfl⟩, ← l3]
        rfl
set_option maxRecDepth 100000 in
set_option maxHeartbeats 4000000 in
theorem mr_claim (L : Nat) (xs : Nat → Int32) (d : Nat) (σ : kS) (C : Nat) (y p a nn : Int32) (hC : σ 232 30 = nI C) (hC6 : C < 6) (hy : y = 0 ∨ y = 1) : kXM kT L xs (d + 1) 171 [.ref 232, .int y, .int p, .int a, .int nn] σ (fun r σ' => r = some (.int (nI C)) ∧ σ' = clS σ C y p a nn) := by
  unfold kXM
  repeat refine kX_one rfl ?_
  refine kX_bastN rfl rfl (by decide) (C) (hC) (by omega) (hy) ?_
  repeat refine kX_one rfl ?_
  refine kX_iastN rfl rfl (by decide) (C) (hC) (by omega) ?_
  repeat refine kX_one rfl ?_
  refine kX_iastN rfl rfl (by decide) (C) (hC) (by omega) ?_
  repeat refine kX_one rfl ?_
  refine kX_iastN rfl rfl (by decide) (C) (hC) (by omega) ?_
  repeat refine kX_one rfl ?_
  refine kX_iastN rfl rfl (by decide) (C) (hC) (by omega) ?_
  repeat refine kX_one rfl ?_
  refine kX_ret (i := .ireturn) (len := 1) rfl (Or.inr rfl) rfl ⟨?_, ?_⟩
  · show some (Value.int (σ 232 30 + 1 - 1)) = _
    rw [Int32.add_sub_cancel, hC]
  · rw [clS, nI_succ C, ← hC]
    rfl
def jnS (σ : kS) (c j : Nat) (x y : Int32) : kS := va_up (va_up (va_up σ 262 (upd (σ 262) (4 * c + j) x)) 263 (upd (σ 263) (4 * c + j) y)) 261 (upd (σ 261) c (nI (j + 1)))
theorem mI_jn {σ : kS} {n b R S C c j p a x y : Nat} {kl : List Nat} (h : mI σ n b R S C kl) (hc : c < C) (hj : σ 261 c = nI j) (hj4 : j < 4) (hb : σ 258 c = nI p) (hp : p < R) (ha : σ 259 c = nI a) (haR : a < R) (hx : x < fN (σ 244 p)) (hy : y < fN (σ 244 a)) : mI (jnS σ c j (nI x) (nI y)) n b R S C kl := by
  obtain ⟨g1, g2, g3, g4, g5, g6, g7⟩ := h
  have hR4 := g2.1
  refine ⟨g1, g2, g3, g4, ⟨g5.1, g5.2.1, fun c' hc' => ?_⟩, ?_, g7⟩
  · obtain ⟨b', a', nn', j', e1, e2, e3, e4, e5, e6, e7, e8, e9, e10⟩ := g5.2.2 c' hc'
    show ∃ b' a' nn' j, b' < R ∧ σ 258 c' = nI b' ∧ σ 259 c' = nI a' ∧ (σ 257 c' ≠ 0 → a' < fN (σ 244 b')) ∧ (σ 257 c' = 0 → a' < R) ∧ nn' ≤ 6 ∧ σ 260 c' = nI nn' ∧ j ≤ 4 ∧ upd (σ 261) c (nI (_ + 1)) c' = nI j ∧ ∀ k, k < j → ∃ x' y', x' < fN (σ 244 b') ∧ y' < fN (σ 244 a') ∧ a' < R ∧ upd (σ 262) (4 * c + _) (nI x) (4 * c' + k) = nI x' ∧ upd (σ 263) (4 * c + _) (nI y) (4 * c' + k) = nI y'
    by_cases e : c' = c
    · subst e
      refine ⟨b', a', nn', j + 1, e1, e2, e3, e4, e5, e6, e7, by omega, pk_us, fun k hk => ?_⟩
      by_cases ek : k = j
      · subst ek
        have hba : a' < 6 := by
          by_cases hs : σ 257 c' = 0
          · have := e5 hs; omega
          · have hz := e4 hs
            obtain ⟨⟨v, hv6, hv⟩, -⟩ := g2.2.2.1 b' e1
            rw [hv, fN_nI (by omega)] at hz
            omega
        have eb : b' = p := nI_inj (e2.symm.trans hb)
        have ea : a' = a := nI_inj (e3.symm.trans ha)
        subst eb ea
        exact ⟨x, y, hx, hy, haR, pk_us, pk_us⟩
      · rw [pk_un (by omega), pk_un (by omega)]
        obtain rfl : j' = j := nI_inj (e9.symm.trans hj)
        exact e10 k (by omega)
    · refine ⟨b', a', nn', j', e1, e2, e3, e4, e5, e6, e7, e8, by rw [pk_un e]; exact e9, fun k hk => ?_⟩
      rw [pk_un (by omega), pk_un (by omega)]
      exact e10 k hk
  · rcases g6 with g6 | ⟨g6, ds, d1, d2, d3⟩
    · exact Or.inl g6
    · refine Or.inr ⟨g6, ds, d1, d2, ?_⟩
      rcases d3 with d3 | ⟨d3, d4, l, l1, l2, l3⟩
      · exact Or.inl d3
      · refine Or.inr ⟨d3, d4, l, l1, l2, ?_⟩
        rw [trRun_eq (σ := σ) (τ := jnS σ c j (nI x) (nI y)) ⟨rfl, rfl, rfl, rfl, rfl, rfl, rfl, rfl, rfl⟩, ← l3]
        rfl
end
section
/-! the reference: clear -/
theorem mI_empty {σ : kS} (h1 : σ 232 9 = 0) (h2 : σ 232 10 = nI 200) (h3 : σ 232 13 = 0) (h4 : σ 232 26 = 0) (h5 : σ 232 27 = 0) (h6 : σ 232 30 = 0) (h7 : σ 232 52 = 0) (h8 : σ 232 72 = -6) (hh : ∀ j, j < 1024 → σ 242 j = -1) : mI σ 0 200 0 0 0 [] := by
  have hmv : ∀ t, ¬ mv 0 200 t := fun t q => by unfold mv at q; omega
  have n0 : ∀ t : Nat, ¬ t < 0 := Nat.not_lt_zero
  refine ⟨⟨by omega, by omega, by omega, h1, h2, ⟨fun t q => absurd q (hmv t), fun t q => absurd q (hmv t), fun t u q => absurd q (hmv t)⟩, fun t q => absurd q (hmv t), ⟨fun j hj => Or.inl ⟨hh j hj, fun t _ q => absurd q.1.1 (hmv t)⟩, fun t q => absurd q.1 (hmv t)⟩, fun t q1 q2 => by omega, fun t q => absurd q (n0 t)⟩, ⟨by omega, h3, fun r q => absurd q (n0 r), fun r k q => absurd q (n0 r), fun t q => absurd q (n0 t), fun r e q => absurd q (n0 r)⟩, ⟨by omega, h5, fun s q => absurd q (n0 s)⟩, ⟨h4, Nat.zero_le _, lst_nil _, fun t q => by cases q⟩, ⟨by omega, h6, fun c q => absurd q (n0 c)⟩, Or.inl h7, Or.inl h8⟩
set_option maxRecDepth 100000 in
set_option maxHeartbeats 4000000 in
theorem mr_emptyTable (L : Nat) (xs : Nat → Int32) (d : Nat) (σ : kS) : kXM kT L xs (d + 1) 146 [.ref 232] σ (fun r σ' => r = none ∧ ∃ hd, σ' = va_up σ 242 hd ∧ ∀ j, j < 1024 → hd j = -1) := by
  unfold kXM
  have loop : ∀ q : Nat × (Nat → Int32), (q.1 ≤ 1024 ∧ ∀ j, j < q.1 → q.2 j = -1) → kX kT L xs (d + 1) 146 2 [(1, .int (nI q.1)), (0, .ref 232)] [] (va_up σ 242 q.2) (fun r σ' => r = none ∧ ∃ hd, σ' = va_up σ 242 hd ∧ ∀ j, j < 1024 → hd j = -1) := by
    refine kX_while (fun q : Nat × (Nat → Int32) => [(1, .int (nI q.1)), (0, .ref 232)]) (fun q => va_up σ 242 q.2) _ (fun q => 1024 - q.1) ?_
    rintro ⟨k, H⟩ ⟨i1, i2⟩ ih
    dsimp only at i1 i2 ih ⊢
    iterate 2 (refine kX_one rfl ?_)
    repeat refine kX_one rfl ?_
    refine kX_if (fun q => ?_) (fun q => ?_)
    · have q := qge q k 1024
      repeat refine kX_one rfl ?_
      refine kX_ret (i := .return_) (len := 1) rfl (Or.inr rfl) rfl (⟨rfl, H, rfl, fun j hj => i2 j (by omega)⟩)
    · have q := qgeF q k 1024
      iterate 4 (refine kX_one rfl ?_)
      refine kX_iastN rfl rfl (by decide) (k) (by first | rfl | decide) (by omega) ?_
      iterate 2 (refine kX_one rfl ?_)
      have := ih (k + 1, upd H k (-1)) ⟨q, fun j hj => by
        by_cases e : j = k
        · subst e
          exact pk_us
        · simp only at hj ⊢
          rw [pk_un e]
          exact i2 j (by omega)⟩ (by simp only; omega)
      dsimp only at this
      rw [← nI_1] at this
      refine kX_to _ _ rfl rfl rfl ?_ this
      funext c; first
        | ((repeat (refine va_case ?_ ?_; (· (intro h; first | (subst h; rfl) | (unfold va_up; repeat' split; (all_goals first | rfl | omega | (subst_vars; rfl) | (funext j; unfold upd; repeat' split; all_goals first | rfl | omega | (subst_vars; rfl)))))); intro h)); (repeat (refine va_case2 ?_ ?_; (· (intro h; first | exact absurd h (by assumption) | (subst h; rfl) | (subst h; funext j; unfold upd; repeat' split; (all_goals first | rfl | omega | (subst_vars; rfl))))); intro h)); rfl)
        | (unfold va_up; repeat' split
           all_goals first | rfl | omega | (subst_vars; rfl) | (funext j; unfold upd; repeat' split; all_goals first | rfl | omega | (subst_vars; rfl)))
  iterate 2 (refine kX_one rfl ?_)
  refine kX_to _ _ rfl rfl rfl ?_ (loop (0, σ 242) ⟨Nat.zero_le _, fun j hj => absurd hj (Nat.not_lt_zero j)⟩)
  funext c; first
    | ((repeat (refine va_case ?_ ?_; (· (intro h; first | (subst h; rfl) | (unfold va_up; repeat' split; (all_goals first | rfl | omega | (subst_vars; rfl) | (funext j; unfold upd; repeat' split; all_goals first | rfl | omega | (subst_vars; rfl)))))); intro h)); (repeat (refine va_case2 ?_ ?_; (· (intro h; first | exact absurd h (by assumption) | (subst h; rfl) | (subst h; funext j; unfold upd; repeat' split; (all_goals first | rfl | omega | (subst_vars; rfl))))); intro h)); rfl)
    | (unfold va_up; repeat' split
       all_goals first | rfl | omega | (subst_vars; rfl) | (funext j; unfold upd; repeat' split; all_goals first | rfl | omega | (subst_vars; rfl)))
end
section
/-! the reference: ofRole -/
theorem dv10 : ∀ k, k < 36 → nI k / (Int8.ofInt 10).toInt32 = nI (k / 10) := by decide +kernel
theorem rm10 : ∀ k, k < 36 → nI k - nI (k / 10) * (Int8.ofInt 10).toInt32 = nI (k % 10) := by decide +kernel
end
section
/-! the reference: howManyAs, session -/
/-- how many of the first k VARIABLES of the role r are told as a -/
def hma (σ : kS) (r a : Nat) : Nat → Nat
  | 0 => 0
  | k + 1 => hma σ r a k + if σ 246 (6 * r + k) = nI a then 1 else 0
theorem hma_le (σ : kS) (r a : Nat) : ∀ k, hma σ r a k ≤ k
  | 0 => Nat.le_refl _
  | k + 1 => by
    have := hma_le σ r a k
    unfold hma
    split <;> omega
set_option maxRecDepth 100000 in
set_option maxHeartbeats 4000000 in
theorem mr_howManyAs (L : Nat) (xs : Nat → Int32) (d : Nat) (σ : kS) (r a v : Nat) (hr : r < 4) (ha : a < 3) (hv6 : v ≤ 6) (hv : σ 244 r = nI v) : kXM kT L xs (d + 1) 169 [.ref 232, .int (nI r), .int (nI a)] σ (fun x σ' => x = some (.int (nI (hma σ r a v))) ∧ σ = σ') := by
  unfold kXM
  have loop : ∀ k, k ≤ v → kX kT L xs (d + 1) 169 5 [(4, .int (nI k)), (3, .int (nI (hma σ r a k))), (0, .ref 232), (1, .int (nI r)), (2, .int (nI a))] [] σ (fun x σ' => x = some (.int (nI (hma σ r a v))) ∧ σ = σ') := by
    refine kX_while (fun k : Nat => [(4, .int (nI k)), (3, .int (nI (hma σ r a k))), (0, .ref 232), (1, .int (nI r)), (2, .int (nI a))]) (fun _ => σ) _ (fun k => v - k) ?_
    intro k hk ih
    iterate 4 (refine kX_one rfl ?_)
    refine kX_ialdV rfl rfl (by decide) (r) (by first | rfl | decide) (by omega) (hv) ?_
    repeat refine kX_one rfl ?_
    refine kX_if (fun q => ?_) (fun q => ?_)
    · have q := qge q k v
      obtain rfl : k = v := by omega
      repeat refine kX_one rfl ?_
      refine kX_ret (i := .ireturn) (len := 1) rfl (Or.inr rfl) rfl (⟨rfl, rfl⟩)
    · have q := qgeF q k v
      iterate 8 (refine kX_one rfl ?_)
      refine kX_ialdN rfl rfl (by decide) (6 * r + k) (ix6 r k) (by omega) ?_
      have := ih (k + 1) q (by omega)
      rw [← nI_1] at this
      repeat refine kX_one rfl ?_
      refine kX_if (fun q => ?_) (fun q => ?_)
      · have e : hma σ r a (k + 1) = hma σ r a k := by
          rw [hma, if_neg (qne q), Nat.add_zero]
        rw [e] at this
        iterate 2 (refine kX_one rfl ?_)
        refine kX_top (show nI (hma σ r a k) + 0 = nI (hma σ r a k) from Int32.add_zero _) ?_
        iterate 3 (refine kX_one rfl ?_)
        exact kX_lv _ rfl rfl rfl this
      · have e : hma σ r a (k + 1) = hma σ r a k + 1 := by
          rw [hma, if_pos (qneF q)]
        rw [e] at this
        iterate 3 (refine kX_one rfl ?_)
        refine kX_top (show nI (hma σ r a k) + 1 = nI (hma σ r a k + 1) from (nI_succ _).symm) ?_
        iterate 3 (refine kX_one rfl ?_)
        exact kX_lv _ rfl rfl rfl this
  iterate 4 (refine kX_one rfl ?_)
  exact kX_lv _ rfl rfl rfl (loop 0 (Nat.zero_le _))
end
section
/-! the reference: session, what it fills in -/
/-- VARIABLE i of the role r has what it is to have in the session S that is being made -/
def ssO (τ : kS) (n r S i : Nat) : Prop := ∃ as, τ 246 (6 * r + i) = nI as ∧ ((as = 2 ∧ τ 256 (6 * S + i) = -6) ∨ (as < 2 ∧ ∃ z, z < n ∧ τ 256 (6 * S + i) = nI z ∧ τ 233 z = τ 240 (fN (τ 245 (6 * r + i)))))
/-- all but the RUN and the ATTACK -/
def mJ (σ : kS) (n b R S C : Nat) (kl : List Nat) : Prop := mTb σ n b ∧ mRo σ n R ∧ mSe σ n R S ∧ mKn σ n kl ∧ mCl σ R C ∧ σ 232 52 = 0
theorem mJ_new {σ τ : kS} {n b R S C k : Nat} {kl : List Nat} {a c : Int32} (h : mJ σ n b R S C kl) (hN : mNw σ τ n k a c) (hk : k < 3) : mJ τ (n + 1) 200 R S C kl := by
  have hG := mGr_new hN
  obtain ⟨h1, h2, h3, h4, h5, h6⟩ := h
  have hT : mTb τ (n + 1) 200 := by
    obtain ⟨_, _, _, _, _, _, q⟩ := hN
    exact q
  have hkk : τ 233 n = nI k := by
    obtain ⟨_, _, _, _, _, rfl, _⟩ := hN
    exact pk_us
  have hn1 : n ≤ n + 1 := by omega
  refine ⟨hT, mRo_up hn1 (fun t t1 t2 => ?_) (mGr_Ro h1 hG h2), mSe_up hn1 (mGr_Se h1 hG h3), mKn_up hn1 (mGr_Kn h1 hG h4), mGr_Cl hG h5, (hG.2.1 _ (by decide)).trans h6⟩
  obtain rfl : t = n := by omega
  rw [hkk]
  exact nI_ne (by omega)
theorem ssO_new {σ τ : kS} {n r S i k : Nat} {a c : Int32} (hn : n ≤ 200) (hN : mNw σ τ n k a c) (h : ssO σ n r S i) : ssO τ (n + 1) r S i := by
  have hG := mGr_new hN
  have e := fun c (hc : c ∉ rowC) => hG.1 c hc
  obtain ⟨as, h1, h2⟩ := h
  unfold ssO
  rw [e 246 (by decide), e 256 (by decide), e 240 (by decide), e 245 (by decide)]
  refine ⟨as, h1, h2.imp id (fun ⟨g1, z, g2, g3, g4⟩ => ⟨g1, z, by omega, g3, (hG.2.2 z g2).1.trans g4⟩)⟩
/-- the store of what VARIABLE k stands for at first -/
theorem mJ_at {σ : kS} {n b R S C k : Nat} {kl : List Nat} {x : Int32} (h : mJ σ n b R S C kl) : mJ (va_up σ 256 (upd (σ 256) (6 * S + k) x)) n b R S C kl := by
  obtain ⟨h1, h2, h3, h4, h5, h6⟩ := h
  refine ⟨h1, h2, ⟨h3.1, h3.2.1, fun s hs => ?_⟩, h4, h5, h6⟩
  obtain ⟨r, r1, r2, r3, r4⟩ := h3.2.2 s hs
  refine ⟨r, r1, r2, r3, fun k' hk' => ?_⟩
  have hR4 := h2.1
  obtain ⟨⟨v, hv6, hv⟩, -⟩ := h2.2.2.1 r r1
  have hk6 : k' < 6 := by
    have : k' < fN (σ 244 r) := hk'
    rw [hv, fN_nI (by omega)] at this
    omega
  show ∃ as, σ 246 (6 * r + k') = nI as ∧ ((as = 2 ∧ upd (σ 256) (6 * S + k) x (6 * s + k') = -6) ∨ (as < 2 ∧ ∃ z, z < n ∧ upd (σ 256) (6 * S + k) x (6 * s + k') = nI z ∧ σ 233 z = σ 240 (fN (σ 245 (6 * r + k')))))
  rw [pk_un (by omega)]
  exact r4 k' hk'
theorem ssO_at {σ : kS} {n r S i k : Nat} {x : Int32} (hi : i ≠ k) (h : ssO σ n r S i) : ssO (va_up σ 256 (upd (σ 256) (6 * S + k) x)) n r S i := by
  show ∃ as, σ 246 (6 * r + i) = nI as ∧ ((as = 2 ∧ upd (σ 256) (6 * S + k) x (6 * S + i) = -6) ∨ (as < 2 ∧ ∃ z, z < n ∧ upd (σ 256) (6 * S + k) x (6 * S + i) = nI z ∧ σ 233 z = σ 240 (fN (σ 245 (6 * r + i)))))
  rw [pk_un (by omega)]
  exact h
/-- one session more -/
def seS (σ : kS) (S r : Nat) : kS := va_up (va_up (va_up σ 255 (upd (σ 255) S (nI r))) 250 (upd (σ 250) r 1)) 232 (upd (σ 232) 27 (nI (S + 1)))
theorem mI_se {σ : kS} {n b R S C r : Nat} {kl : List Nat} (h : mJ σ n b R S C kl) (hS : S < 4) (hr : r < R) (hs : ∀ i, i < fN (σ 244 r) → ssO σ n r S i) : mI (va_up (seS σ S r) 232 (fgO (seS σ S r 232))) n b R (S + 1) C kl := by
  obtain ⟨h1, h2, h3, h4, h5, h6⟩ := h
  refine mI_fg (σ := seS σ S r) h1 h2 ⟨by omega, rfl, fun s hs' => ?_⟩ h4 h5 h6
  show ∃ r', r' < R ∧ upd (σ 255) S (nI r) s = nI r' ∧ upd (σ 250) r 1 r' ≠ 0 ∧ ∀ k, k < fN (σ 244 r') → ∃ as, σ 246 (6 * r' + k) = nI as ∧ ((as = 2 ∧ σ 256 (6 * s + k) = -6) ∨ (as < 2 ∧ ∃ z, z < n ∧ σ 256 (6 * s + k) = nI z ∧ σ 233 z = σ 240 (fN (σ 245 (6 * r' + k)))))
  by_cases e : s = S
  · subst e
    refine ⟨r, hr, pk_us, by rw [pk_us]; decide, hs⟩
  · obtain ⟨r', r1, r2, r3, r4⟩ := h3.2.2 s (by omega)
    refine ⟨r', r1, by rw [pk_un e]; exact r2, ?_, r4⟩
    by_cases e2 : r' = r
    · subst e2
      rw [pk_us]
      decide
    · rw [pk_un e2]
      exact r3
end
section
/-! the reference: session, its loop -/
theorem hma_mono (σ : kS) (r a : Nat) : ∀ {k v : Nat}, k ≤ v → hma σ r a k ≤ hma σ r a v := fun {k v} h => by
  induction v with
  | zero => obtain rfl : k = 0 := by omega
            exact Nat.le_refl _
  | succ v ih =>
    by_cases e : k = v + 1
    · subst e
      exact Nat.le_refl _
    · exact Nat.le_trans (ih (by omega)) (Nat.le_add_right _ _)
def seK (σ τ : kS) (n : Nat) : Prop := τ 244 = σ 244 ∧ τ 246 = σ 246 ∧ τ 245 = σ 245 ∧ τ 240 = σ 240 ∧ ∀ t, t < n → τ 233 t = σ 233 t
end
section
/-! the reference: the TERMS without numbers in their order: isOpen, lastOf -/
set_option maxRecDepth 100000 in
set_option maxHeartbeats 4000000 in
theorem mr_isOpen (L : Nat) (xs : Nat → Int32) (d : Nat) (σ : kS) (u : Nat) (hu : u < 1000) : kXM kT L xs (d + 1) 200 [.ref 232, .int (nI u)] σ (fun r σ' => r = some (.int (isB (200 ≤ u ∧ σ 280 u = 0))) ∧ σ = σ') := by
  unfold kXM
  repeat refine kX_one rfl ?_
  refine kX_if (fun q => ?_) (fun q => ?_)
  · have q := qlt q u 200
    repeat refine kX_one rfl ?_
    refine kX_ret (i := .ireturn) (len := 1) rfl (Or.inr rfl) rfl (⟨by rw [isB_F (fun z => by omega)]; rfl, rfl⟩)
  · have q := qltF q u 200
    repeat refine kX_one rfl ?_
    refine kX_baldN rfl rfl (by decide) (u) (by first | rfl | decide) (hu) ?_
    repeat refine kX_one rfl ?_
    refine kX_if (fun q2 => ?_) (fun q2 => ?_)
    · repeat refine kX_one rfl ?_
      refine kX_ret (i := .ireturn) (len := 1) rfl (Or.inr rfl) rfl (⟨by rw [isB_F (fun z => qne q2 z.2)]; rfl, rfl⟩)
    · repeat refine kX_one rfl ?_
      refine kX_ret (i := .ireturn) (len := 1) rfl (Or.inr rfl) rfl (⟨by rw [isB_T ⟨q, qneF q2⟩]; rfl, rfl⟩)
set_option maxRecDepth 100000 in
set_option maxHeartbeats 4000000 in
theorem mr_isOpenN (L : Nat) (xs : Nat → Int32) (d : Nat) (σ : kS) : kXM kT L xs (d + 1) 200 [.ref 232, .int (-1)] σ (fun r σ' => r = some (.int 0) ∧ σ = σ') := by
  unfold kXM
  repeat refine kX_one rfl ?_
  refine kX_ret (i := .ireturn) (len := 1) rfl (Or.inr rfl) rfl (⟨rfl, rfl⟩)
set_option maxRecDepth 100000 in
set_option maxHeartbeats 4000000 in
theorem mr_lastOf (L : Nat) (xs : Nat → Int32) (d : Nat) (σ : kS) (x y : Int32) : kXM kT L xs (d + 1) 202 [.ref 232, .int x, .int y] σ (fun r σ' => r = some (.int (if x < 0 then x + 1000 else y + x)) ∧ σ = σ') := by
  unfold kXM
  repeat refine kX_one rfl ?_
  refine kX_if (fun q => ?_) (fun q => ?_)
  · have q : ¬ x < 0 := fun z => by
      have := of_decide_eq_true q
      exact absurd z (Int32.not_lt.mpr this)
    repeat refine kX_one rfl ?_
    refine kX_ret (i := .ireturn) (len := 1) rfl (Or.inr rfl) rfl (⟨by rw [if_neg q], rfl⟩)
  · have q : x < 0 := Int32.not_le.mp (of_decide_eq_false q)
    repeat refine kX_one rfl ?_
    refine kX_ret (i := .ireturn) (len := 1) rfl (Or.inr rfl) rfl (⟨by rw [if_pos q]; rfl, rfl⟩)
end
section
/-! the reference: inOrder -/
set_option maxRecDepth 100000 in
set_option maxHeartbeats 4000000 in
theorem mr_inOrderN (L : Nat) (xs : Nat → Int32) (d : Nat) (σ : kS) (t : Nat) (ht : t < 200) : kXM kT L xs (d + 1) 201 [.ref 232, .int (nI t)] σ (fun r σ' => r = some (.int (nI t - 1000)) ∧ σ = σ') := by
  unfold kXM
  repeat refine kX_one rfl ?_
  refine kX_if (fun q => ?_) (fun q => ?_)
  · have q := qge q t 200
    omega
  · repeat refine kX_one rfl ?_
    refine kX_ret (i := .ireturn) (len := 1) rfl (Or.inr rfl) rfl (⟨rfl, rfl⟩)
set_option maxRecDepth 100000 in
set_option maxHeartbeats 4000000 in
theorem mr_inOrder (L : Nat) (xs : Nat → Int32) (d : Nat) (σ : kS) (l : List Nat) (i : Nat) (hi : i < l.length) (hl : lst (σ 279) l) (h600 : l.length ≤ 600) (h200 : 200 ≤ l[i]) (h1000 : ∀ t ∈ l, t < 1000) (hf : ∀ j (hj : j < l.length), j < i → l[j] ≠ l[i]) : kXM kT L xs (d + 1) 201 [.ref 232, .int (nI l[i])] σ (fun r σ' => r = some (.int (nI i)) ∧ σ = σ') := by
  unfold kXM
  have hlt := h1000 _ (List.getElem_mem hi)
  have loop : ∀ k, k ≤ i → kX kT L xs (d + 1) 201 15 [(2, .int (nI k)), (0, .ref 232), (1, .int (nI l[i]))] [] σ (fun r σ' => r = some (.int (nI i)) ∧ σ = σ') := by
    refine kX_while (fun k : Nat => [(2, .int (nI k)), (0, .ref 232), (1, .int (nI l[i]))]) (fun _ => σ) _ (fun k => i - k) ?_
    intro k hk ih
    have hkl : k < l.length := by omega
    have hkt := h1000 _ (List.getElem_mem hkl)
    iterate 3 (refine kX_one rfl ?_)
    refine kX_ialdV rfl rfl (by decide) (k) (by first | rfl | decide) (by omega) (hl k hkl) ?_
    repeat refine kX_one rfl ?_
    refine kX_if (fun q => ?_) (fun q => ?_)
    · have q : l[k] = l[i] := nI_inj (qeq q)
      have : k = i := Decidable.byContradiction (fun e => hf k hkl (by omega) q)
      subst this
      repeat refine kX_one rfl ?_
      refine kX_ret (i := .ireturn) (len := 1) rfl (Or.inr rfl) rfl (⟨rfl, rfl⟩)
    · have q : l[k] ≠ l[i] := fun e => qeqF q (by rw [e])
      have hki : k ≠ i := fun e => by
        subst e
        exact q rfl
      iterate 2 (refine kX_one rfl ?_)
      have := ih (k + 1) (by omega) (by omega)
      rw [← nI_1] at this
      exact kX_lv _ rfl rfl rfl this
  repeat refine kX_one rfl ?_
  refine kX_if (fun q => ?_) (fun q => ?_)
  · iterate 2 (refine kX_one rfl ?_)
    exact kX_lv _ rfl rfl rfl (loop 0 (Nat.zero_le _))
  · have q := qgeF q l[i] 200
    omega
end
section
/-! the reference: findOrder, what it begins with -/
set_option maxRecDepth 100000 in
set_option maxHeartbeats 4000000 in
theorem mr_fo_init (L : Nat) (xs : Nat → Int32) (d : Nat) (σ : kS) (n b : Nat) (h : mTb σ n b) (tv : Int32) (Q : Option Value → kS → Prop)
    (he : ∀ I, (∀ j, 200 ≤ j → j < b → I j = 0) → kX kT L xs (d + 1) 199 30 [(0, .ref 232), (1, .int tv)] [] (va_up σ 280 I) Q) :
    ∀ q : Nat × (Nat → Int32), (200 ≤ q.1 ∧ q.1 ≤ b ∧ ∀ j, 200 ≤ j → j < q.1 → q.2 j = 0) → kX kT L xs (d + 1) 199 9 [(2, .int (nI q.1)), (0, .ref 232), (1, .int tv)] [] (va_up σ 280 q.2) Q := by
  have hb := h.2.2.1
  have hbb := h.2.2.2.2.1
  refine kX_while (fun q : Nat × (Nat → Int32) => [(2, .int (nI q.1)), (0, .ref 232), (1, .int tv)]) (fun q => va_up σ 280 q.2) _ (fun q => b - q.1) ?_
  rintro ⟨k, I⟩ ⟨i1, i2, i3⟩ ih
  dsimp only at i1 i2 i3 ih ⊢
  iterate 3 (refine kX_one rfl ?_)
  refine kX_top (hbb) ?_
  repeat refine kX_one rfl ?_
  refine kX_if (fun q => ?_) (fun q => ?_)
  · have q := qge q k b
    exact kX_lv _ rfl rfl rfl (he I (fun j j1 j2 => i3 j j1 (by omega)))
  · have q := qgeF q k b
    iterate 4 (refine kX_one rfl ?_)
    refine kX_bastN rfl rfl (by decide) (k) (by first | rfl | decide) (by omega) (Or.inl rfl) ?_
    iterate 2 (refine kX_one rfl ?_)
    have := ih (k + 1, upd I k 0) ⟨by simp only; omega, q, fun j j1 j2 => by
      simp only at j2 ⊢
      by_cases e : j = k
      · subst e
        exact pk_us
      · rw [pk_un e]
        exact i3 j j1 (by omega)⟩ (by simp only; omega)
    dsimp only at this
    rw [← nI_1] at this
    refine kX_to _ _ rfl rfl rfl ?_ this
    funext c; first
      | ((repeat (refine va_case ?_ ?_; (· (intro h; first | (subst h; rfl) | (unfold va_up; repeat' split; (all_goals first | rfl | omega | (subst_vars; rfl) | (funext j; unfold upd; repeat' split; all_goals first | rfl | omega | (subst_vars; rfl)))))); intro h)); (repeat (refine va_case2 ?_ ?_; (· (intro h; first | exact absurd h (by assumption) | (subst h; rfl) | (subst h; funext j; unfold upd; repeat' split; (all_goals first | rfl | omega | (subst_vars; rfl))))); intro h)); rfl)
      | (unfold va_up; repeat' split
         all_goals first | rfl | omega | (subst_vars; rfl) | (funext j; unfold upd; repeat' split; all_goals first | rfl | omega | (subst_vars; rfl)))
end
section
/-! the reference: findOrder, its way down -/
theorem cnt_rng {f : Nat → Prop} {lo hi : Nat} (h : ∀ t, f t → lo ≤ t ∧ t < hi) : ∀ m, cnt f m ≤ min m hi - lo
  | 0 => by simp [cnt]
  | m + 1 => by
    have := cnt_rng h m
    unfold cnt
    split
    · next e =>
      have := h m e
      omega
    · omega
theorem first_idx {y : Nat} : ∀ (l : List Nat), y ∈ l → ∃ i, ∃ h : i < l.length, l[i] = y ∧ ∀ j (hj : j < l.length), j < i → l[j] ≠ y
  | [], h => by cases h
  | a :: l, h => by
    by_cases e : a = y
    · exact ⟨0, by simp, by simpa using e, fun j _ hj => absurd hj (Nat.not_lt_zero _)⟩
    · have h : y ∈ l := by
        rcases List.mem_cons.mp h with h | h
        · exact absurd h.symm e
        · exact h
      obtain ⟨i, h1, h2, h3⟩ := first_idx l h
      refine ⟨i + 1, by simp; omega, by simpa using h2, fun j hj hji => ?_⟩
      cases j with
      | zero => simpa using e
      | succ j => simpa using h3 j (by simp at hj; omega) (by omega)
/-- TERMS without numbers, each behind what it is of -/
def foL (σ : kS) (b : Nat) (l : List Nat) : Prop := (∀ x ∈ l, 200 ≤ x ∧ x < b ∧ tsz (σ 233) (σ 234) (σ 235) x ≤ 24) ∧ cnt (fun x => x ∈ l) 1000 = l.length ∧ (∀ i (h : i < l.length) y, 200 ≤ y → (σ 234 (l[i]'h) = nI y ∨ σ 235 (l[i]'h) = nI y) → y < 1000 → y ∈ l.take i) ∧ l.Pairwise (fun x y => x ≠ y)
theorem foL_nil (σ : kS) (b : Nat) : foL σ b [] := ⟨fun x hx => (by cases hx), by
  have := cnt_rng (f := fun x : Nat => x ∈ ([] : List Nat)) (lo := 0) (hi := 0) (fun t ht => (by cases ht)) 1000
  simp at this ⊢
  omega, fun i h => absurd h (Nat.not_lt_zero i), List.Pairwise.nil⟩
theorem foL_len {σ : kS} {b : Nat} {l : List Nat} (h : foL σ b l) (hb : b ≤ 776) : l.length ≤ 576 := by
  have := cnt_rng (f := fun x => x ∈ l) (lo := 200) (hi := b) (fun t ht => ⟨(h.1 t ht).1, (h.1 t ht).2.1⟩) 1000
  rw [h.2.1] at this
  omega
theorem foL_push {σ : kS} {b x : Nat} {l : List Nat} (h : foL σ b l) (hb : b ≤ 1000) (h1 : 200 ≤ x) (h2 : x < b) (h3 : tsz (σ 233) (σ 234) (σ 235) x ≤ 24) (h4 : x ∉ l) (h5 : ∀ y, 200 ≤ y → (σ 234 x = nI y ∨ σ 235 x = nI y) → y < 1000 → y ∈ l) : foL σ b (l ++ [x]) := by
  refine ⟨fun y hy => ?_, ?_, fun i hi y hy1 hy2 hy3 => ?_, ?_⟩
  · rcases List.mem_append.mp hy with q | q
    · exact h.1 y q
    · rw [List.mem_singleton] at q
      subst q
      exact ⟨h1, h2, h3⟩
  · rw [cnt_add (f := fun y => y ∈ l) (t := x) h4 (fun u => by simp) 1000 (by omega), h.2.1]
    simp
  · simp only [List.length_append, List.length_cons, List.length_nil] at hi
    by_cases e : i = l.length
    · subst e
      simp only [List.getElem_append_right (Nat.le_refl _), Nat.sub_self, List.getElem_cons_zero] at hy2
      have := h5 y hy1 hy2 hy3
      simpa using this
    · have hl : i < l.length := by omega
      rw [List.getElem_append_left hl] at hy2
      rw [List.take_append_of_le_length (by omega)]
      exact h.2.2.1 i hl y hy1 hy2 hy3
  · rw [List.pairwise_append]
    refine ⟨h.2.2.2, List.pairwise_singleton _ _, fun u hu v hv => ?_⟩
    rw [List.mem_singleton] at hv
    subst hv
    exact fun e => h4 (e ▸ hu)
/-- where findOrder stands -/
def foI (σ : kS) (b t : Nat) (sk l : List Nat) (W I O : Nat → Int32) : Prop := lst W sk ∧ lst O l ∧ (∀ x ∈ sk, 200 ≤ x ∧ x < b ∧ tsz (σ 233) (σ 234) (σ 235) x ≤ 24 ∧ x ∉ l) ∧ sk.Pairwise (fun x y => y < x) ∧ (∀ i (h : i < sk.length), (sk[i]'h) + i < b) ∧ (∀ j, 200 ≤ j → j < b → I j = isB (j ∈ l)) ∧ foL σ b l ∧ (t ∈ sk ∨ t ∈ l)
def foS (σ : kS) (W I O : Nat → Int32) (m : Int32) : kS := va_up (va_up (va_up (va_up σ 252 W) 280 I) 279 O) 232 (upd (σ 232) 61 m)
theorem foI_len {σ : kS} {b t : Nat} {sk l : List Nat} {W I O : Nat → Int32} (h : foI σ b t sk l W I O) (hb : b ≤ 776) : sk.length ≤ 576 := by
  rcases snoc_cases sk with rfl | ⟨s, x, rfl⟩
  · simp
  · have h1 := (h.2.2.1 x (by simp)).1
    have h2 := h.2.2.2.2.1 s.length (by simp)
    simp at h2 ⊢
    omega
/-- one more that waits -/
theorem foI_push {σ : kS} {b t x y : Nat} {s l : List Nat} {W I O : Nat → Int32} (h : foI σ b t (s ++ [x]) l W I O) (h1 : 200 ≤ y) (h2 : y < x) (h3 : tsz (σ 233) (σ 234) (σ 235) y ≤ 24) (h4 : y ∉ l) : foI σ b t (s ++ [x] ++ [y]) l (upd W (s ++ [x]).length (nI y)) I O := by
  obtain ⟨g1, g2, g3, g4, g5, g6, g7, g8⟩ := h
  refine ⟨lst_push g1 y, g2, fun u hu => ?_, ?_, fun i hi => ?_, g6, g7, ?_⟩
  · rcases List.mem_append.mp hu with q | q
    · exact g3 u q
    · rw [List.mem_singleton] at q
      subst q
      have := g3 x (by simp)
      exact ⟨h1, by omega, h3, h4⟩
  · rw [List.pairwise_append]
    refine ⟨g4, List.pairwise_singleton _ _, fun u hu v hv => ?_⟩
    rw [List.mem_singleton] at hv
    subst hv
    rcases List.mem_append.mp hu with q | q
    · have := (List.pairwise_append.mp g4).2.2 u q x (by simp)
      omega
    · rw [List.mem_singleton] at q
      omega
  · by_cases e : i < (s ++ [x]).length
    · rw [List.getElem_append_left e]
      exact g5 i e
    · have e2 : i = (s ++ [x]).length := by
        simp at hi e ⊢
        omega
      subst e2
      rw [List.getElem_append_right (Nat.le_refl _)]
      have := g5 s.length (by simp)
      simp at this ⊢
      omega
  · rcases g8 with q | q
    · exact Or.inl (List.mem_append_left _ q)
    · exact Or.inr q
/-- one more in the order -/
theorem foI_ord {σ : kS} {b t x : Nat} {s l : List Nat} {W I O : Nat → Int32} (h : foI σ b t (s ++ [x]) l W I O) (hb : b ≤ 1000) (h5 : ∀ y, 200 ≤ y → (σ 234 x = nI y ∨ σ 235 x = nI y) → y < 1000 → y ∈ l) : foI σ b t s (l ++ [x]) W (upd I x 1) (upd O l.length (nI x)) := by
  obtain ⟨g1, g2, g3, g4, g5, g6, g7, g8⟩ := h
  obtain ⟨x1, x2, x3, x4⟩ := g3 x (by simp)
  have hp := List.pairwise_append.mp g4
  refine ⟨(lst_pop g1).2, lst_push g2 x, fun u hu => ?_, hp.1, fun i hi => ?_, fun j j1 j2 => ?_, foL_push g7 hb x1 x2 x3 x4 h5, ?_⟩
  · obtain ⟨a1, a2, a3, a4⟩ := g3 u (by simp [hu])
    have := hp.2.2 u hu x (by simp)
    exact ⟨a1, a2, a3, by
      simp only [List.mem_append, List.mem_singleton, not_or]
      exact ⟨a4, by omega⟩⟩
  · have := g5 i (by simp; omega)
    rw [List.getElem_append_left hi] at this
    exact this
  · by_cases e : j = x
    · subst e
      rw [pk_us, isB_T (by simp)]
    · rw [pk_un e, g6 j j1 j2]
      have : (j ∈ l) = (j ∈ l ++ [x]) := propext ⟨fun q => by simp [q], fun q => by
        rcases List.mem_append.mp q with q | q
        · exact q
        · exact absurd (List.mem_singleton.mp q) e⟩
      rw [this]
  · rcases g8 with q | q
    · rcases List.mem_append.mp q with q | q
      · exact Or.inl q
      · exact Or.inr (List.mem_append_right _ q)
    · exact Or.inr (List.mem_append_left _ q)
end
section
/-! the reference: lasting -/
/-- what inOrder tells of a part -/
def loV (l : List Nat) (n k : Nat) (v c : Int32) : Prop := (v = -1 ∧ c = -1001) ∨ (∃ y, y < n ∧ v = nI y ∧ c = nI y - 1000) ∨ ∃ i, ∃ h : i < l.length, i < k ∧ v = nI (l[i]'h) ∧ c = nI i
/-- .. and where it comes to lie -/
def loT (l : List Nat) (n k : Nat) (v w : Int32) : Prop := (v = -1 ∧ w = -1) ∨ (∃ y, y < n ∧ v = nI y ∧ w = nI y) ∨ ∃ i, ∃ h : i < l.length, i < k ∧ v = nI (l[i]'h) ∧ w = nI (n + i)
set_option maxRecDepth 100000 in
set_option maxHeartbeats 4000000 in
theorem lo_neg : ∀ y : Fin 200, nI y.1 - 1000 < 0 := by decide
theorem loT_of {l : List Nat} {n k : Nat} {v c : Int32} (hn : n ≤ 200) (hl : l.length ≤ 600) (h : loV l n k v c) : loT l n k v (if c < 0 then c + 1000 else nI n + c) := by
  rcases h with ⟨h1, h2⟩ | ⟨y, h1, h2, h3⟩ | ⟨i, h0, h1, h2, h3⟩
  · left
    subst h2
    exact ⟨h1, by rw [if_pos (by decide)]; decide⟩
  · refine Or.inr (Or.inl ⟨y, h1, h2, ?_⟩)
    have : c < 0 := by
      rw [h3]
      exact lo_neg ⟨y, by omega⟩
    rw [if_pos this, h3, Int32.sub_add_cancel]
  · refine Or.inr (Or.inr ⟨i, h0, h1, h2, ?_⟩)
    rw [h3, if_neg (nI_pos (by omega)), nI_add]
/-- two parts that come to lie at one place are one -/
theorem loT_inj {l : List Nat} {n k k' : Nat} {v v' w : Int32} (hn : n ≤ 200) (hl : l.length ≤ 600) (h1 : loT l n k v w) (h2 : loT l n k' v' w) : v = v' := by
  rcases h1 with ⟨a1, a2⟩ | ⟨y, y1, y2, y3⟩ | ⟨i, i0, i1, i2, i3⟩ <;> rcases h2 with ⟨b1, b2⟩ | ⟨z, z1, z2, z3⟩ | ⟨j, j0, j1, j2, j3⟩
  · rw [a1, b1]
  · exact absurd (z3.symm.trans a2) (nI_m1 (by omega))
  · exact absurd (j3.symm.trans a2) (nI_m1 (by omega))
  · exact absurd (y3.symm.trans b2) (nI_m1 (by omega))
  · have := nI_inj (y3.symm.trans z3)
    subst this
    rw [y2, z2]
  · have := nI_inj (y3.symm.trans j3)
    omega
  · exact absurd (i3.symm.trans b2) (nI_m1 (by omega))
  · have := nI_inj (i3.symm.trans z3)
    omega
  · have := nI_inj (i3.symm.trans j3)
    have : i = j := by omega
    subst this
    rw [i2, j2]
/-- a part below n lies where it lay -/
theorem loT_low {l : List Nat} {n k p : Nat} {v : Int32} (hn : n ≤ 200) (hl : l.length ≤ 600) (h : loT l n k v (nI p)) (hp : p < n) : v = nI p := by
  rcases h with ⟨a1, a2⟩ | ⟨y, y1, y2, y3⟩ | ⟨i, i0, i1, i2, i3⟩
  · exact absurd a2 (nI_m1 (by omega))
  · rw [y2, y3]
  · have := nI_inj i3
    omega
set_option maxRecDepth 100000 in
set_option maxHeartbeats 4000000 in
theorem mr_code (L : Nat) (xs : Nat → Int32) (d : Nat) (σ : kS) (l : List Nat) (n k y : Nat) (hl : lst (σ 279) l) (h600 : l.length ≤ 600) (hlx : ∀ t ∈ l, 200 ≤ t ∧ t < 1000) (hn : n ≤ 200) (hy : y < 1000) (h1 : y < 200 → y < n) (h2 : 200 ≤ y → y ∈ l.take k) : kXM kT L xs (d + 1) 201 [.ref 232, .int (nI y)] σ (fun r σ' => (∃ c, r = some (.int c) ∧ loV l n k (nI y) c) ∧ σ = σ') := by
  by_cases e : y < 200
  · refine kXM_mono (mr_inOrderN L xs d σ y e) (fun r σ' q => ?_)
    obtain ⟨rfl, rfl⟩ := q
    exact ⟨⟨_, rfl, Or.inr (Or.inl ⟨y, h1 e, rfl, rfl⟩)⟩, rfl⟩
  · obtain ⟨i, i1, i2, i3⟩ := first_idx _ (h2 (by omega))
    have i4 : i < k ∧ i < l.length := by
      rw [List.length_take] at i1
      omega
    rw [List.getElem_take] at i2
    have := mr_inOrder L xs d σ l i i4.2 hl h600 (by rw [i2]; omega) (fun t ht => (hlx t ht).2) (fun j hj hji => by
      have := i3 j (by rw [List.length_take]; omega) hji
      rw [List.getElem_take] at this
      rw [i2]
      exact this)
    rw [i2] at this
    refine kXM_mono this (fun r σ' q => ?_)
    obtain ⟨rfl, rfl⟩ := q
    exact ⟨⟨_, rfl, Or.inr (Or.inr ⟨i, i4.2, i4.1, by rw [i2], rfl⟩)⟩, rfl⟩
def loS (σ : kS) (NK NF NS : Nat → Int32) : kS := va_up (va_up (va_up σ 281 NK) 282 NF) 283 NS
/-- the new rows up to k -/
def loI (σ : kS) (n : Nat) (l : List Nat) (NK NF NS : Nat → Int32) (k : Nat) : Prop := ∀ j (h : j < l.length), j < k → NK j = σ 233 (l[j]'h) ∧ loV l n j (σ 234 (l[j]'h)) (NF j) ∧ loV l n j (σ 235 (l[j]'h)) (NS j)
theorem loI_push {σ : kS} {n k : Nat} {l : List Nat} {NK NF NS : Nat → Int32} {a c e : Int32} (h : loI σ n l NK NF NS k) (hk : k < l.length) (h1 : a = σ 233 l[k]) (h2 : loV l n k (σ 234 l[k]) c) (h3 : loV l n k (σ 235 l[k]) e) : loI σ n l (upd NK k a) (upd NF k c) (upd NS k e) (k + 1) := by
  intro j hj hjk
  by_cases q : j = k
  · subst q
    rw [pk_us, pk_us, pk_us]
    exact ⟨h1, h2, h3⟩
  · rw [pk_un q, pk_un q, pk_un q]
    exact h j hj (by omega)
set_option maxRecDepth 100000 in
set_option maxHeartbeats 4000000 in
theorem mr_lo_one (L : Nat) (xs : Nat → Int32) (d : Nat) (σ : kS) (n b : Nat) (l : List Nat) (h : mTb σ n b) (hb : b ≤ 776) (hl : lst (σ 279) l) (ho : σ 232 61 = nI l.length) (hL : foL σ b l) (tv : Int32) (Q : Option Value → kS → Prop)
    (he : ∀ NK NF NS, loI σ n l NK NF NS l.length → kX kT L xs (d + 2) 203 118 [(0, .ref 232), (1, .int tv)] [] (loS σ NK NF NS) Q) :
    ∀ q : Nat × (Nat → Int32) × (Nat → Int32) × (Nat → Int32), (q.1 ≤ l.length ∧ loI σ n l q.2.1 q.2.2.1 q.2.2.2 q.1) → kX kT L xs (d + 2) 203 25 [(2, .int (nI q.1)), (0, .ref 232), (1, .int tv)] [] (loS σ q.2.1 q.2.2.1 q.2.2.2) Q := by
  have hll := foL_len hL hb
  have hn := h.1
  have hV := h.2.2.2.2.2.1.1
  refine kX_while (fun q : Nat × (Nat → Int32) × (Nat → Int32) × (Nat → Int32) => [(2, .int (nI q.1)), (0, .ref 232), (1, .int tv)]) (fun q => loS σ q.2.1 q.2.2.1 q.2.2.2) _ (fun q => l.length - q.1) ?_
  rintro ⟨k, NK, NF, NS⟩ ⟨i1, i2⟩ ih
  dsimp only at i1 i2 ih ⊢
  iterate 3 (refine kX_one rfl ?_)
  refine kX_top (ho) ?_
  repeat refine kX_one rfl ?_
  refine kX_if (fun q => ?_) (fun q => ?_)
  · have q := qge q k l.length
    have : k = l.length := by omega
    subst this
    exact kX_lv _ rfl rfl rfl (he NK NF NS i2)
  · have q := qgeF q k l.length
    obtain ⟨x1, x2, x3⟩ := hL.1 _ (List.getElem_mem q)
    have hcl := hL.2.2.1 k q
    have hlk := hl k q
    generalize hx : l[k] = x at x1 x2 x3 hcl hlk
    have hlx : ∀ t ∈ l, 200 ≤ t ∧ t < 1000 := fun t ht => ⟨(hL.1 t ht).1, by have := (hL.1 t ht).2.1; omega⟩
    have k111 : ∀ c e, loV l n k (σ 234 x) c → loV l n k (σ 235 x) e → kX kT L xs (d + 2) 203 111 [(2, .int (nI k)), (0, .ref 232), (1, .int tv)] [.int e, .int (nI k), .ref 283] (loS σ (upd NK k (σ 233 x)) (upd NF k c) NS) Q := by
      intro c e hc he'
      refine kX_iastN rfl rfl (by decide) (k) (by first | rfl | decide) (by omega) ?_
      iterate 2 (refine kX_one rfl ?_)
      have := ih (k + 1, upd NK k (σ 233 x), upd NF k c, upd NS k e) ⟨by simp only; omega, by
        rw [← hx] at hc he' ⊢
        exact loI_push i2 q rfl hc he'⟩ (by simp only; omega)
      dsimp only at this
      rw [← nI_1] at this
      refine kX_to _ _ rfl rfl rfl ?_ this
      funext c; unfold loS; first
        | ((repeat (refine va_case ?_ ?_; (· (intro h; first | (subst h; rfl) | (unfold va_up; repeat' split; (all_goals first | rfl | omega | (subst_vars; rfl) | (funext j; unfold upd; repeat' split; all_goals first | rfl | omega | (subst_vars; rfl)))))); intro h)); (repeat (refine va_case2 ?_ ?_; (· (intro h; first | exact absurd h (by assumption) | (subst h; rfl) | (subst h; funext j; unfold upd; repeat' split; (all_goals first | rfl | omega | (subst_vars; rfl))))); intro h)); rfl)
        | (unfold va_up; repeat' split
           all_goals first | rfl | omega | (subst_vars; rfl) | (funext j; unfold upd; repeat' split; all_goals first | rfl | omega | (subst_vars; rfl)))
    have hpart : ∀ y, (σ 234 x = nI y ∨ σ 235 x = nI y) → mv n b y → y < 1000 ∧ (y < 200 → y < n) ∧ (200 ≤ y → y ∈ l.take k) := by
      intro y hy hm
      unfold mv at hm
      exact ⟨by omega, by omega, fun z => hcl y z hy (by omega)⟩
    have k71 : ∀ c, loV l n k (σ 234 x) c → ((∃ z, σ 235 x = nI z ∧ mv n b z) ∨ σ 235 x = -1) → kX kT L xs (d + 2) 203 71 [(2, .int (nI k)), (0, .ref 232), (1, .int tv)] [] (loS σ (upd NK k (σ 233 x)) (upd NF k c) NS) Q := by
      intro c hc hse
      iterate 8 (refine kX_one rfl ?_)
      refine kX_ialdV rfl rfl (by decide) (k) (by first | rfl | decide) (by omega) (hlk) ?_
      rcases hse with ⟨z, z1, z2⟩ | hse
      · obtain ⟨p1, p2, p3⟩ := hpart z (Or.inr z1) z2
        refine kX_ialdV rfl rfl (by decide) (x) (by first | rfl | decide) (by omega) (z1) ?_
        repeat refine kX_one rfl ?_
        refine kX_ifT (decide_eq_true (Int32.not_lt.mp (nI_pos (by omega)))) ?_
        iterate 6 (refine kX_one rfl ?_)
        refine kX_ialdV rfl rfl (by decide) (k) (by first | rfl | decide) (by omega) (hlk) ?_
        refine kX_ialdV rfl rfl (by decide) (x) (by first | rfl | decide) (by omega) (z1) ?_
        refine kX_cal (mr_code L xs d _ l n k z hl (by omega) hlx hn p1 p2 p3) rfl (Or.inr rfl) rfl rfl rfl (fun r1 σ1 q1 => ?_)
        obtain ⟨⟨e, rfl, he2⟩, rfl⟩ := q1
        exact k111 c e hc (by rw [z1]; exact he2)
      · refine kX_ialdV rfl rfl (by decide) (x) (by first | rfl | decide) (by omega) (hse) ?_
        iterate 3 (refine kX_one rfl ?_)
        exact k111 c (-1001) hc (Or.inl ⟨hse, rfl⟩)
    have k33 : ∀ y, σ 234 x = nI y → mv n b y → ((∃ z, σ 235 x = nI z ∧ mv n b z) ∨ σ 235 x = -1) → kX kT L xs (d + 2) 203 33 [(2, .int (nI k)), (0, .ref 232), (1, .int tv)] [] (loS σ NK NF NS) Q := by
      intro y y1 y2 hse
      obtain ⟨p1, p2, p3⟩ := hpart y (Or.inl y1) y2
      iterate 8 (refine kX_one rfl ?_)
      refine kX_ialdV rfl rfl (by decide) (k) (by first | rfl | decide) (by omega) (hlk) ?_
      refine kX_ialdN rfl rfl (by decide) (x) (by first | rfl | decide) (by omega) ?_
      refine kX_iastN rfl rfl (by decide) (k) (by first | rfl | decide) (by omega) ?_
      iterate 9 (refine kX_one rfl ?_)
      refine kX_ialdV rfl rfl (by decide) (k) (by first | rfl | decide) (by omega) (hlk) ?_
      refine kX_ialdV rfl rfl (by decide) (x) (by first | rfl | decide) (by omega) (y1) ?_
      refine kX_cal (mr_code L xs d _ l n k y hl (by omega) hlx hn p1 p2 p3) rfl (Or.inr rfl) rfl rfl rfl (fun r1 σ1 q1 => ?_)
      obtain ⟨⟨c, rfl, hc⟩, rfl⟩ := q1
      refine kX_iastN rfl rfl (by decide) (k) (by first | rfl | decide) (by omega) ?_
      refine kX_st (loS σ (upd NK k (σ 233 x)) (upd NF k c) NS) ?_ (k71 c (by rw [y1]; exact hc) hse)
      funext c; unfold loS; first
        | ((repeat (refine va_case ?_ ?_; (· (intro h; first | (subst h; rfl) | (unfold va_up; repeat' split; (all_goals first | rfl | omega | (subst_vars; rfl) | (funext j; unfold upd; repeat' split; all_goals first | rfl | omega | (subst_vars; rfl)))))); intro h)); (repeat (refine va_case2 ?_ ?_; (· (intro h; first | exact absurd h (by assumption) | (subst h; rfl) | (subst h; funext j; unfold upd; repeat' split; (all_goals first | rfl | omega | (subst_vars; rfl))))); intro h)); rfl)
        | (unfold va_up; repeat' split
           all_goals first | rfl | omega | (subst_vars; rfl) | (funext j; unfold upd; repeat' split; all_goals first | rfl | omega | (subst_vars; rfl)))
    rcases (hV x (Or.inr ⟨x1, x2⟩)).2 with ⟨k', h3, hk, -, -⟩ | ⟨k', y, z, h3, hk, hy, hz2, h4, h5, h6, h7⟩ | ⟨k', y, h3, hk, hy, hz2, h4, h6⟩
    · have := h.2.2.2.2.2.2.2.2.1 x x1 x2
      rw [hk, fN_nI (by omega)] at this
      omega
    · exact k33 y hy h6 (Or.inl ⟨z, hz2, h7⟩)
    · exact k33 y hy h6 (Or.inr hz2)
end
section
/-! the reference: lasting, the new TERMS -/
theorem mGr_trans {σ τ ρ : kS} {n m : Nat} (h1 : mGr σ τ n) (h2 : mGr τ ρ m) (hm : n ≤ m) : mGr σ ρ n :=
  ⟨fun c hc => (h2.1 c hc).trans (h1.1 c hc), fun j hj => (h2.2.1 j hj).trans (h1.2.1 j hj), fun u hu => ⟨(h2.2.2 u (by omega)).1.trans (h1.2.2 u hu).1, (h2.2.2 u (by omega)).2.1.trans (h1.2.2 u hu).2.1, (h2.2.2 u (by omega)).2.2.trans (h1.2.2 u hu).2.2⟩⟩
/-- the TERMS of l, laid from n on, up to k -/
def loK (σ τ : kS) (n : Nat) (l : List Nat) (k : Nat) : Prop := ∀ j (h : j < l.length), j < k → τ 233 (n + j) = σ 233 (l[j]'h) ∧ loT l n j (σ 234 (l[j]'h)) (τ 234 (n + j)) ∧ loT l n j (σ 235 (l[j]'h)) (τ 235 (n + j))
/-- a TERM of two, one of one: what lies at l's -/
theorem lo_tok {σ : kS} {n b x : Nat} (h : mTb σ n b) (h1 : 200 ≤ x) (h2 : x < b) : (∃ kd p q, (kd = 4 ∨ kd = 5 ∨ ((kd = 6 ∨ kd = 8) ∧ mAG σ n q)) ∧ σ 233 x = nI kd ∧ σ 234 x = nI p ∧ σ 235 x = nI q ∧ p < x ∧ q < x ∧ mv n b p ∧ mv n b q) ∨ ∃ kd p, (kd = 9 ∨ (kd = 7 ∧ mAG σ n p)) ∧ σ 233 x = nI kd ∧ σ 234 x = nI p ∧ σ 235 x = -1 ∧ p < x ∧ mv n b p := by
  rcases (h.2.2.2.2.2.1.1 x (Or.inr ⟨h1, h2⟩)).2 with ⟨k', h3, hk, -, -⟩ | q | q
  · have := h.2.2.2.2.2.2.2.2.1 x h1 h2
    rw [hk, fN_nI (by omega)] at this
    omega
  · exact Or.inl q
  · exact Or.inr q
theorem loT_m1 {l : List Nat} {n k : Nat} {w : Int32} (h : loT l n k (-1) w) (hn : n ≤ 200) (hl : ∀ x ∈ l, x < 1000) : w = -1 := by
  rcases h with ⟨a1, a2⟩ | ⟨y, y1, y2, y3⟩ | ⟨i, i0, i1, i2, i3⟩
  · exact a2
  · exact absurd y2.symm (nI_m1 (by omega))
  · exact absurd i2.symm (nI_m1 (by have := hl _ (List.getElem_mem i0); omega))
theorem loT_sz {σ τ : kS} {n b bk k : Nat} {l : List Nat} (h : mTb σ n b) (hb : b ≤ 776) (hT : mTb τ (n + k) bk) (hG : mGr σ τ n) (hL : ∀ x ∈ l, 200 ≤ x ∧ x < b) (hll : l.length ≤ 576) (hK : loK σ τ n l k) : ∀ j (hj : j < l.length), j < k → tsz (τ 233) (τ 234) (τ 235) (n + j) = tsz (σ 233) (σ 234) (σ 235) l[j] := by
  intro j
  induction j using Nat.strongRecOn with
  | _ j ih =>
    intro hj hjk
    have hn := h.1
    obtain ⟨x1, x2⟩ := hL _ (List.getElem_mem hj)
    obtain ⟨e1, e2, e3⟩ := hK j hj hjk
    have hV := h.2.2.2.2.2.1.1
    have hV' := hT.2.2.2.2.2.1.1
    have hnum : ∀ p, p < n → tsz (τ 233) (τ 234) (τ 235) p = tsz (σ 233) (σ 234) (σ 235) p := fun p hp => tA_congr (mTb_num h) (fun u hu => ⟨(hG.2.2 u hu).1, (hG.2.2 u hu).2.1, (hG.2.2 u hu).2.2, rfl⟩) p hp
    have hpart : ∀ p w, p < 1000 → loT l n j (nI p) w → ∃ p', w = nI p' ∧ p' < n + j ∧ tsz (τ 233) (τ 234) (τ 235) p' = tsz (σ 233) (σ 234) (σ 235) p := by
      intro p w hp hq
      rcases hq with ⟨a1, a2⟩ | ⟨y, y1, y2, y3⟩ | ⟨i, i0, i1, i2, i3⟩
      · exact absurd a1 (nI_m1 (by omega))
      · obtain rfl : p = y := nI_inj y2
        exact ⟨p, y3, by omega, hnum p y1⟩
      · have hi := (hL _ (List.getElem_mem i0)).2
        have : p = l[i] := nI_inj i2
        exact ⟨n + i, i3, by omega, by rw [this]; exact ih i i1 i0 (by omega)⟩
    generalize l[j] = x at *
    rcases lo_tok h x1 x2 with ⟨kd, p, q, h3, hk, hp, hq, h4, h5, h6, h7⟩ | ⟨kd, p, h3, hk, hp, hq, h4, h6⟩
    · rw [hp] at e2
      rw [hq] at e3
      obtain ⟨p', p1, p2, p3⟩ := hpart p _ (by omega) e2
      obtain ⟨q', q1, q2, q3⟩ := hpart q _ (by omega) e3
      unfold tsz at p3 q3 ⊢
      rw [tA_2 hV' (e1.trans hk) p1 q1 (by omega) (by omega) p2 q2 (Or.inl (by omega)) (Or.inl (by omega)), tA_2 hV hk hp hq (by omega) (by omega) h4 h5 h6 h7, p3, q3]
    · rw [hp] at e2
      rw [hq] at e3
      obtain ⟨p', p1, p2, p3⟩ := hpart p _ (by omega) e2
      have q1 := loT_m1 e3 hn (fun x hx => by have := (hL x hx).2; omega)
      unfold tsz at p3 ⊢
      rw [tA_1 hV' (e1.trans hk) p1 q1 (by omega) (by omega) p2 (Or.inl (by omega)), tA_1 hV hk hp hq (by omega) (by omega) h4 h6, p3]
theorem msz_le {Z : Nat → Int32} {k x y sx sy : Nat} (hx : 3 < k → Z x = nI sx) (hy : k = 4 ∨ k = 5 ∨ k = 6 ∨ k = 8 → Z y = nI sy) (h1 : 3 < k → 1 + sx ≤ 24) (h2 : k = 4 ∨ k = 5 ∨ k = 6 ∨ k = 8 → 1 + sx + sy ≤ 24 ∧ 1 ≤ sy) (hk : k = 4 ∨ k = 5 ∨ k = 6 ∨ k = 8 ∨ k = 7 ∨ k = 9) : msz Z k x y ≤ nI 24 := by
  have hle : ∀ a, a ≤ 24 → nI a ≤ nI 24 := fun a ha => by
    rw [Int32.le_iff_toInt_le, nI_toInt (by omega), nI_toInt (by omega)]
    omega
  unfold msz
  rw [if_neg (show ¬ k ≤ 3 by omega)]
  split
  · exact hle 2 (by omega)
  · split
    · rw [hx (by omega), hy (by omega), nI_add, nI_add]
      exact hle _ (by have := h2 (by omega); omega)
    · split
      · rw [hx (by omega), ← nI_0, nI_add, nI_add]
        exact hle _ (by have := h1 (by omega); omega)
      · rw [hx (by omega), nI_add, nI_add]
        exact hle _ (by have := h2 (by omega); omega)
/-- the next one of l may be laid -/
theorem lo_next {σ τ : kS} {n b bk k : Nat} {l : List Nat} {a c : Int32} (h : mTb σ n b) (hb : b ≤ 776) (hT : mTb τ (n + k) bk) (hG : mGr σ τ n) (hL : foL σ b l) (hK : loK σ τ n l k) (hk : k < l.length) (ha : loT l n k (σ 234 l[k]) a) (hc : loT l n k (σ 235 l[k]) c) :
    ∃ kd p q, σ 233 l[k] = nI kd ∧ 3 < kd ∧ kd ≤ 9 ∧ tNw kd a c p q (n + k) ∧ (kd = 6 ∨ kd = 8 → mAG τ (n + k) q) ∧ (kd = 7 → mAG τ (n + k) p) ∧ (3 < kd → ∀ u, u < n + k → ¬ mIs τ u (nI kd) a c) ∧ msz (τ 236) kd p q ≤ nI 24 := by
  have hn := h.1
  have hll := foL_len hL hb
  have hLx : ∀ x ∈ l, 200 ≤ x ∧ x < b := fun x hx => ⟨(hL.1 x hx).1, (hL.1 x hx).2.1⟩
  have hL1 : ∀ x ∈ l, x < 1000 := fun x hx => by have := (hLx x hx).2; omega
  have hsz := loT_sz h hb hT hG hLx hll hK
  have hV := h.2.2.2.2.2.1
  have hV' := hT.2.2.2.2.2.1
  obtain ⟨x1, x2, x3⟩ := hL.1 _ (List.getElem_mem hk)
  have hpw := List.pairwise_iff_getElem.mp hL.2.2.2
  have hag : ∀ q, mAG σ n q → mAG τ (n + k) q := fun q hq => ⟨by have := hq.1; omega, by
    rw [(hG.2.2 q hq.1).1, hG.1 240 (by decide)]
    exact hq.2⟩
  have hnum : ∀ p, p < n → tsz (τ 233) (τ 234) (τ 235) p = tsz (σ 233) (σ 234) (σ 235) p := fun p hp => tA_congr (mTb_num h) (fun u hu => ⟨(hG.2.2 u hu).1, (hG.2.2 u hu).2.1, (hG.2.2 u hu).2.2, rfl⟩) p hp
  have hpart : ∀ p w, p < 1000 → loT l n k (nI p) w → ∃ p', w = nI p' ∧ p' < n + k ∧ τ 236 p' = nI (tsz (σ 233) (σ 234) (σ 235) p) ∧ (p < n → p' = p) := by
    intro p w hp hq
    rcases hq with ⟨a1, a2⟩ | ⟨y, y1, y2, y3⟩ | ⟨i, i0, i1, i2, i3⟩
    · exact absurd a1 (nI_m1 (by omega))
    · obtain rfl : p = y := nI_inj y2
      exact ⟨p, y3, by omega, by rw [hV'.2.1 p (Or.inl (by omega)), hnum p y1], fun _ => rfl⟩
    · have hi := (hLx _ (List.getElem_mem i0))
      have : p = l[i] := nI_inj i2
      exact ⟨n + i, i3, by omega, by rw [hV'.2.1 (n + i) (Or.inl (by omega)), this, hsz i i0 i1], fun q => by omega⟩
  have huniq : ∀ kd, 3 < kd → kd ≤ 9 → σ 233 l[k] = nI kd → ∀ u, u < n + k → ¬ mIs τ u (nI kd) a c := by
    rintro kd k3 k9 hkd u hu ⟨u1, u2, u3⟩
    by_cases e : u < n
    · have hu' := hG.2.2 u e
      have hlow : ∀ v w, loT l n k v w → (w = -1 ∨ ∃ p, p < u ∧ w = nI p) → v = w := by
        rintro v w hw (rfl | ⟨p, p1, rfl⟩)
        · rcases hw with ⟨a1, a2⟩ | ⟨y, y1, y2, y3⟩ | ⟨i, i0, i1, i2, i3⟩
          · exact a1
          · exact absurd y3.symm (nI_m1 (by omega))
          · exact absurd i3.symm (nI_m1 (by omega))
        · exact loT_low hn (by omega) hw (by omega)
      have hpp : (a = -1 ∨ ∃ p, p < u ∧ a = nI p) ∧ (c = -1 ∨ ∃ p, p < u ∧ c = nI p) := by
        rw [← u2, ← u3]
        rcases (hV'.1 u (Or.inl hu)).2 with ⟨k', h3, hk', h4, h5⟩ | ⟨k', y, z, h3, hk', hy, hz2, h4, h5, h6, h7⟩ | ⟨k', y, h3, hk', hy, hz2, h4, h6⟩
        · exact ⟨Or.inl h4, Or.inl h5⟩
        · exact ⟨Or.inr ⟨y, h4, hy⟩, Or.inr ⟨z, h5, hz2⟩⟩
        · exact ⟨Or.inr ⟨y, h4, hy⟩, Or.inl hz2⟩
      have ea := hlow _ _ ha hpp.1
      have ec := hlow _ _ hc hpp.2
      have := hV.2.2 u l[k] (Or.inl e) (Or.inr ⟨x1, x2⟩) (by rw [← hu'.1, u1, fN_nI (by omega)]; exact k3) (by rw [← hu'.1, u1, hkd]) (by rw [← hu'.2.1, u2, ea]) (by rw [← hu'.2.2, u3, ec])
      omega
    · obtain ⟨j, rfl⟩ : ∃ j, u = n + j := ⟨u - n, by omega⟩
      have hjk : j < k := by omega
      have hj : j < l.length := by omega
      obtain ⟨e1, e2, e3⟩ := hK j hj hjk
      rw [u2] at e2
      rw [u3] at e3
      have f1 := loT_inj hn (by omega) ha e2
      have f2 := loT_inj hn (by omega) hc e3
      obtain ⟨y1, y2⟩ := hLx _ (List.getElem_mem hj)
      have := hV.2.2 l[j] l[k] (Or.inr ⟨y1, y2⟩) (Or.inr ⟨x1, x2⟩) (by rw [← e1, u1, fN_nI (by omega)]; exact k3) (by rw [← e1, u1, hkd]) f1.symm f2.symm
      exact hpw j k hj hk hjk this
  rcases lo_tok h x1 x2 with ⟨kd, p, q, h3, hkd, hp, hq, h4, h5, h6, h7⟩ | ⟨kd, p, h3, hkd, hp, hq, h4, h6⟩
  · have hsx : tsz (σ 233) (σ 234) (σ 235) l[k] = 1 + tsz (σ 233) (σ 234) (σ 235) p + tsz (σ 233) (σ 234) (σ 235) q := by
      unfold tsz
      rw [tA_2 hV.1 hkd hp hq (by omega) (by omega) h4 h5 h6 h7]
      rfl
    have hqp := tsz_pos hV.1 h7
    rw [hp] at ha
    rw [hq] at hc
    obtain ⟨p', p1, p2, p3, p4⟩ := hpart p _ (by omega) ha
    obtain ⟨q', q1, q2, q3, q4⟩ := hpart q _ (by omega) hc
    refine ⟨kd, p', q', hkd, by omega, by omega, Or.inr (Or.inl ⟨by omega, p1, q1, p2, q2⟩), fun e => ?_, by omega, fun k3 => huniq kd k3 (by omega) hkd, msz_le (fun _ => p3) (fun _ => q3) (fun _ => by omega) (fun _ => by omega) (by omega)⟩
    have hA : mAG σ n q := by
      rcases h3 with h3 | h3 | h3
      · omega
      · omega
      · exact h3.2
    rw [q4 hA.1]
    exact hag q hA
  · have hsx : tsz (σ 233) (σ 234) (σ 235) l[k] = 1 + tsz (σ 233) (σ 234) (σ 235) p := by
      unfold tsz
      rw [tA_1 hV.1 hkd hp hq (by omega) (by omega) h4 h6]
      rfl
    rw [hp] at ha
    rw [hq] at hc
    obtain ⟨p', p1, p2, p3, p4⟩ := hpart p _ (by omega) ha
    have q1 := loT_m1 hc hn hL1
    refine ⟨kd, p', 0, hkd, by omega, by omega, Or.inr (Or.inr ⟨by omega, p1, q1, p2⟩), by omega, fun e => ?_, fun k3 => huniq kd k3 (by omega) hkd, msz_le (sy := 0) (fun _ => p3) (fun e => by omega) (fun _ => by omega) (fun e => by omega) (by omega)⟩
    have hA : mAG σ n p := by
      rcases h3 with h3 | h3
      · omega
      · exact h3.2
    rw [p4 hA.1]
    exact hag p hA
theorem loK_new {σ τ τ' : kS} {n k kd : Nat} {l : List Nat} {a c : Int32} (hK : loK σ τ n l k) (hk : k < l.length) (hN : mNw τ τ' (n + k) kd a c) (h1 : σ 233 l[k] = nI kd) (ha : loT l n k (σ 234 l[k]) a) (hc : loT l n k (σ 235 l[k]) c) : loK σ τ' n l (k + 1) := by
  obtain ⟨z, g, nx, hd, jd, rfl, -⟩ := hN
  intro j hj hjk
  show upd (τ 233) (n + k) (nI kd) (n + j) = _ ∧ loT l n j _ (upd (τ 234) (n + k) a (n + j)) ∧ loT l n j _ (upd (τ 235) (n + k) c (n + j))
  by_cases q : j = k
  · subst q
    rw [pk_us, pk_us, pk_us]
    exact ⟨h1.symm, ha, hc⟩
  · have : n + j ≠ n + k := by omega
    rw [pk_un this, pk_un this, pk_un this]
    exact hK j hj (by omega)
end
section
/-! the reference: lasting and row -/
set_option maxRecDepth 100000 in
set_option maxHeartbeats 4000000 in
theorem mr_lo_two (L : Nat) (xs : Nat → Int32) (d : Nat) (σ : kS) (n b : Nat) (l : List Nat) (h : mTb σ n b) (hb : b ≤ 776) (hL : foL σ b l) (h200 : n + l.length ≤ 200) (NK NF NS : Nat → Int32) (hI : loI σ n l NK NF NS l.length) (tv : Int32) (Q : Option Value → kS → Prop)
    (he : ∀ τ, mGr σ τ n → loK σ τ n l l.length → (0 < l.length → mTb τ (n + l.length) 200 ∧ τ 232 47 = 0) → kX kT L xs (d + 4) 203 179 [(0, .ref 232), (1, .int tv)] [] τ Q) :
    ∀ q : Nat × kS, (q.1 ≤ l.length ∧ (∃ bk, mTb q.2 (n + q.1) bk) ∧ mGr σ q.2 n ∧ q.2 281 = NK ∧ q.2 282 = NF ∧ q.2 283 = NS ∧ loK σ q.2 n l q.1 ∧ (0 < q.1 → mTb q.2 (n + q.1) 200 ∧ q.2 232 47 = 0)) → kX kT L xs (d + 4) 203 131 [(4, .int (nI q.1)), (0, .ref 232), (1, .int tv), (2, .int (nI l.length)), (3, .int (nI n))] [] q.2 Q := by
  refine kX_while (fun q : Nat × kS => [(4, .int (nI q.1)), (0, .ref 232), (1, .int tv), (2, .int (nI l.length)), (3, .int (nI n))]) (fun q => q.2) _ (fun q => l.length - q.1) ?_
  rintro ⟨k, τ⟩ ⟨i1, ⟨bk, i2⟩, i3, i4, i5, i6, i7, i8⟩ ih
  dsimp only at i1 i2 i3 i4 i5 i6 i7 i8 ih ⊢
  have hn := h.1
  iterate 2 (refine kX_one rfl ?_)
  repeat refine kX_one rfl ?_
  refine kX_if (fun q => ?_) (fun q => ?_)
  · have q := qge q k l.length
    have : k = l.length := by omega
    subst this
    exact kX_lv _ rfl rfl rfl (he τ i3 i7 i8)
  · have q := qgeF q k l.length
    obtain ⟨g1, g2, g3⟩ := hI k q q
    have ha := loT_of hn (by omega) g2
    have hc := loT_of hn (by omega) g3
    obtain ⟨kd, x, y, n1, n2, n3, n4, n5, n6, n7, n8⟩ := lo_next h hb i2 i3 hL i7 q ha hc
    have hlast := mr_last L xs d τ (n + k) bk kd _ _ x y i2 (by omega) n4 n5 n6 n7 n8
    iterate 4 (refine kX_one rfl ?_)
    refine kX_ialdV rfl rfl (by decide) (k) (by first | rfl | decide) (by omega) (by rw [i4, g1, n1]) ?_
    iterate 4 (refine kX_one rfl ?_)
    refine kX_ialdV rfl rfl (by decide) (k) (by first | rfl | decide) (by omega) (by rw [i5]) ?_
    iterate 1 (refine kX_one rfl ?_)
    refine kX_cal (mr_lastOf L xs (d + 2) τ (NF k) (nI n)) rfl (Or.inr rfl) rfl rfl rfl (fun r1 σ1 q1 => ?_)
    obtain ⟨rfl, rfl⟩ := q1
    iterate 4 (refine kX_one rfl ?_)
    refine kX_ialdV rfl rfl (by decide) (k) (by first | rfl | decide) (by omega) (by rw [i6]) ?_
    iterate 1 (refine kX_one rfl ?_)
    refine kX_cal (mr_lastOf L xs (d + 2) τ (NS k) (nI n)) rfl (Or.inr rfl) rfl rfl rfl (fun r1 σ1 q1 => ?_)
    obtain ⟨rfl, rfl⟩ := q1
    refine kX_cal hlast rfl (Or.inr rfl) rfl rfl rfl (fun r1 σ1 q1 => ?_)
    obtain ⟨rfl, hN⟩ := q1
    have hN : mNw τ σ1 (n + k) kd _ _ := hN
    have hG2 := mGr_new hN
    have hrt := mNw_rit hN
    have hK2 := loK_new i7 q hN n1 ha hc
    have hcc : ∀ c, c = 281 ∨ c = 282 ∨ c = 283 → σ1 c = τ c := by
      obtain ⟨z, g, nx, hd, jd, rfl, -⟩ := hN
      rintro c (rfl | rfl | rfl) <;> rfl
    have hT2 : mTb σ1 (n + k + 1) 200 := by
      obtain ⟨z, g, nx, hd, jd, -, hT⟩ := hN
      exact hT
    iterate 3 (refine kX_one rfl ?_)
    have := ih (k + 1, σ1) ⟨by simp only; omega, ⟨200, hT2⟩, mGr_trans i3 hG2 (by omega), (hcc _ (Or.inl rfl)).trans i4, (hcc _ (Or.inr (Or.inl rfl))).trans i5, (hcc _ (Or.inr (Or.inr rfl))).trans i6, hK2, fun _ => ⟨hT2, hrt⟩⟩ (by simp only; omega)
    dsimp only at this
    rw [← nI_1] at this
    exact kX_lv _ rfl rfl rfl this
/-- what order is found by changes nothing else -/
theorem mI_fo {σ : kS} {n b R S C : Nat} {kl : List Nat} {W I O : Nat → Int32} {m : Int32} (h : mI σ n b R S C kl) : mI (foS σ W I O m) n b R S C kl := by
  obtain ⟨g1, g2, g3, g4, g5, g6, g7⟩ := h
  refine ⟨g1, g2, g3, g4, g5, ?_, g7⟩
  rcases g6 with g6 | ⟨g6, ds, d1, d2, d3⟩
  · exact Or.inl g6
  · refine Or.inr ⟨g6, ds, d1, d2, ?_⟩
    rcases d3 with d3 | ⟨d3, d4, l, l1, l2, l3⟩
    · exact Or.inl d3
    · refine Or.inr ⟨d3, d4, l, l1, l2, ?_⟩
      rw [trRun_eq (σ := σ) (τ := foS σ W I O m) ⟨rfl, rfl, rfl, rfl, rfl, rfl, rfl, rfl, rfl⟩, ← l3]
      rfl
theorem mI_lo {σ : kS} {n b R S C : Nat} {kl : List Nat} {W I O : Nat → Int32} (h : mI σ n b R S C kl) : mI (loS σ W I O) n b R S C kl := by
  obtain ⟨g1, g2, g3, g4, g5, g6, g7⟩ := h
  refine ⟨g1, g2, g3, g4, g5, ?_, g7⟩
  rcases g6 with g6 | ⟨g6, ds, d1, d2, d3⟩
  · exact Or.inl g6
  · refine Or.inr ⟨g6, ds, d1, d2, ?_⟩
    rcases d3 with d3 | ⟨d3, d4, l, l1, l2, l3⟩
    · exact Or.inl d3
    · refine Or.inr ⟨d3, d4, l, l1, l2, ?_⟩
      rw [trRun_eq (σ := σ) (τ := loS σ W I O) ⟨rfl, rfl, rfl, rfl, rfl, rfl, rfl, rfl, rfl⟩, ← l3]
      rfl
end
section
/-! how large what comes in a row may be -/
def vsz : Jvm.Term → Nat
  | .add a b => 1 + vsz a + vsz b
  | .sub a b => 1 + vsz a + vsz b
  | .mul a b => 1 + vsz a + vsz b
  | .div a b => 1 + vsz a + vsz b
  | .length a => 1 + vsz a
  | .sum a => 1 + vsz a
  | _ => 1
theorem vsz_nd2 (k : Nat) (a b : Jvm.Term) : vsz (vnd k a (some b)) = 1 + vsz a + vsz b := by
  unfold vnd
  dsimp only
  repeat' split
  all_goals rfl
theorem vsz_nd1 (k : Nat) (a : Jvm.Term) : vsz (vnd k a none) = 1 + vsz a := by
  unfold vnd
  dsimp only
  repeat' split
  all_goals rfl
theorem vsz_tvl {V AG : Nat → Prop} {K F S : Nat → Int32} (hV : ∀ t, V t → t < 100000 ∧ tOk V AG K F S t) : ∀ t, V t → vsz (tvl K F S t) = tsz K F S t := by
  intro t
  induction t using Nat.strongRecOn with
  | _ t ih =>
    intro ht
    rcases (hV t ht).2 with ⟨k, h3, hk, -, -⟩ | ⟨k, x, y, h3, hk, hx, hy, h4, h5, h6, h7⟩ | ⟨k, x, h3, hk, hx, hy, h4, h6⟩
    · unfold tvl tsz
      rw [tA_0 hk h3, tA_0 hk h3]
      rfl
    · have ix := ih x h4 h6
      have iy := ih y h5 h7
      unfold tvl tsz at ix iy ⊢
      rw [tA_2 hV hk hx hy (by omega) (by omega) h4 h5 h6 h7, tA_2 hV hk hx hy (by omega) (by omega) h4 h5 h6 h7, vsz_nd2, ix, iy]
      rfl
    · have ix := ih x h4 h6
      unfold tvl tsz at ix ⊢
      rw [tA_1 hV hk hx hy (by omega) (by omega) h4 h6, tA_1 hV hk hx hy (by omega) (by omega) h4 h6, vsz_nd1, ix]
      rfl
theorem vsz_tin {σ : kS} {n b s : Nat} (h : mTb σ n b) : ∀ t, t < n → mSt σ n s t → vsz (tin σ s t) ≤ 24 * tsz (σ 233) (σ 234) (σ 235) t := by
  have hV := mTb_num h
  have h24 := h.2.2.2.2.2.2.2.2.2
  intro t
  induction t using Nat.strongRecOn with
  | _ t ih =>
    intro ht hS
    rcases (hV t ht).2 with ⟨k, h3, hk, -, -⟩ | ⟨k, x, y, h3, hk, hx, hy, h4, h5, h6, h7⟩ | ⟨k, x, h3, hk, hx, hy, h4, h6⟩
    · have e1 : tsz (σ 233) (σ 234) (σ 235) t = 1 := by
        unfold tsz
        rw [tA_0 hk h3]
      have e2 : tin σ s t = if σ 233 t = nI 3 then tvl (σ 233) (σ 234) (σ 235) (mVl σ s t) else .arg t := tA_0 hk h3
      rw [e1, e2]
      split
      · next e =>
        have e3 : tvs (σ 233) (σ 234) (σ 235) t = [t] := by
          unfold tvs
          rw [tA_0 hk h3, if_pos e]
        obtain ⟨p, z, z1, z2, z3, z4, -⟩ := hS t (by rw [e3]; simp)
        have hn := h.1
        have : mVl σ s t = z := by
          unfold mVl
          rw [z3, fN_nI (by omega), z4, fN_nI (by omega)]
        rw [this, vsz_tvl hV z z2]
        have := h24 z z2
        omega
      · show 1 ≤ _
        omega
    · have e1 : tsz (σ 233) (σ 234) (σ 235) t = 1 + tsz (σ 233) (σ 234) (σ 235) x + tsz (σ 233) (σ 234) (σ 235) y := by
        unfold tsz
        rw [tA_2 hV hk hx hy (by omega) (by omega) h4 h5 h6 h7]
        rfl
      have e2 : tin σ s t = vnd k (tin σ s x) (some (tin σ s y)) := tA_2 hV hk hx hy (by omega) (by omega) h4 h5 h6 h7
      have e3 : tvs (σ 233) (σ 234) (σ 235) t = tvs (σ 233) (σ 234) (σ 235) x ++ tvs (σ 233) (σ 234) (σ 235) y := by
        unfold tvs
        rw [tA_2 hV hk hx hy (by omega) (by omega) h4 h5 h6 h7]
        rfl
      have ix := ih x h4 h6 (fun u hu => hS u (by rw [e3]; exact List.mem_append_left _ hu))
      have iy := ih y h5 h7 (fun u hu => hS u (by rw [e3]; exact List.mem_append_right _ hu))
      rw [e1, e2, vsz_nd2]
      omega
    · have e1 : tsz (σ 233) (σ 234) (σ 235) t = 1 + tsz (σ 233) (σ 234) (σ 235) x := by
        unfold tsz
        rw [tA_1 hV hk hx hy (by omega) (by omega) h4 h6]
        rfl
      have e2 : tin σ s t = vnd k (tin σ s x) none := tA_1 hV hk hx hy (by omega) (by omega) h4 h6
      have e3 : tvs (σ 233) (σ 234) (σ 235) t = tvs (σ 233) (σ 234) (σ 235) x := by
        unfold tvs
        rw [tA_1 hV hk hx hy (by omega) (by omega) h4 h6]
        exact List.append_nil _
      have ix := ih x h4 h6 (fun u hu => hS u (by rw [e3]; exact hu))
      rw [e1, e2, vsz_nd1]
      omega
/-- all of a row of trees are at most so large -/
def trB (l : trT) : Prop := ∀ q ∈ l, vsz q.1 ≤ 576
theorem trB_A {l : trT} {g : Jvm.Term} {w p : Int32} (h : trB l) (hg : vsz g ≤ 576) : trB (trA l g w p) := by
  unfold trA cit
  split
  · exact h
  · intro q hq
    rcases List.mem_append.mp hq with hq | hq
    · exact h q hq
    · rw [List.mem_singleton] at hq
      subst hq
      exact hg
theorem trB_K {A : Nat → Prop} {H : Nat → Int32} {l : trT} {p : Nat} (h : trB l) : trB (trK A H l p) := by
  unfold trK
  split
  · next a b c e =>
    have := h _ (List.mem_of_getElem? e)
    have e2 : vsz (Jvm.Term.add a b) = 1 + vsz a + vsz b := rfl
    rw [e2] at this
    exact trB_A (trB_A h (by omega)) (by omega)
  · next a b c e =>
    have := h _ (List.mem_of_getElem? e)
    have e2 : vsz (Jvm.Term.sub a b) = 1 + vsz a + vsz b := rfl
    rw [e2] at this
    unfold cit
    split
    · exact trB_A h (by omega)
    · exact h
  · next a b c e =>
    have := h _ (List.mem_of_getElem? e)
    have e2 : vsz (Jvm.Term.mul a b) = 1 + vsz a + vsz b := rfl
    rw [e2] at this
    unfold cit
    split
    · exact trB_A h (by omega)
    · exact h
  · next a b c e =>
    have := h _ (List.mem_of_getElem? e)
    have e2 : vsz (Jvm.Term.div a b) = 1 + vsz a + vsz b := rfl
    rw [e2] at this
    exact trB_A h (by omega)
  · exact h
theorem trB_P {A : Nat → Prop} {H : Nat → Int32} : ∀ (f p : Nat) (l : trT), trB l → trB (trP A H f p l)
  | 0, _, _, h => h
  | f + 1, p, l, h => by
    unfold trP
    split
    · exact trB_P f _ _ (trB_K h)
    · exact h
theorem trB_E {A : Nat → Prop} {H : Nat → Int32} : ∀ (f : Nat) (l : trT), trB l → trB (trE A H f l)
  | 0, _, h => h
  | f + 1, l, h => by
    unfold trE
    split
    · exact trB_E f _ (trB_P _ _ _ h)
    · exact trB_P _ _ _ h
theorem trB_Kn {σ : kS} {n b : Nat} {kl : List Nat} (h : mTb σ n b) (hK : mKn σ n kl) : trB (trKn σ kl) := by
  have hV := mTb_num h
  have h24 := h.2.2.2.2.2.2.2.2.2
  have key : ∀ (kl : List Nat) (l : trT), (∀ t ∈ kl, t < n) → trB l → trB (kl.foldl (fun l t => trA l (tvl (σ 233) (σ 234) (σ 235) t) (nI 0) (-6)) l) := by
    intro kl
    induction kl with
    | nil => exact fun l _ hl => hl
    | cons a kl ih =>
      intro l hk hl
      have ha := hk a List.mem_cons_self
      refine ih _ (fun t ht => hk t (List.mem_cons_of_mem _ ht)) (trB_A hl ?_)
      rw [vsz_tvl hV a ha]
      have := h24 a ha
      omega
  exact key kl [] (fun t ht => (hK.2.2.2 t ht).1) (fun q hq => (by cases hq))
theorem trB_Sn {σ : kS} {n b R S : Nat} {ds : List Nat} {tr : trT} (h : mTb σ n b) (hR : mRo σ n R) (hS : mRn σ n R S ds) (ht : trB tr) : ∀ k, k ≤ ds.length → trB (trSn σ ds tr k)
  | 0, _ => ht
  | k + 1, hk => by
    have hn := h.1
    have hR4 := hR.1
    have ih := trB_Sn h hR hS ht k (by omega)
    have hkl : k < ds.length := hk
    have hgd : ds.getD k 0 = ds[k] := by rw [List.getD_eq_getElem?_getD, List.getElem?_eq_getElem hkl]; rfl
    obtain ⟨r, r1, r2, r3, r4, r5, r6, -⟩ := hS.2.2.2 _ (hS.2.2.1 _ (List.getElem_mem hkl))
    have hcnt : (ds.take k).count ds[k] < ds.count ds[k] := by
      have := count_take_le ds ds[k] (k + 1)
      rw [List.take_succ_eq_append_getElem hkl, List.count_append] at this
      simp at this
      omega
    have hmev2 : mEv σ ds[k] ((ds.take k).count ds[k]) = 6 * r + (ds.take k).count ds[k] := by
      unfold mEv
      rw [r2, fN_nI (by omega)]
    obtain ⟨t, t1, t2, -⟩ := hR.2.2.2.2.2 r ((ds.take k).count ds[k]) r1 (by omega)
    have hst := r6 _ hcnt
    rw [trSn, hgd, hmev2]
    rw [t2, fN_nI (by omega)] at hst ⊢
    unfold cit
    split
    · refine trB_A ih ?_
      have h1 := vsz_tin h t t1 hst
      have h2 := h.2.2.2.2.2.2.2.2.2 t t1
      omega
    · exact ih
theorem trB_run {σ : kS} {n b R S : Nat} {kl ds : List Nat} (h : mTb σ n b) (hR : mRo σ n R) (hK : mKn σ n kl) (hS : mRn σ n R S ds) : trB (trRun σ kl ds) := trB_E _ _ (trB_Sn h hR hS (trB_Kn h hK) _ (Nat.le_refl _))
/-- .. so the TERMS of the row are -/
theorem rwM_sz {σ ρ : kS} {n b R S n' b' : Nat} {kl ds : List Nat} {l : rwT} (h : mTb σ n b) (hR : mRo σ n R) (hK : mKn σ n kl) (hS : mRn σ n R S ds) (hT : mTb ρ n' b') (e : rwM ρ l = trRun σ kl ds) {t : Nat} (hi : rwI l t) (hv : mv n' b' t) : tsz (ρ 233) (ρ 234) (ρ 235) t ≤ 576 := by
  have hb := trB_run h hR hK hS
  rw [← e] at hb
  obtain ⟨q, hq, rfl⟩ := hi
  have := hb _ (List.mem_map.mpr ⟨q, hq, rfl⟩)
  rw [vsz_tvl hT.2.2.2.2.2.1.1 _ hv] at this
  exact this
end
section
/-! the reference: takeState, isThere -/
theorem ix24 (i s k : Nat) : (Int8.ofInt 24).toInt32 * nI i + (Int8.ofInt 6).toInt32 * nI s + nI k = nI (24 * i + 6 * s + k) := by
  rw [show (Int8.ofInt 24).toInt32 = nI 24 from rfl, show (Int8.ofInt 6).toInt32 = nI 6 from rfl, pk_mul, pk_mul, nI_add, nI_add]
set_option maxRecDepth 100000 in
set_option maxHeartbeats 4000000 in
theorem mr_takeState (L : Nat) (xs : Nat → Int32) (d : Nat) (σ : kS) (S i : Nat) (hS : σ 232 27 = nI S) (hS4 : S ≤ 4) (hi : i < 600) : kXM kT L xs (d + 1) 210 [.ref 232, .int (nI i)] σ (fun r σ' => r = none ∧ ∃ D V, σ' = va_up (va_up σ 264 D) 265 V ∧ (∀ s, s < S → D s = σ 284 (4 * i + s)) ∧ ∀ s k, s < S → k < 6 → V (6 * s + k) = σ 285 (24 * i + 6 * s + k)) := by
  unfold kXM
  iterate 2 (refine kX_one rfl ?_)
  have loopA := kX_while (T := kT) (L := L) (xs := xs) (d := d + 1) (mi := 210) (pc := 2) (Q := fun r σ' => r = none ∧ ∃ D V, σ' = va_up (va_up σ 264 D) 265 V ∧ (∀ s, s < S → D s = σ 284 (4 * i + s)) ∧ ∀ s k, s < S → k < 6 → V (6 * s + k) = σ 285 (24 * i + 6 * s + k))
    (fun q : Nat × (Nat → Int32) × (Nat → Int32) => [(2, .int (nI q.1)), (0, .ref 232), (1, .int (nI i))]) (fun q => va_up (va_up σ 264 q.2.1) 265 q.2.2) (fun q => q.1 ≤ S ∧ (∀ s, s < q.1 → q.2.1 s = σ 284 (4 * i + s)) ∧ (∀ s k, s < q.1 → k < 6 → q.2.2 (6 * s + k) = σ 285 (24 * i + 6 * s + k))) (fun q => S - q.1) ?_ (0, σ 264, σ 265) ⟨Nat.zero_le _, fun s hs => absurd hs (Nat.not_lt_zero s), fun s k hs => absurd hs (Nat.not_lt_zero s)⟩
  · refine kX_to _ _ rfl rfl rfl ?_ loopA
    funext c; first
      | ((repeat (refine va_case ?_ ?_; (· (intro h; first | (subst h; rfl) | (unfold va_up; repeat' split; (all_goals first | rfl | omega | (subst_vars; rfl) | (funext j; unfold upd; repeat' split; all_goals first | rfl | omega | (subst_vars; rfl)))))); intro h)); (repeat (refine va_case2 ?_ ?_; (· (intro h; first | exact absurd h (by assumption) | (subst h; rfl) | (subst h; funext j; unfold upd; repeat' split; (all_goals first | rfl | omega | (subst_vars; rfl))))); intro h)); rfl)
      | (unfold va_up; repeat' split
         all_goals first | rfl | omega | (subst_vars; rfl) | (funext j; unfold upd; repeat' split; all_goals first | rfl | omega | (subst_vars; rfl)))
  · rintro ⟨s, D, V⟩ ⟨i1, i2, i3⟩ ih
    dsimp only at i1 i2 i3 ih ⊢
    have loopB : s < S → ∀ q : Nat × (Nat → Int32), (q.1 ≤ 6 ∧ (∀ s' k, s' < s → k < 6 → q.2 (6 * s' + k) = σ 285 (24 * i + 6 * s' + k)) ∧ ∀ k, k < q.1 → q.2 (6 * s + k) = σ 285 (24 * i + 6 * s + k)) → kX kT L xs (d + 1) 210 28 [(3, .int (nI q.1)), (2, .int (nI s)), (0, .ref 232), (1, .int (nI i))] [] (va_up (va_up σ 264 (upd D s (σ 284 (4 * i + s)))) 265 q.2) (fun r σ' => r = none ∧ ∃ D V, σ' = va_up (va_up σ 264 D) 265 V ∧ (∀ s, s < S → D s = σ 284 (4 * i + s)) ∧ ∀ s k, s < S → k < 6 → V (6 * s + k) = σ 285 (24 * i + 6 * s + k)) := by
      intro hsS
      refine kX_while (fun q : Nat × (Nat → Int32) => [(3, .int (nI q.1)), (2, .int (nI s)), (0, .ref 232), (1, .int (nI i))]) (fun q => va_up (va_up σ 264 (upd D s (σ 284 (4 * i + s)))) 265 q.2) _ (fun q => 6 - q.1) ?_
      rintro ⟨k, V2⟩ ⟨j1, j2, j3⟩ ih2
      dsimp only at j1 j2 j3 ih2 ⊢
      repeat refine kX_one rfl ?_
      refine kX_if (fun q2 => ?_) (fun q2 => ?_)
      · have q2 := qge q2 k 6
        obtain rfl : k = 6 := by omega
        iterate 2 (refine kX_one rfl ?_)
        have := ih (s + 1, upd D s (σ 284 (4 * i + s)), V2) ⟨by simp only; omega, fun s' hs' => by
          simp only at hs' ⊢
          by_cases e : s' = s
          · subst e
            exact pk_us
          · rw [pk_un e]
            exact i2 s' (by omega), fun s' k hs' hk => by
          simp only at hs' ⊢
          by_cases e : s' = s
          · subst e
            exact j3 k hk
          · exact j2 s' k (by omega) hk⟩ (by simp only; omega)
        rw [← nI_1] at this
        exact kX_lv _ rfl rfl rfl this
      · have q2 := qgeF q2 k 6
        repeat refine kX_one rfl ?_
        refine kX_ialdN rfl rfl (by decide) (24 * i + 6 * s + k) (ix24 i s k) (by omega) ?_
        refine kX_iastN rfl rfl (by decide) (6 * s + k) (ix6 s k) (by omega) ?_
        iterate 2 (refine kX_one rfl ?_)
        have := ih2 (k + 1, upd V2 (6 * s + k) (σ 285 (24 * i + 6 * s + k))) ⟨by simp only; omega, fun s' k' hs' hk' => by
          simp only
          rw [pk_un (by omega)]
          exact j2 s' k' hs' hk', fun k' hk' => by
          simp only at hk' ⊢
          by_cases e : k' = k
          · subst e
            exact pk_us
          · rw [pk_un (by omega)]
            exact j3 k' (by omega)⟩ (by simp only; omega)
        dsimp only at this
        rw [← nI_1] at this
        refine kX_to _ _ rfl rfl rfl ?_ this
        funext c; first
          | ((repeat (refine va_case ?_ ?_; (· (intro h; first | (subst h; rfl) | (unfold va_up; repeat' split; (all_goals first | rfl | omega | (subst_vars; rfl) | (funext j; unfold upd; repeat' split; all_goals first | rfl | omega | (subst_vars; rfl)))))); intro h)); (repeat (refine va_case2 ?_ ?_; (· (intro h; first | exact absurd h (by assumption) | (subst h; rfl) | (subst h; funext j; unfold upd; repeat' split; (all_goals first | rfl | omega | (subst_vars; rfl))))); intro h)); rfl)
          | (unfold va_up; repeat' split
             all_goals first | rfl | omega | (subst_vars; rfl) | (funext j; unfold upd; repeat' split; all_goals first | rfl | omega | (subst_vars; rfl)))
    iterate 3 (refine kX_one rfl ?_)
    refine kX_top (hS) ?_
    repeat refine kX_one rfl ?_
    refine kX_if (fun q => ?_) (fun q => ?_)
    · have q := qge q s S
      obtain rfl : s = S := by omega
      refine kX_ret (i := .return_) (len := 1) rfl (Or.inr rfl) rfl (⟨rfl, D, V, rfl, i2, i3⟩)
    · have q := qgeF q s S
      repeat refine kX_one rfl ?_
      refine kX_ialdN rfl rfl (by decide) (4 * i + s) (ix4 i s) (by omega) ?_
      refine kX_iastN rfl rfl (by decide) (s) (by first | rfl | decide) (by omega) ?_
      iterate 2 (refine kX_one rfl ?_)
      have := loopB q (0, V) ⟨Nat.zero_le _, i3, fun k hk => absurd hk (Nat.not_lt_zero k)⟩
      refine kX_to _ _ rfl rfl rfl ?_ this
      funext c; first
        | ((repeat (refine va_case ?_ ?_; (· (intro h; first | (subst h; rfl) | (unfold va_up; repeat' split; (all_goals first | rfl | omega | (subst_vars; rfl) | (funext j; unfold upd; repeat' split; all_goals first | rfl | omega | (subst_vars; rfl)))))); intro h)); (repeat (refine va_case2 ?_ ?_; (· (intro h; first | exact absurd h (by assumption) | (subst h; rfl) | (subst h; funext j; unfold upd; repeat' split; (all_goals first | rfl | omega | (subst_vars; rfl))))); intro h)); rfl)
        | (unfold va_up; repeat' split
           all_goals first | rfl | omega | (subst_vars; rfl) | (funext j; unfold upd; repeat' split; all_goals first | rfl | omega | (subst_vars; rfl)))
end
section
/-! the reference: isOfSort, nextOf, howMany -/
/-- the VARIABLE's TERM v may stand for the TERM t -/
def ofs (σ : kS) (v t : Nat) : Prop := tgd (σ 233) (σ 234) (σ 235) t = true ∧ (σ 240 v = nI 3 ∨ σ 233 t = σ 240 v)
set_option maxRecDepth 100000 in
set_option maxHeartbeats 4000000 in
theorem mr_isOfSort (L : Nat) (xs : Nat → Int32) (d : Nat) (σ : kS) (n b t v : Nat) (h : mTb σ n b) (ht : t < n) (hv : v < 200) : kXM kT L xs (d + 1) 214 [.ref 232, .int (nI t), .int (nI v)] σ (fun r σ' => r = some (.int (isB (ofs σ v t))) ∧ σ = σ') := by
  have hn := h.1
  unfold kXM
  repeat refine kX_one rfl ?_
  refine kX_baldV rfl rfl (by decide) (t) (by first | rfl | decide) (by omega) (h.2.2.2.2.2.2.1 t (Or.inl ht)) ?_
  repeat refine kX_one rfl ?_
  refine kX_if (fun q => ?_) (fun q => ?_)
  · have q := (bI_eq _).mp (qeq q)
    repeat refine kX_one rfl ?_
    refine kX_ret (i := .ireturn) (len := 1) rfl (Or.inr rfl) rfl (⟨by rw [isB_F (fun z => by have := z.1; rw [q] at this; cases this)]; rfl, rfl⟩)
  · have q := (bI_ne _).mp (qeqF q)
    iterate 3 (refine kX_one rfl ?_)
    refine kX_ialdN rfl rfl (by decide) (v) (by first | rfl | decide) (hv) ?_
    repeat refine kX_one rfl ?_
    refine kX_if (fun q2 => ?_) (fun q2 => ?_)
    · have q2 : σ 240 v = nI 3 := qeq q2
      repeat refine kX_one rfl ?_
      refine kX_ret (i := .ireturn) (len := 1) rfl (Or.inr rfl) rfl (⟨by rw [isB_T ⟨q, Or.inl q2⟩]; rfl, rfl⟩)
    · have q2 : σ 240 v ≠ nI 3 := qeqF q2
      iterate 3 (refine kX_one rfl ?_)
      refine kX_ialdN rfl rfl (by decide) (t) (by first | rfl | decide) (by omega) ?_
      iterate 3 (refine kX_one rfl ?_)
      refine kX_ialdN rfl rfl (by decide) (v) (by first | rfl | decide) (hv) ?_
      repeat refine kX_one rfl ?_
      refine kX_if (fun q3 => ?_) (fun q3 => ?_)
      · have q3 : σ 233 t ≠ σ 240 v := qne q3
        repeat refine kX_one rfl ?_
        refine kX_ret (i := .ireturn) (len := 1) rfl (Or.inr rfl) rfl (⟨by rw [isB_F (fun z => z.2.elim q2 q3)]; rfl, rfl⟩)
      · have q3 : σ 233 t = σ 240 v := qneF q3
        repeat refine kX_one rfl ?_
        refine kX_ret (i := .ireturn) (len := 1) rfl (Or.inr rfl) rfl (⟨by rw [isB_T ⟨q, Or.inr q3⟩]; rfl, rfl⟩)
/-- the first such TERM from t on -/
def nxo (σ : kS) (n v t : Nat) (r : Option Value) : Prop := (r = some (.int (-1)) ∧ ∀ z, t ≤ z → z < n → ¬ ofs σ v z) ∨ ∃ z, t ≤ z ∧ z < n ∧ ofs σ v z ∧ (∀ y, t ≤ y → y < z → ¬ ofs σ v y) ∧ r = some (.int (nI z))
set_option maxRecDepth 100000 in
set_option maxHeartbeats 4000000 in
theorem mr_nextOf (L : Nat) (xs : Nat → Int32) (d : Nat) (σ : kS) (n b v t : Nat) (h : mTb σ n b) (hv : v < 200) (ht : t ≤ n) : kXM kT L xs (d + 2) 215 [.ref 232, .int (nI v), .int (nI t)] σ (fun r σ' => nxo σ n v t r ∧ σ = σ') := by
  have hn := h.1
  unfold kXM
  have loop : ∀ k : Nat, (t ≤ k ∧ k ≤ n ∧ ∀ y, t ≤ y → y < k → ¬ ofs σ v y) → kX kT L xs (d + 2) 215 2 [(3, .int (nI k)), (0, .ref 232), (1, .int (nI v)), (2, .int (nI t))] [] σ (fun r σ' => nxo σ n v t r ∧ σ = σ') := by
    refine kX_while (fun k : Nat => [(3, .int (nI k)), (0, .ref 232), (1, .int (nI v)), (2, .int (nI t))]) (fun _ => σ) _ (fun k => n - k) ?_
    rintro k ⟨k1, k2, k3⟩ ih
    iterate 3 (refine kX_one rfl ?_)
    refine kX_top (h.2.2.2.1) ?_
    repeat refine kX_one rfl ?_
    refine kX_if (fun q => ?_) (fun q => ?_)
    · have q := qge q k n
      obtain rfl : k = n := by omega
      iterate 3 (refine kX_one rfl ?_)
      refine kX_top (h.2.2.2.1) ?_
      repeat refine kX_one rfl ?_
      refine kX_if (fun q2 => ?_) (fun q2 => ?_)
      · repeat refine kX_one rfl ?_
        refine kX_ret (i := .ireturn) (len := 1) rfl (Or.inr rfl) rfl (⟨Or.inl ⟨rfl, fun z z1 z2 => k3 z z1 z2⟩, rfl⟩)
      · have q2 := qgeF q2 k k
        omega
    · have q := qgeF q k n
      iterate 3 (refine kX_one rfl ?_)
      refine kX_cal (mr_isOfSort L xs d σ n b k v h q hv) rfl (Or.inr rfl) rfl rfl rfl (fun r1 σ1 q1 => ?_)
      obtain ⟨rfl, rfl⟩ := q1
      repeat refine kX_one rfl ?_
      refine kX_if (fun q2 => ?_) (fun q2 => ?_)
      · have q2 := isB_ne.mp (qne q2)
        iterate 3 (refine kX_one rfl ?_)
        refine kX_top (h.2.2.2.1) ?_
        repeat refine kX_one rfl ?_
        refine kX_if (fun q3 => ?_) (fun q3 => ?_)
        · have q3 := qge q3 k n
          omega
        · repeat refine kX_one rfl ?_
          refine kX_ret (i := .ireturn) (len := 1) rfl (Or.inr rfl) rfl (⟨Or.inr ⟨k, k1, q, q2, k3, rfl⟩, rfl⟩)
      · have q2 : ¬ ofs σ v k := fun z => isB_ne.mpr z (qneF q2)
        iterate 2 (refine kX_one rfl ?_)
        have := ih (k + 1) ⟨by omega, q, fun y y1 y2 => by
          by_cases e : y = k
          · subst e
            exact q2
          · exact k3 y y1 (by omega)⟩ (by omega)
        rw [← nI_1] at this
        exact kX_lv _ rfl rfl rfl this
  iterate 2 (refine kX_one rfl ?_)
  exact kX_lv _ rfl rfl rfl (loop t ⟨Nat.le_refl _, ht, fun y y1 y2 => absurd y2 (by omega)⟩)
set_option maxRecDepth 100000 in
set_option maxHeartbeats 4000000 in
theorem mr_howMany (L : Nat) (xs : Nat → Int32) (d : Nat) (σ : kS) (n b v : Nat) (h : mTb σ n b) (hv : v < 200) : kXM kT L xs (d + 2) 216 [.ref 232, .int (nI v)] σ (fun r σ' => r = some (.int (nI (cnt (ofs σ v) n))) ∧ σ = σ') := by
  have hn := h.1
  unfold kXM
  have loop : ∀ k : Nat, k ≤ n → kX kT L xs (d + 2) 216 4 [(3, .int (nI k)), (2, .int (nI (cnt (ofs σ v) k))), (0, .ref 232), (1, .int (nI v))] [] σ (fun r σ' => r = some (.int (nI (cnt (ofs σ v) n))) ∧ σ = σ') := by
    refine kX_while (fun k : Nat => [(3, .int (nI k)), (2, .int (nI (cnt (ofs σ v) k))), (0, .ref 232), (1, .int (nI v))]) (fun _ => σ) (fun k => k ≤ n) (fun k => n - k) ?_
    intro k k2 ih
    iterate 3 (refine kX_one rfl ?_)
    refine kX_top (h.2.2.2.1) ?_
    repeat refine kX_one rfl ?_
    refine kX_if (fun q => ?_) (fun q => ?_)
    · have q := qge q k n
      obtain rfl : k = n := by omega
      repeat refine kX_one rfl ?_
      refine kX_ret (i := .ireturn) (len := 1) rfl (Or.inr rfl) rfl (⟨rfl, rfl⟩)
    · have q := qgeF q k n
      have k27 : ∀ m, cnt (ofs σ v) (k + 1) = cnt (ofs σ v) k + m → kX kT L xs (d + 2) 216 27 [(3, .int (nI k)), (2, .int (nI (cnt (ofs σ v) k))), (0, .ref 232), (1, .int (nI v))] [.int (nI m), .int (nI (cnt (ofs σ v) k))] σ (fun r σ' => r = some (.int (nI (cnt (ofs σ v) n))) ∧ σ = σ') := by
        intro m hm
        iterate 4 (refine kX_one rfl ?_)
        have := ih (k + 1) q (by omega)
        rw [← nI_1, hm, ← nI_add] at this
        exact kX_lv _ rfl rfl rfl this
      iterate 4 (refine kX_one rfl ?_)
      refine kX_cal (mr_isOfSort L xs d σ n b k v h q hv) rfl (Or.inr rfl) rfl rfl rfl (fun r1 σ1 q1 => ?_)
      obtain ⟨rfl, rfl⟩ := q1
      repeat refine kX_one rfl ?_
      refine kX_if (fun q2 => ?_) (fun q2 => ?_)
      · have q2 : ¬ ofs σ v k := fun z => isB_ne.mpr z (qeq q2)
        iterate 1 (refine kX_one rfl ?_)
        exact k27 0 (by rw [cnt, if_neg q2])
      · have q2 := isB_ne.mp (qeqF q2)
        iterate 2 (refine kX_one rfl ?_)
        exact k27 1 (by rw [cnt, if_pos q2])
  iterate 4 (refine kX_one rfl ?_)
  exact kX_lv _ rfl rfl rfl (loop 0 (Nat.zero_le _))
end
section
/-! the reference: the STATES of a search -/
def srX : List Nat := [264, 265, 284, 285, 286, 287, 292, 293]
def srJ : List Nat := [69, 70, 71]
/-- nothing has changed but what a search is made of -/
def mSf (σ τ : kS) (n : Nat) : Prop := (∀ c, c ∉ rowC → c ∉ srX → τ c = σ c) ∧ (∀ j, j ∉ rowJ → j ∉ srJ → τ 232 j = σ 232 j) ∧ ∀ u, u < 200 → τ 233 u = σ 233 u ∧ τ 234 u = σ 234 u ∧ τ 235 u = σ 235 u
theorem mSf_fr {σ τ : kS} {n : Nat} (h : mFr σ τ n) : mSf σ τ n := ⟨fun c hc _ => h.1 c hc, fun j hj _ => h.2.1 j hj, h.2.2⟩
theorem mSf_refl (σ : kS) (n : Nat) : mSf σ σ n := mSf_fr (mFr_refl σ n)
theorem mSf_trans {σ τ ρ : kS} {n : Nat} (h1 : mSf σ τ n) (h2 : mSf τ ρ n) : mSf σ ρ n :=
  ⟨fun c hc hx => (h2.1 c hc hx).trans (h1.1 c hc hx), fun j hj hx => (h2.2.1 j hj hx).trans (h1.2.1 j hj hx), fun u hu => ⟨(h2.2.2 u hu).1.trans (h1.2.2 u hu).1, (h2.2.2 u hu).2.1.trans (h1.2.2 u hu).2.1, (h2.2.2 u hu).2.2.trans (h1.2.2 u hu).2.2⟩⟩
theorem mSf_up {σ : kS} {n c : Nat} {f : Nat → Int32} (hc : c ∈ srX) : mSf σ (va_up σ c f) n := by
  refine ⟨fun e h1 h2 => ?_, fun j hj _ => ?_, fun u hu => ?_⟩
  · show va_up σ c f e = σ e
    unfold va_up
    rw [if_neg (fun q : e = c => h2 (by rw [q]; exact hc))]
  · have : (232 : Nat) ≠ c := fun q => by subst q; revert hc; decide
    show va_up σ c f 232 j = _
    unfold va_up
    rw [if_neg this]
  · have h1 : (233 : Nat) ≠ c := fun q => by subst q; revert hc; decide
    have h2 : (234 : Nat) ≠ c := fun q => by subst q; revert hc; decide
    have h3 : (235 : Nat) ≠ c := fun q => by subst q; revert hc; decide
    refine ⟨?_, ?_, ?_⟩
    · show va_up σ c f 233 u = _
      unfold va_up
      rw [if_neg h1]
    · show va_up σ c f 234 u = _
      unfold va_up
      rw [if_neg h2]
    · show va_up σ c f 235 u = _
      unfold va_up
      rw [if_neg h3]
theorem mSf_o {σ : kS} {n j : Nat} {x : Int32} (hj : j ∈ srJ) : mSf σ (va_up σ 232 (upd (σ 232) j x)) n := by
  refine ⟨fun e h1 h2 => ?_, fun i hi hx => ?_, fun u hu => ⟨rfl, rfl, rfl⟩⟩
  · have : e ≠ 232 := fun q => by subst q; revert h1; decide
    show va_up σ 232 _ e = σ e
    unfold va_up
    rw [if_neg this]
  · exact pk_un (fun q => hx (q ▸ hj))
def pat (σ τ : kS) : kS := fun c => if c ∈ srX then σ c else if c = 232 then (fun j => if j ∈ srJ then σ 232 j else τ 232 j) else τ c
theorem pat_fr {σ τ : kS} {n : Nat} (h : mSf σ τ n) : mFr σ (pat σ τ) n := by
  refine ⟨fun c hc => ?_, fun j hj => ?_, fun u hu => h.2.2 u hu⟩
  · unfold pat
    split
    · rfl
    · next hx =>
      have : c ≠ 232 := fun q => by subst q; revert hc; decide
      rw [if_neg this]
      exact h.1 c hc hx
  · show (if j ∈ srJ then σ 232 j else τ 232 j) = σ 232 j
    split
    · rfl
    · next hx => exact h.2.1 j hj hx
theorem mSf_Ro {σ τ : kS} {n b R : Nat} (h : mTb σ n b) (hF : mSf σ τ n) (hR : mRo σ n R) : mRo τ n R := by
  have := mFr_Ro (τ := pat σ τ) h (pat_fr hF) hR
  exact this
theorem mSf_Se {σ τ : kS} {n b R S : Nat} (h : mTb σ n b) (hF : mSf σ τ n) (hS : mSe σ n R S) : mSe τ n R S := by
  have := mFr_Se (τ := pat σ τ) h (pat_fr hF) hS
  exact this
theorem mSf_Kn {σ τ : kS} {n b : Nat} {kl : List Nat} (h : mTb σ n b) (hF : mSf σ τ n) (hK : mKn σ n kl) : mKn τ n kl := by
  have := mFr_Kn (τ := pat σ τ) h (pat_fr hF) hK
  exact this
theorem mSf_Cl {σ τ : kS} {n R C : Nat} (hF : mSf σ τ n) (hC : mCl σ R C) : mCl τ R C := by
  have := mFr_Cl (τ := pat σ τ) (pat_fr hF) hC
  exact this
theorem mSf_bdv {σ τ : kS} {n b R r dn k : Nat} (h : mTb σ n b) (hR : mRo σ n R) (hF : mSf σ τ n) (hr : r < R) (hdn : dn ≤ fN (σ 247 r)) : bdv τ r dn k ↔ bdv σ r dn k := by
  have := mFr_bdv (τ := pat σ τ) (k := k) h hR (pat_fr hF) hr hdn
  exact this
theorem mSf_Vz {σ τ : kS} {n b r k : Nat} {x : Int32} (h : mTb σ n b) (hF : mSf σ τ n) (hz : mVz σ n r k x) : mVz τ n r k x := by
  have := mFr_Vz (τ := pat σ τ) h (pat_fr hF) hz
  exact this
/-- what stays in a search -/
def mBs (σ : kS) (n R S C : Nat) (kl : List Nat) : Prop := mRo σ n R ∧ mSe σ n R S ∧ mKn σ n kl ∧ mCl σ R C
theorem mBs_sf {σ τ : kS} {n b R S C : Nat} {kl : List Nat} (h : mTb σ n b) (hF : mSf σ τ n) (hB : mBs σ n R S C kl) : mBs τ n R S C kl := ⟨mSf_Ro h hF hB.1, mSf_Se h hF hB.2.1, mSf_Kn h hF hB.2.2.1, mSf_Cl hF hB.2.2.2⟩
/-- D and V tell where the SESSIONS stand -/
def cfg (σ : kS) (n R S : Nat) (D V : Nat → Int32) : Prop := ∀ s, s < S → ∃ r dn, r < R ∧ σ 255 s = nI r ∧ D s = nI dn ∧ dn ≤ fN (σ 247 r) ∧ ∀ k, k < 6 → (bdv σ r dn k → mVz σ n r k (V (6 * s + k)) ∧ (σ 246 (6 * r + k) ≠ nI 2 → V (6 * s + k) = σ 256 (6 * s + k))) ∧ (¬ bdv σ r dn k → V (6 * s + k) = -6)
theorem cfg_ext {σ : kS} {n R S : Nat} {D V D' V' : Nat → Int32} (h1 : ∀ s, s < S → D' s = D s) (h2 : ∀ s k, s < S → k < 6 → V' (6 * s + k) = V (6 * s + k)) (h : cfg σ n R S D V) : cfg σ n R S D' V' := by
  intro s hs
  obtain ⟨r, dn, a1, a2, a3, a4, a5⟩ := h s hs
  refine ⟨r, dn, a1, a2, (h1 s hs).trans a3, a4, fun k hk => ?_⟩
  rw [h2 s k hs hk]
  exact a5 k hk
theorem cfg_sf {σ τ : kS} {n b R S : Nat} {D V : Nat → Int32} (h : mTb σ n b) (hR : mRo σ n R) (hF : mSf σ τ n) (hc : cfg σ n R S D V) : cfg τ n R S D V := by
  intro s hs
  obtain ⟨r, dn, a1, a2, a3, a4, a5⟩ := hc s hs
  refine ⟨r, dn, a1, (by rw [hF.1 255 (by decide) (by decide)]; exact a2), a3, (by rw [hF.1 247 (by decide) (by decide)]; exact a4), fun k hk => ?_⟩
  rw [mSf_bdv h hR hF a1 a4, hF.1 246 (by decide) (by decide), hF.1 256 (by decide) (by decide)]
  exact ⟨fun q => ⟨mSf_Vz h hF ((a5 k hk).1 q).1, ((a5 k hk).1 q).2⟩, (a5 k hk).2⟩
theorem cfg_Sv {σ : kS} {n b R S : Nat} (h : mTb σ n b) (hR : mRo σ n R) (hS : mSe σ n R S) (hc : cfg σ n R S (σ 264) (σ 265)) : mSv σ n R S := by
  refine ⟨hS.2.1, fun s hs => ?_⟩
  obtain ⟨r, dn, a1, a2, a3, a4, a5⟩ := hc s hs
  obtain ⟨-, e, e1, e2⟩ := hR.2.2.1 r a1
  have he : fN (σ 247 r) ≤ 6 := by rw [e2, fN_nI (by omega)]; exact e1
  rw [a3, fN_nI (by omega)]
  exact mSn_of h hR a1 a2 a3 a4 (fun k hk => ⟨fun q => ((a5 k hk).1 q).1, (a5 k hk).2⟩)
/-- one EVENT of the session m -/
def stp (S : Nat) (D V D' V' : Nat → Int32) (m : Nat) : Prop := m < S ∧ ∀ s, s < S → (s ≠ m → D' s = D s ∧ ∀ k, k < 6 → V' (6 * s + k) = V (6 * s + k)) ∧ (s = m → D' s = D s + 1 ∧ ∀ k, k < 6 → V (6 * s + k) ≠ -6 → V' (6 * s + k) = V (6 * s + k))
theorem stp_ext {S m : Nat} {D V D' V' E W E' W' : Nat → Int32} (h1 : ∀ s, s < S → E s = D s) (h2 : ∀ s k, s < S → k < 6 → W (6 * s + k) = V (6 * s + k)) (h3 : ∀ s, s < S → E' s = D' s) (h4 : ∀ s k, s < S → k < 6 → W' (6 * s + k) = V' (6 * s + k)) (h : stp S D V D' V' m) : stp S E W E' W' m := by
  refine ⟨h.1, fun s hs => ⟨fun q => ⟨?_, fun k hk => ?_⟩, fun q => ⟨?_, fun k hk hv => ?_⟩⟩⟩
  · rw [h3 s hs, h1 s hs]; exact ((h.2 s hs).1 q).1
  · rw [h4 s k hs hk, h2 s k hs hk]; exact ((h.2 s hs).1 q).2 k hk
  · rw [h3 s hs, h1 s hs]; exact ((h.2 s hs).2 q).1
  · rw [h2 s k hs hk] at hv ⊢
    rw [h4 s k hs hk]; exact ((h.2 s hs).2 q).2 k hk hv
def stD (σ : kS) (i : Nat) : Nat → Int32 := fun s => σ 284 (4 * i + s)
def stV (σ : kS) (i : Nat) : Nat → Int32 := fun j => σ 285 (24 * i + j)
/-- N STATES are noted -/
def mSs (σ : kS) (n R S N : Nat) : Prop := N ≤ 600 ∧ σ 232 69 = nI N ∧ ∀ i, i < N → cfg σ n R S (stD σ i) (stV σ i) ∧ (i = 0 → ∀ s, s < S → stD σ i s = 0) ∧ (0 < i → ∃ j m, j < i ∧ σ 286 i = nI j ∧ σ 287 i = nI m ∧ stp S (stD σ j) (stV σ j) (stD σ i) (stV σ i) m)
theorem mSs_sf {σ τ : kS} {n b R S N : Nat} (h : mTb σ n b) (hR : mRo σ n R) (hF : mSf σ τ n) (e1 : τ 284 = σ 284) (e2 : τ 285 = σ 285) (e3 : τ 286 = σ 286) (e4 : τ 287 = σ 287) (e5 : τ 232 69 = σ 232 69) (hS : mSs σ n R S N) : mSs τ n R S N := by
  obtain ⟨h1, h2, h3⟩ := hS
  refine ⟨h1, e5.trans h2, fun i hi => ?_⟩
  obtain ⟨g1, g2, g3⟩ := h3 i hi
  have d : ∀ i, stD τ i = stD σ i := fun i => by unfold stD; rw [e1]
  have v : ∀ i, stV τ i = stV σ i := fun i => by unfold stV; rw [e2]
  rw [d, v]
  refine ⟨cfg_sf h hR hF g1, g2, fun q => ?_⟩
  obtain ⟨j, m, a1, a2, a3, a4⟩ := g3 q
  refine ⟨j, m, a1, by rw [e3]; exact a2, by rw [e4]; exact a3, ?_⟩
  rw [d, v]
  exact a4
theorem mSs_fr {σ τ : kS} {n b R S N : Nat} (h : mTb σ n b) (hR : mRo σ n R) (hF : mFr σ τ n) (hS : mSs σ n R S N) : mSs τ n R S N := mSs_sf h hR (mSf_fr hF) (hF.1 _ (by decide)) (hF.1 _ (by decide)) (hF.1 _ (by decide)) (hF.1 _ (by decide)) (hF.2.1 _ (by decide)) hS
end
section
/-! the reference: comesToBe -/
def ceS (σ : kS) (SD SV : Nat → Int32) : kS := va_up (va_up σ 284 SD) 285 SV
def ceI (σ : kS) (N s : Nat) (SD SV : Nat → Int32) : Prop := (∀ j, j < 4 * N → SD j = σ 284 j) ∧ (∀ u, u < s → SD (4 * N + u) = σ 264 u) ∧ (∀ j, j < 24 * N → SV j = σ 285 j) ∧ ∀ u k, u < s → k < 6 → SV (24 * N + 6 * u + k) = σ 265 (6 * u + k)
set_option maxRecDepth 100000 in
set_option maxHeartbeats 4000000 in
theorem mr_ce_in (L : Nat) (xs : Nat → Int32) (d : Nat) (σ : kS) (N s : Nat) (hN : σ 232 69 = nI N) (hN6 : N < 600) (hs : s < 4) (x y : Int32) (P : Prop) (SD : Nat → Int32) (Q : Option Value → kS → Prop)
    (he : ∀ SV, ceI σ N (s + 1) SD SV → kX kT L xs (d + 1) 213 140 [(4, .int (nI s)), (3, .int (isB P)), (0, .ref 232), (1, .int x), (2, .int y)] [] (ceS σ SD SV) Q) :
    ∀ q : Nat × (Nat → Int32), (q.1 ≤ 6 ∧ (∀ j, j < 4 * N → SD j = σ 284 j) ∧ (∀ u, u < s + 1 → SD (4 * N + u) = σ 264 u) ∧ (∀ j, j < 24 * N → q.2 j = σ 285 j) ∧ (∀ u k, u < s → k < 6 → q.2 (24 * N + 6 * u + k) = σ 265 (6 * u + k)) ∧ ∀ k, k < q.1 → q.2 (24 * N + 6 * s + k) = σ 265 (6 * s + k)) → kX kT L xs (d + 1) 213 93 [(5, .int (nI q.1)), (4, .int (nI s)), (3, .int (isB P)), (0, .ref 232), (1, .int x), (2, .int y)] [] (ceS σ SD q.2) Q := by
  refine kX_while (fun q : Nat × (Nat → Int32) => [(5, .int (nI q.1)), (4, .int (nI s)), (3, .int (isB P)), (0, .ref 232), (1, .int x), (2, .int y)]) (fun q => ceS σ SD q.2) _ (fun q => 6 - q.1) ?_
  rintro ⟨k, SV⟩ ⟨i1, i2, i3, i4, i5, i6⟩ ih
  dsimp only at i1 i2 i3 i4 i5 i6 ih ⊢
  repeat refine kX_one rfl ?_
  refine kX_if (fun q => ?_) (fun q => ?_)
  · have q := qge q k 6
    obtain rfl : k = 6 := by omega
    refine kX_lv _ rfl rfl rfl (he SV ⟨i2, i3, i4, fun u k' hu hk => ?_⟩)
    by_cases e : u = s
    · subst e
      exact i6 k' hk
    · exact i5 u k' (by omega) hk
  · have q := qgeF q k 6
    iterate 5 (refine kX_one rfl ?_)
    refine kX_top (hN) ?_
    iterate 14 (refine kX_one rfl ?_)
    refine kX_ialdN rfl rfl (by decide) (6 * s + k) (ix6 s k) (by omega) ?_
    refine kX_iastN rfl rfl (by decide) (24 * N + 6 * s + k) (ix24 N s k) (by omega) ?_
    iterate 2 (refine kX_one rfl ?_)
    have := ih (k + 1, upd SV (24 * N + 6 * s + k) (σ 265 (6 * s + k))) ⟨by simp only; omega, i2, i3, fun j hj => by
      simp only
      rw [pk_un (by omega)]
      exact i4 j hj, fun u k' hu hk => by
      simp only
      rw [pk_un (by omega)]
      exact i5 u k' hu hk, fun k' hk => by
      simp only at hk ⊢
      by_cases e : k' = k
      · subst e
        exact pk_us
      · rw [pk_un (by omega)]
        exact i6 k' (by omega)⟩ (by simp only; omega)
    dsimp only at this
    rw [← nI_1] at this
    refine kX_to _ _ rfl rfl rfl ?_ this
    funext c; unfold ceS; first
      | ((repeat (refine va_case ?_ ?_; (· (intro h; first | (subst h; rfl) | (unfold va_up; repeat' split; (all_goals first | rfl | omega | (subst_vars; rfl) | (funext j; unfold upd; repeat' split; all_goals first | rfl | omega | (subst_vars; rfl)))))); intro h)); (repeat (refine va_case2 ?_ ?_; (· (intro h; first | exact absurd h (by assumption) | (subst h; rfl) | (subst h; funext j; unfold upd; repeat' split; (all_goals first | rfl | omega | (subst_vars; rfl))))); intro h)); rfl)
      | (unfold va_up; repeat' split
         all_goals first | rfl | omega | (subst_vars; rfl) | (funext j; unfold upd; repeat' split; all_goals first | rfl | omega | (subst_vars; rfl)))
/-- one STATE more is noted -/
def ceT (σ : kS) (N : Nat) (SD SV : Nat → Int32) (x y e : Int32) : kS := va_up (va_up (va_up (ceS σ SD SV) 286 (upd (σ 286) N x)) 287 (upd (σ 287) N y)) 232 (upd (upd (σ 232) 69 (nI (N + 1))) 71 e)
theorem ceT_sf (σ : kS) (n N : Nat) (SD SV : Nat → Int32) (x y e : Int32) : mSf σ (ceT σ N SD SV x y e) n := by
  refine ⟨fun c h1 h2 => ?_, fun j h1 h2 => ?_, fun u hu => ⟨rfl, rfl, rfl⟩⟩
  · have : c ≠ 232 := fun q => by subst q; revert h1; decide
    simp only [srX, List.mem_cons, List.not_mem_nil, or_false, not_or] at h2
    simp [ceT, ceS, va_up, h2, this]
  · simp only [srJ, List.mem_cons, List.not_mem_nil, or_false, not_or] at h2
    show upd (upd (σ 232) 69 (nI (N + 1))) 71 e j = _
    rw [pk_un h2.2.2, pk_un h2.1]
theorem ceT_Ss {σ : kS} {n b R S N : Nat} {SD SV : Nat → Int32} {x y e : Int32} (h : mTb σ n b) (hR : mRo σ n R) (hS : mSs σ n R S N) (hS4 : S ≤ 4) (hN : N < 600) (hI : ceI σ N S SD SV) (hc : cfg σ n R S (σ 264) (σ 265)) (hl : (N = 0 ∧ ∀ s, s < S → σ 264 s = 0) ∨ ∃ j m, j < N ∧ x = nI j ∧ y = nI m ∧ stp S (stD σ j) (stV σ j) (σ 264) (σ 265) m) : mSs (ceT σ N SD SV x y e) n R S (N + 1) := by
  have hF := ceT_sf σ n N SD SV x y e
  obtain ⟨i1, i2, i3, i4⟩ := hI
  obtain ⟨s1, s2, s3⟩ := hS
  have dO : ∀ i, i < N → ∀ s, s < S → stD (ceT σ N SD SV x y e) i s = stD σ i s := fun i hi s hs => i1 (4 * i + s) (by omega)
  have vO : ∀ i, i < N → ∀ s k, s < S → k < 6 → stV (ceT σ N SD SV x y e) i (6 * s + k) = stV σ i (6 * s + k) := fun i hi s k hs hk => i3 (24 * i + (6 * s + k)) (by omega)
  have dN : ∀ s, s < S → stD (ceT σ N SD SV x y e) N s = σ 264 s := fun s hs => i2 s hs
  have vN : ∀ s k, s < S → k < 6 → stV (ceT σ N SD SV x y e) N (6 * s + k) = σ 265 (6 * s + k) := fun s k hs hk => by
    have := i4 s k hs hk
    rw [show 24 * N + 6 * s + k = 24 * N + (6 * s + k) by omega] at this
    exact this
  refine ⟨by omega, rfl, fun i hi => ?_⟩
  by_cases e : i = N
  · subst e
    refine ⟨cfg_ext dN vN (cfg_sf h hR hF hc), fun q s hs => ?_, fun q => ?_⟩
    · rcases hl with ⟨-, hl⟩ | ⟨j, m, hl, -⟩
      · rw [dN s hs]
        exact hl s hs
      · omega
    · rcases hl with ⟨hl, -⟩ | ⟨j, m, l1, l2, l3, l4⟩
      · omega
      · refine ⟨j, m, l1, ?_, ?_, stp_ext (dO j l1) (vO j l1) dN vN l4⟩
        · show upd (σ 286) i x i = _
          rw [pk_us, l2]
        · show upd (σ 287) i y i = _
          rw [pk_us, l3]
  · have hi : i < N := by omega
    obtain ⟨g1, g2, g3⟩ := s3 i hi
    refine ⟨cfg_ext (dO i hi) (vO i hi) (cfg_sf h hR hF g1), fun q s hs => ?_, fun q => ?_⟩
    · rw [dO i hi s hs]
      exact g2 q s hs
    · obtain ⟨j, m, a1, a2, a3, a4⟩ := g3 q
      refine ⟨j, m, a1, ?_, ?_, stp_ext (dO j (by omega)) (vO j (by omega)) (dO i hi) (vO i hi) a4⟩
      · show upd (σ 286) N x i = _
        rw [pk_un e, a2]
      · show upd (σ 287) N y i = _
        rw [pk_un e, a3]
/-- what comesToBe answers -/
def ceR (C N : Nat) (r : Option Value) : Prop := r = some (.int (-6)) ∨ r = some (.int (-7)) ∨ ∃ c, c < C ∧ r = some (.int (nI c)) ∧ 0 < N
/-- what comesToBe leaves -/
def ceP (σ σ' : kS) (n R S C N : Nat) (r : Option Value) : Prop := ∃ N', N ≤ N' ∧ N' ≤ N + 1 ∧ ceR C N' r ∧ mSf σ σ' n ∧ (∃ b', mTb σ' n b') ∧ mSs σ' n R S N' ∧ σ' 264 = σ 264 ∧ σ' 265 = σ 265 ∧ σ' 292 = σ 292 ∧ σ' 293 = σ 293 ∧ ∀ i, i < N → (∀ s, s < S → stD σ' i s = stD σ i s) ∧ ∀ s k, s < S → k < 6 → stV σ' i (6 * s + k) = stV σ i (6 * s + k)
theorem ceP_same {σ : kS} {n b R S C N : Nat} {r : Option Value} (h : mTb σ n b) (hS : mSs σ n R S N) (hr : r = some (.int (-6)) ∨ r = some (.int (-7))) : ceP σ σ n R S C N r := ⟨N, Nat.le_refl _, by omega, hr.elim Or.inl (fun q => Or.inr (Or.inl q)), mSf_refl σ n, ⟨b, h⟩, hS, rfl, rfl, rfl, rfl, fun i _ => ⟨fun _ _ => rfl, fun _ _ _ _ => rfl⟩⟩
end
