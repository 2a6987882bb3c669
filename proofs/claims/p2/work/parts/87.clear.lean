section
/-! the reference: clear -/
theorem mI_empty {σ : kS} (h1 : σ 232 9 = 0) (h2 : σ 232 10 = nI 200) (h3 : σ 232 13 = 0) (h4 : σ 232 26 = 0) (h5 : σ 232 27 = 0) (h6 : σ 232 30 = 0) (h7 : σ 232 52 = 0) (h8 : σ 232 72 = -6) (hh : ∀ j, j < 1024 → σ 242 j = -1) : mI σ 0 200 0 0 0 [] := by
  have hmv : ∀ t, ¬ mv 0 200 t := fun t q => by unfold mv at q; omega
  have n0 : ∀ t : Nat, ¬ t < 0 := Nat.not_lt_zero
  refine ⟨⟨by omega, by omega, by omega, h1, h2, ⟨fun t q => absurd q (hmv t), fun t q => absurd q (hmv t), fun t u q => absurd q (hmv t)⟩, fun t q => absurd q (hmv t), ⟨fun j hj => Or.inl ⟨hh j hj, fun t _ q => absurd q.1.1 (hmv t)⟩, fun t q => absurd q.1 (hmv t)⟩, fun t q1 q2 => by omega, fun t q => absurd q (n0 t)⟩, ⟨by omega, h3, fun r q => absurd q (n0 r), fun r k q => absurd q (n0 r), fun t q => absurd q (n0 t), fun r e q => absurd q (n0 r)⟩, ⟨by omega, h5, fun s q => absurd q (n0 s)⟩, ⟨h4, Nat.zero_le _, lst_nil _, fun t q => by cases q⟩, ⟨by omega, h6, fun c q => absurd q (n0 c)⟩, Or.inl h7, Or.inl h8⟩
set_option maxRecDepth 100000 in
set_option maxHeartbeats 4000000 in
theorem mr_emptyTable (L : Nat) (xs : Nat → Int32) (d : Nat) (σ : kS) : kXM kT L xs (d + 1) 146 [.ref 232] σ (fun r σ' => r = none ∧ ∃ hd, σ' = va_up σ 242 hd ∧ ∀ j, j < 1024 → hd j = -1) := by
  unfold kXM
  have loop : ∀ q : Nat × (Nat → Int32), (q.1 ≤ 1024 ∧ ∀ j, j < q.1 → q.2 j = -1) → kX kT L xs (d + 1) 146 2 [(1, .int (nI q.1)), (0, .ref 232)] [] (va_up σ 242 q.2) (fun r σ' => r = none ∧ ∃ hd, σ' = va_up σ 242 hd ∧ ∀ j, j < 1024 → hd j = -1) := by
    refine kX_while (fun q : Nat × (Nat → Int32) => [(1, .int (nI q.1)), (0, .ref 232)]) (fun q => va_up σ 242 q.2) _ (fun q => 1024 - q.1) ?_
    rintro ⟨k, H⟩ ⟨i1, i2⟩ ih
    dsimp only at i1 i2 ih ⊢
    iterate 2 (refine kX_one rfl ?_)
    repeat refine kX_one rfl ?_
    refine kX_if (fun q => ?_) (fun q => ?_)
    · have q := qge q k 1024
      repeat refine kX_one rfl ?_
      refine kX_ret (i := .return_) (len := 1) rfl (Or.inr rfl) rfl (⟨rfl, H, rfl, fun j hj => i2 j (by omega)⟩)
    · have q := qgeF q k 1024
      iterate 4 (refine kX_one rfl ?_)
      refine kX_iastN rfl rfl (by decide) (k) (by first | rfl | decide) (by omega) ?_
      iterate 2 (refine kX_one rfl ?_)
      have := ih (k + 1, upd H k (-1)) ⟨q, fun j hj => by
        by_cases e : j = k
        · subst e
          exact pk_us
        · simp only at hj ⊢
          rw [pk_un e]
          exact i2 j (by omega)⟩ (by simp only; omega)
      dsimp only at this
      rw [← nI_1] at this
      refine kX_to _ _ rfl rfl rfl ?_ this
      funext c; unfold  va_up; repeat' split
      all_goals first | rfl | omega | (subst_vars; rfl) | (funext j; unfold upd; repeat' split; all_goals first | rfl | omega | (subst_vars; rfl))
  iterate 2 (refine kX_one rfl ?_)
  refine kX_to _ _ rfl rfl rfl ?_ (loop (0, σ 242) ⟨Nat.zero_le _, fun j hj => absurd hj (Nat.not_lt_zero j)⟩)
  funext c; unfold  va_up; repeat' split
  all_goals first | rfl | omega | (subst_vars; rfl) | (funext j; unfold upd; repeat' split; all_goals first | rfl | omega | (subst_vars; rfl))
set_option maxRecDepth 100000 in
set_option maxHeartbeats 4000000 in
theorem mp_clear (L : Nat) (xs : Nat → Int32) (d : Nat) (σ : kS) (n b R S C : Nat) (kl : List Nat) (h : mI σ n b R S C kl) : kXM kT L xs (d + 2) 226 [.ref 232] σ (fun r σ' => (∃ x, r = some (.int x)) ∧ mAfter σ σ' 0) := by
  have h1 := h.1
  unfold kXM
  repeat refine kX_one rfl ?_
  refine kX_cal (mr_release L xs d σ n b 200 h1 (by omega) h1.2.1) rfl (Or.inr rfl) rfl rfl rfl (fun r1 σ1 q1 => ?_)
  obtain ⟨rfl, hd, q1, -⟩ := q1
  have hl1 : mLow σ σ1 := by
    rw [q1]
    exact mLow_trans (mLow_up σ _ (by decide)) (mLow_up _ _ (by decide))
  have hb1 : σ1 232 10 = nI 200 := by
    rw [q1]
    rfl
  clear q1
  repeat refine kX_one rfl ?_
  refine kX_cal (mr_emptyTable L xs d σ1) rfl (Or.inr rfl) rfl rfl rfl (fun r2 σ2 q2 => ?_)
  obtain ⟨rfl, hd2, rfl, hh⟩ := q2
  repeat refine kX_one rfl ?_
  refine kX_cal (mr_forget L xs d _) rfl (Or.inr rfl) rfl rfl rfl (fun r3 σ3 q3 => ?_)
  obtain ⟨rfl, rfl⟩ := q3
  repeat refine kX_one rfl ?_
  refine kX_ret (i := .ireturn) (len := 1) rfl (Or.inr rfl) rfl ⟨⟨_, rfl⟩, ?_, 0, 200, 0, 0, [], mI_empty rfl hb1 rfl rfl rfl rfl rfl rfl hh⟩
  refine mLow_trans hl1 ?_
  intro c hc
  simp only [va_up]
  repeat rw [if_neg (by omega)]
end
section
/-! the reference: ofRole -/
theorem dv10 : ∀ k, k < 36 → nI k / (Int8.ofInt 10).toInt32 = nI (k / 10) := by decide +kernel
theorem rm10 : ∀ k, k < 36 → nI k - nI (k / 10) * (Int8.ofInt 10).toInt32 = nI (k % 10) := by decide +kernel
set_option maxRecDepth 100000 in
set_option maxHeartbeats 4000000 in
theorem mr_ofRole98 (L : Nat) (xs : Nat → Int32) (d : Nat) (σ : kS) (r m a v ev : Nat) (y : Int32) (hr : r < 4) (hm : m < 6) (hv6 : v ≤ 6) (he6 : ev ≤ 6) (ha : a < 10) (hv : σ 244 r = nI v) (hev : σ 247 r = nI ev) (Q : Option Value → kS → Prop) (hQ : ∀ x, Q (some (.int x)) σ) : kX kT L xs (d + 1) 225 98 [(4, .int (nI m)), (3, .int (nI a)), (0, .ref 232), (1, .int (nI r)), (2, .int y)] [] σ Q := by
  iterate 5 (refine kX_one rfl ?_)
  refine kX_top (ix6 r m) ?_
  iterate 1 (refine kX_one rfl ?_)
  repeat refine kX_one rfl ?_
  refine kX_if (fun q => ?_) (fun q => ?_)
  · repeat refine kX_one rfl ?_
    refine kX_ialdV rfl rfl (by decide) (r) (by first | rfl | decide) (by omega) (hev) ?_
    repeat refine kX_one rfl ?_
    refine kX_if (fun q => ?_) (fun q => ?_)
    · repeat refine kX_one rfl ?_
      refine kX_if (fun q => ?_) (fun q => ?_)
      · repeat refine kX_one rfl ?_
        refine kX_baldN rfl rfl (by decide) (6 * r + m) (by first | rfl | decide) (by omega) ?_
        repeat refine kX_one rfl ?_
        refine kX_if (fun q => ?_) (fun q => ?_)
        · repeat refine kX_one rfl ?_
          refine kX_ret (i := .ireturn) (len := 1) rfl (Or.inr rfl) rfl (hQ _)
        · repeat refine kX_one rfl ?_
          refine kX_ret (i := .ireturn) (len := 1) rfl (Or.inr rfl) rfl (hQ _)
      · repeat refine kX_one rfl ?_
        refine kX_ialdN rfl rfl (by decide) (6 * r + m) (by first | rfl | decide) (by omega) ?_
        repeat refine kX_one rfl ?_
        refine kX_ret (i := .ireturn) (len := 1) rfl (Or.inr rfl) rfl (hQ _)
    · repeat refine kX_one rfl ?_
      refine kX_ret (i := .ireturn) (len := 1) rfl (Or.inr rfl) rfl (hQ _)
  · repeat refine kX_one rfl ?_
    refine kX_ialdV rfl rfl (by decide) (r) (by first | rfl | decide) (by omega) (hv) ?_
    repeat refine kX_one rfl ?_
    refine kX_if (fun q => ?_) (fun q => ?_)
    · repeat refine kX_one rfl ?_
      refine kX_ret (i := .ireturn) (len := 1) rfl (Or.inr rfl) rfl (hQ _)
    · repeat refine kX_one rfl ?_
      refine kX_ialdN rfl rfl (by decide) (6 * r + m) (by first | rfl | decide) (by omega) ?_
      repeat refine kX_one rfl ?_
      refine kX_ret (i := .ireturn) (len := 1) rfl (Or.inr rfl) rfl (hQ _)
set_option maxRecDepth 100000 in
set_option maxHeartbeats 4000000 in
theorem mp_ofRole (L : Nat) (xs : Nat → Int32) (d : Nat) (σ : kS) (n b R S C : Nat) (kl : List Nat) (x y : Int32) (h : mI σ n b R S C kl) : kXM kT L xs (d + 2) 225 [.ref 232, .int x, .int y] σ (fun r σ' => (∃ x, r = some (.int x)) ∧ mAfter σ σ' R) := by
  have h2 := h.2.1
  have hR4 := h2.1
  unfold kXM
  repeat refine kX_one rfl ?_
  refine kX_cal (mr_isRole L xs d σ R x h2.2.1 (by omega)) rfl (Or.inr rfl) rfl rfl rfl (fun r1 σ1 q1 => ?_)
  obtain ⟨rfl, rfl⟩ := q1
  repeat refine kX_one rfl ?_
  refine kX_if (fun q => ?_) (fun q => ?_)
  · obtain ⟨r, hr, rfl⟩ := isB_ne.mp (qne q)
    obtain ⟨⟨v, hv6, hv⟩, ev, he6, hev⟩ := h2.2.2.1 r hr
    repeat refine kX_one rfl ?_
    refine kX_cal (mr_in L xs (d + 1) σ _ _ _) rfl (Or.inr rfl) rfl rfl rfl (fun r1 σ1 q1 => ?_)
    obtain ⟨rfl, rfl⟩ := q1
    rw [isB_dec]
    repeat refine kX_one rfl ?_
    refine kX_if (fun q => ?_) (fun q => ?_)
    · repeat refine kX_one rfl ?_
      refine kX_cal (mr_in L xs (d + 1) σ _ _ _) rfl (Or.inr rfl) rfl rfl rfl (fun r1 σ1 q1 => ?_)
      obtain ⟨rfl, rfl⟩ := q1
      rw [isB_dec]
      repeat refine kX_one rfl ?_
      refine kX_if (fun q => ?_) (fun q => ?_)
      · repeat refine kX_one rfl ?_
        refine kX_ret (i := .ireturn) (len := 1) rfl (Or.inr rfl) rfl (⟨⟨_, rfl⟩, mAfter_same h⟩)
      · obtain ⟨k, k1, k2, rfl⟩ := in_R (lo := 10) (hi := 35) (by omega) (by omega) (isB_ne.mp (qeqF q)).1 (isB_ne.mp (qeqF q)).2
        rw [dv10 k (by omega), rm10 k (by omega)]
        repeat refine kX_one rfl ?_
        refine kX_if (fun q => ?_) (fun q => ?_)
        · have q := qle q (k % 10) 5
          refine kX_lv _ rfl rfl rfl (mr_ofRole98 L xs (d + 1) σ r (k % 10) (k / 10) v ev (nI k) (by omega) (by omega) hv6 he6 (by omega) hv hev _ (fun x => ⟨⟨_, rfl⟩, mAfter_same h⟩))
        · repeat refine kX_one rfl ?_
          refine kX_ret (i := .ireturn) (len := 1) rfl (Or.inr rfl) rfl (⟨⟨_, rfl⟩, mAfter_same h⟩)
    · repeat refine kX_one rfl ?_
      refine kX_if (fun q => ?_) (fun q => ?_)
      · repeat refine kX_one rfl ?_
        refine kX_if (fun q => ?_) (fun q => ?_)
        · repeat refine kX_one rfl ?_
          refine kX_baldN rfl rfl (by decide) (r) (by first | rfl | decide) (by omega) ?_
          repeat refine kX_one rfl ?_
          refine kX_if (fun q => ?_) (fun q => ?_)
          · repeat refine kX_one rfl ?_
            refine kX_ret (i := .ireturn) (len := 1) rfl (Or.inr rfl) rfl (⟨⟨_, rfl⟩, mAfter_same h⟩)
          · repeat refine kX_one rfl ?_
            refine kX_ret (i := .ireturn) (len := 1) rfl (Or.inr rfl) rfl (⟨⟨_, rfl⟩, mAfter_same h⟩)
        · repeat refine kX_one rfl ?_
          refine kX_ialdN rfl rfl (by decide) (r) (by first | rfl | decide) (by omega) ?_
          repeat refine kX_one rfl ?_
          refine kX_ret (i := .ireturn) (len := 1) rfl (Or.inr rfl) rfl (⟨⟨_, rfl⟩, mAfter_same h⟩)
      · repeat refine kX_one rfl ?_
        refine kX_ialdN rfl rfl (by decide) (r) (by first | rfl | decide) (by omega) ?_
        repeat refine kX_one rfl ?_
        refine kX_ret (i := .ireturn) (len := 1) rfl (Or.inr rfl) rfl (⟨⟨_, rfl⟩, mAfter_same h⟩)
  · repeat refine kX_one rfl ?_
    refine kX_ret (i := .ireturn) (len := 1) rfl (Or.inr rfl) rfl (⟨⟨_, rfl⟩, mAfter_same h⟩)
end
section
/-! the reference: howManyAs, session -/
/-- how many of the first k VARIABLES of the role r are told as a -/
def hma (σ : kS) (r a : Nat) : Nat → Nat
  | 0 => 0
  | k + 1 => hma σ r a k + if σ 246 (6 * r + k) = nI a then 1 else 0
theorem hma_le (σ : kS) (r a : Nat) : ∀ k, hma σ r a k ≤ k
  | 0 => Nat.le_refl _
  | k + 1 => by
    have := hma_le σ r a k
    unfold hma
    split <;> omega
set_option maxRecDepth 100000 in
set_option maxHeartbeats 4000000 in
theorem mr_howManyAs (L : Nat) (xs : Nat → Int32) (d : Nat) (σ : kS) (r a v : Nat) (hr : r < 4) (ha : a < 3) (hv6 : v ≤ 6) (hv : σ 244 r = nI v) : kXM kT L xs (d + 1) 169 [.ref 232, .int (nI r), .int (nI a)] σ (fun x σ' => x = some (.int (nI (hma σ r a v))) ∧ σ = σ') := by
  unfold kXM
  have loop : ∀ k, k ≤ v → kX kT L xs (d + 1) 169 5 [(4, .int (nI k)), (3, .int (nI (hma σ r a k))), (0, .ref 232), (1, .int (nI r)), (2, .int (nI a))] [] σ (fun x σ' => x = some (.int (nI (hma σ r a v))) ∧ σ = σ') := by
    refine kX_while (fun k : Nat => [(4, .int (nI k)), (3, .int (nI (hma σ r a k))), (0, .ref 232), (1, .int (nI r)), (2, .int (nI a))]) (fun _ => σ) _ (fun k => v - k) ?_
    intro k hk ih
    iterate 4 (refine kX_one rfl ?_)
    refine kX_ialdV rfl rfl (by decide) (r) (by first | rfl | decide) (by omega) (hv) ?_
    repeat refine kX_one rfl ?_
    refine kX_if (fun q => ?_) (fun q => ?_)
    · have q := qge q k v
      obtain rfl : k = v := by omega
      repeat refine kX_one rfl ?_
      refine kX_ret (i := .ireturn) (len := 1) rfl (Or.inr rfl) rfl (⟨rfl, rfl⟩)
    · have q := qgeF q k v
      iterate 8 (refine kX_one rfl ?_)
      refine kX_ialdN rfl rfl (by decide) (6 * r + k) (ix6 r k) (by omega) ?_
      have := ih (k + 1) q (by omega)
      rw [← nI_1] at this
      repeat refine kX_one rfl ?_
      refine kX_if (fun q => ?_) (fun q => ?_)
      · have e : hma σ r a (k + 1) = hma σ r a k := by
          rw [hma, if_neg (qne q), Nat.add_zero]
        rw [e] at this
        iterate 2 (refine kX_one rfl ?_)
        refine kX_top (show nI (hma σ r a k) + 0 = nI (hma σ r a k) from Int32.add_zero _) ?_
        iterate 3 (refine kX_one rfl ?_)
        exact kX_lv _ rfl rfl rfl this
      · have e : hma σ r a (k + 1) = hma σ r a k + 1 := by
          rw [hma, if_pos (qneF q)]
        rw [e] at this
        iterate 3 (refine kX_one rfl ?_)
        refine kX_top (show nI (hma σ r a k) + 1 = nI (hma σ r a k + 1) from (nI_succ _).symm) ?_
        iterate 3 (refine kX_one rfl ?_)
        exact kX_lv _ rfl rfl rfl this
  iterate 4 (refine kX_one rfl ?_)
  exact kX_lv _ rfl rfl rfl (loop 0 (Nat.zero_le _))
end
section
/-! the reference: session, what it fills in -/
/-- VARIABLE i of the role r has what it is to have in the session S that is being made -/
def ssO (τ : kS) (n r S i : Nat) : Prop := ∃ as, τ 246 (6 * r + i) = nI as ∧ ((as = 2 ∧ τ 256 (6 * S + i) = -6) ∨ (as < 2 ∧ ∃ z, z < n ∧ τ 256 (6 * S + i) = nI z ∧ τ 233 z = τ 240 (fN (τ 245 (6 * r + i)))))
/-- all but the RUN and the ATTACK -/
def mJ (σ : kS) (n b R S C : Nat) (kl : List Nat) : Prop := mTb σ n b ∧ mRo σ n R ∧ mSe σ n R S ∧ mKn σ n kl ∧ mCl σ R C ∧ σ 232 52 = 0
theorem mJ_new {σ τ : kS} {n b R S C k : Nat} {kl : List Nat} {a c : Int32} (h : mJ σ n b R S C kl) (hN : mNw σ τ n k a c) (hk : k < 3) : mJ τ (n + 1) 200 R S C kl := by
  have hG := mGr_new hN
  obtain ⟨h1, h2, h3, h4, h5, h6⟩ := h
  have hT : mTb τ (n + 1) 200 := by
    obtain ⟨_, _, _, _, _, _, q⟩ := hN
    exact q
  have hkk : τ 233 n = nI k := by
    obtain ⟨_, _, _, _, _, rfl, _⟩ := hN
    exact pk_us
  have hn1 : n ≤ n + 1 := by omega
  refine ⟨hT, mRo_up hn1 (fun t t1 t2 => ?_) (mGr_Ro h1 hG h2), mSe_up hn1 (mGr_Se h1 hG h3), mKn_up hn1 (mGr_Kn h1 hG h4), mGr_Cl hG h5, (hG.2.1 _ (by decide)).trans h6⟩
  obtain rfl : t = n := by omega
  rw [hkk]
  exact nI_ne (by omega)
theorem ssO_new {σ τ : kS} {n r S i k : Nat} {a c : Int32} (hn : n ≤ 200) (hN : mNw σ τ n k a c) (h : ssO σ n r S i) : ssO τ (n + 1) r S i := by
  have hG := mGr_new hN
  have e := fun c (hc : c ∉ rowC) => hG.1 c hc
  obtain ⟨as, h1, h2⟩ := h
  unfold ssO
  rw [e 246 (by decide), e 256 (by decide), e 240 (by decide), e 245 (by decide)]
  refine ⟨as, h1, h2.imp id (fun ⟨g1, z, g2, g3, g4⟩ => ⟨g1, z, by omega, g3, (hG.2.2 z g2).1.trans g4⟩)⟩
/-- the store of what VARIABLE k stands for at first -/
theorem mJ_at {σ : kS} {n b R S C k : Nat} {kl : List Nat} {x : Int32} (h : mJ σ n b R S C kl) : mJ (va_up σ 256 (upd (σ 256) (6 * S + k) x)) n b R S C kl := by
  obtain ⟨h1, h2, h3, h4, h5, h6⟩ := h
  refine ⟨h1, h2, ⟨h3.1, h3.2.1, fun s hs => ?_⟩, h4, h5, h6⟩
  obtain ⟨r, r1, r2, r3, r4⟩ := h3.2.2 s hs
  refine ⟨r, r1, r2, r3, fun k' hk' => ?_⟩
  have hR4 := h2.1
  obtain ⟨⟨v, hv6, hv⟩, -⟩ := h2.2.2.1 r r1
  have hk6 : k' < 6 := by
    have : k' < fN (σ 244 r) := hk'
    rw [hv, fN_nI (by omega)] at this
    omega
  show ∃ as, σ 246 (6 * r + k') = nI as ∧ ((as = 2 ∧ upd (σ 256) (6 * S + k) x (6 * s + k') = -6) ∨ (as < 2 ∧ ∃ z, z < n ∧ upd (σ 256) (6 * S + k) x (6 * s + k') = nI z ∧ σ 233 z = σ 240 (fN (σ 245 (6 * r + k')))))
  rw [pk_un (by omega)]
  exact r4 k' hk'
theorem ssO_at {σ : kS} {n r S i k : Nat} {x : Int32} (hi : i ≠ k) (h : ssO σ n r S i) : ssO (va_up σ 256 (upd (σ 256) (6 * S + k) x)) n r S i := by
  show ∃ as, σ 246 (6 * r + i) = nI as ∧ ((as = 2 ∧ upd (σ 256) (6 * S + k) x (6 * S + i) = -6) ∨ (as < 2 ∧ ∃ z, z < n ∧ upd (σ 256) (6 * S + k) x (6 * S + i) = nI z ∧ σ 233 z = σ 240 (fN (σ 245 (6 * r + i)))))
  rw [pk_un (by omega)]
  exact h
/-- one session more -/
def seS (σ : kS) (S r : Nat) : kS := va_up (va_up (va_up σ 255 (upd (σ 255) S (nI r))) 250 (upd (σ 250) r 1)) 232 (upd (σ 232) 27 (nI (S + 1)))
theorem mI_se {σ : kS} {n b R S C r : Nat} {kl : List Nat} (h : mJ σ n b R S C kl) (hS : S < 4) (hr : r < R) (hs : ∀ i, i < fN (σ 244 r) → ssO σ n r S i) : mI (va_up (seS σ S r) 232 (fgO (seS σ S r 232))) n b R (S + 1) C kl := by
  obtain ⟨h1, h2, h3, h4, h5, h6⟩ := h
  refine mI_fg (σ := seS σ S r) h1 h2 ⟨by omega, rfl, fun s hs' => ?_⟩ h4 h5 h6
  show ∃ r', r' < R ∧ upd (σ 255) S (nI r) s = nI r' ∧ upd (σ 250) r 1 r' ≠ 0 ∧ ∀ k, k < fN (σ 244 r') → ∃ as, σ 246 (6 * r' + k) = nI as ∧ ((as = 2 ∧ σ 256 (6 * s + k) = -6) ∨ (as < 2 ∧ ∃ z, z < n ∧ σ 256 (6 * s + k) = nI z ∧ σ 233 z = σ 240 (fN (σ 245 (6 * r' + k)))))
  by_cases e : s = S
  · subst e
    refine ⟨r, hr, pk_us, by rw [pk_us]; decide, hs⟩
  · obtain ⟨r', r1, r2, r3, r4⟩ := h3.2.2 s (by omega)
    refine ⟨r', r1, by rw [pk_un e]; exact r2, ?_, r4⟩
    by_cases e2 : r' = r
    · subst e2
      rw [pk_us]
      decide
    · rw [pk_un e2]
      exact r3
theorem mLow_se {σ : kS} {S r : Nat} : mLow σ (va_up (seS σ S r) 232 (fgO (seS σ S r 232))) := by
  intro c hc
  simp only [seS, va_up]
  repeat rw [if_neg (by omega)]
end
section
/-! the reference: session, its loop -/
theorem hma_mono (σ : kS) (r a : Nat) : ∀ {k v : Nat}, k ≤ v → hma σ r a k ≤ hma σ r a v := fun {k v} h => by
  induction v with
  | zero => obtain rfl : k = 0 := by omega
            exact Nat.le_refl _
  | succ v ih =>
    by_cases e : k = v + 1
    · subst e
      exact Nat.le_refl _
    · exact Nat.le_trans (ih (by omega)) (Nat.le_add_right _ _)
def seK (σ τ : kS) (n : Nat) : Prop := τ 244 = σ 244 ∧ τ 246 = σ 246 ∧ τ 245 = σ 245 ∧ τ 240 = σ 240 ∧ ∀ t, t < n → τ 233 t = σ 233 t
set_option maxRecDepth 100000 in
set_option maxHeartbeats 4000000 in
theorem mr_sessionL (L : Nat) (xs : Nat → Int32) (d : Nat) (σ : kS) (n R S C r v : Nat) (kl : List Nat) (a1 a2 a3 h0 : Int32) (hR4 : R ≤ 4) (hr : r < R) (hS : S < 4) (hv6 : v ≤ 6) (hv : σ 244 r = nI v) (hn : n + hma σ r 1 v ≤ 200) (h03 : hma σ r 0 v ≤ 3)
    (hA : ∀ i, i < hma σ r 0 v → ∃ z, z < n ∧ (if i = 0 then a1 else if i = 1 then a2 else a3) = nI z ∧ σ 233 z = 0) (hRo : mRo σ n R) (Q : Option Value → kS → Prop)
    (hQ : ∀ τ n' b', mJ τ n' b' R S C kl → mLow σ τ → seK σ τ n → (∀ i, i < v → ssO τ n' r S i) → kX kT L xs (d + 4) 170 277 [(0, .ref 232), (1, .int (nI r)), (2, .int a1), (3, .int a2), (4, .int a3)] [] τ Q) :
    ∀ q : Nat × kS, (q.1 ≤ v ∧ ∃ b', mJ q.2 (n + hma σ r 1 q.1) b' R S C kl ∧ mLow σ q.2 ∧ seK σ q.2 n ∧ ∀ i, i < q.1 → ssO q.2 (n + hma σ r 1 q.1) r S i) → kX kT L xs (d + 4) 170 160 [(7, .int (nI q.1)), (6, .int (nI (hma σ r 0 q.1))), (0, .ref 232), (1, .int (nI r)), (2, .int a1), (3, .int a2), (4, .int a3)] [] q.2 Q := by
  refine kX_while (fun q : Nat × kS => [(7, .int (nI q.1)), (6, .int (nI (hma σ r 0 q.1))), (0, .ref 232), (1, .int (nI r)), (2, .int a1), (3, .int a2), (4, .int a3)]) (fun q => q.2) _ (fun q => v - q.1) ?_
  rintro ⟨k, τ⟩ ⟨i1, b', i2, i3, i4, i5⟩ ih
  dsimp only at i1 i2 i3 i4 i5 ih ⊢
  obtain ⟨s1, s2, s3, s4, s5⟩ := i4
  have hvt : τ 244 r = nI v := by rw [s1]; exact hv
  iterate 4 (refine kX_one rfl ?_)
  refine kX_ialdV rfl rfl (by decide) (r) (by first | rfl | decide) (by omega) (hvt) ?_
  repeat refine kX_one rfl ?_
  refine kX_if (fun q => ?_) (fun q => ?_)
  · have q := qge q k v
    obtain rfl : k = v := by omega
    exact kX_lv _ rfl rfl rfl (hQ τ _ b' i2 i3 ⟨s1, s2, s3, s4, s5⟩ i5)
  · have q := qgeF q k v
    obtain ⟨t, so, as, t1, t2, t3, t4, t5, t6, t7, t8, t9, t10, t11⟩ := hRo.2.2.2.1 r k hr (by rw [hv, fN_nI (by omega)]; exact q)
    have hn200 : n ≤ 200 := by omega
    have key : ∀ (ρ : kS) (x : Int32) (b'' c' n' : Nat) (w : Value), c' = hma σ r 0 (k + 1) → n' = n + hma σ r 1 (k + 1) → mJ ρ n' b'' R S C kl → mLow σ ρ → seK σ ρ n → (∀ i, i < k → ssO ρ n' r S i) → ssO (va_up ρ 256 (upd (ρ 256) (6 * S + k) x)) n' r S k → kX kT L xs (d + 4) 170 254 [(9, .int x), (8, w), (7, .int (nI k)), (6, .int (nI c')), (0, .ref 232), (1, .int (nI r)), (2, .int a1), (3, .int a2), (4, .int a3)] [] ρ Q := by
      intro ρ x b'' c' n' w hc' hn' j1 j2 j3 j4 j5
      have hSe := j1.2.2.1.2.1
      repeat refine kX_one rfl ?_
      refine kX_iastN rfl rfl (by decide) (6 * S + k) (by rw [hSe]; exact ix6 S k) (by omega) ?_
      iterate 2 (refine kX_one rfl ?_)
      have := ih (k + 1, va_up ρ 256 (upd (ρ 256) (6 * S + k) x)) ⟨q, b'', by rw [← hn']; exact mJ_at j1, mLow_trans j2 (mLow_up ρ _ (by decide)), j3, fun i hi => by
        simp only at hi ⊢
        rw [← hn']
        by_cases e : i = k
        · subst e
          exact j5
        · exact ssO_at e (j4 i (by omega))⟩ (by simp only; omega)
      dsimp only at this
      rw [← nI_1, ← hc'] at this
      exact kX_lv _ rfl rfl rfl this
    have hat : τ 246 (6 * r + k) = nI as := by rw [s2]; exact t9
    have has : as = 0 ∨ as = 1 ∨ as = 2 := by omega
    repeat refine kX_one rfl ?_
    refine kX_ialdV rfl rfl (by decide) (6 * r + k) (ix6 r k) (by omega) hat ?_
    have hstep : ∀ a, hma σ r a (k + 1) = hma σ r a k + if σ 246 (6 * r + k) = nI a then 1 else 0 := fun a => rfl
    rcases has with rfl | rfl | rfl
    · have e0 : hma σ r 0 (k + 1) = hma σ r 0 k + 1 := by rw [hstep, if_pos t9]
      have e1 : hma σ r 1 (k + 1) = hma σ r 1 k := by rw [hstep, if_neg (by rw [t9]; decide), Nat.add_zero]
      have hc3 : hma σ r 0 k < hma σ r 0 v := by
        have := hma_mono σ r 0 (show k + 1 ≤ v from q)
        omega
      obtain ⟨z, z1, z2, z3⟩ := hA _ hc3
      have hso := t10 rfl
      have fin : ∀ x w, x = nI z → kX kT L xs (d + 4) 170 254 [(9, .int x), (8, w), (7, .int (nI k)), (6, .int (nI (hma σ r 0 k + 1))), (0, .ref 232), (1, .int (nI r)), (2, .int a1), (3, .int a2), (4, .int a3)] [] τ Q := by
        intro x w hx
        refine key τ x b' _ (n + hma σ r 1 k) w e0.symm (by rw [e1]) i2 i3 ⟨s1, s2, s3, s4, s5⟩ i5 ⟨0, hat, Or.inr ⟨by omega, z, by omega, by rw [← hx]; exact pk_us, ?_⟩⟩
        show τ 233 z = τ 240 (fN (τ 245 (6 * r + k)))
        rw [s5 z z1, z3, s3, s4, t2, fN_nI (by omega), t7, hso]
        rfl
      have hc : hma σ r 0 k = 0 ∨ hma σ r 0 k = 1 ∨ hma σ r 0 k = 2 := by omega
      rcases hc with hc | hc | hc
      · rw [hc] at z2 fin ⊢
        iterate 12 (refine kX_one rfl ?_)
        exact kX_lv _ rfl rfl rfl (fin a1 (.int (nI 0)) z2)
      · rw [hc] at z2 fin ⊢
        iterate 15 (refine kX_one rfl ?_)
        exact kX_lv _ rfl rfl rfl (fin a2 (.int (nI 0)) z2)
      · rw [hc] at z2 fin ⊢
        iterate 14 (refine kX_one rfl ?_)
        exact kX_lv _ rfl rfl rfl (fin a3 (.int (nI 0)) z2)
    · have e0 : hma σ r 0 (k + 1) = hma σ r 0 k := by rw [hstep, if_neg (by rw [t9]; decide), Nat.add_zero]
      have e1 : hma σ r 1 (k + 1) = hma σ r 1 k + 1 := by rw [hstep, if_pos t9]
      have hle := hma_mono σ r 1 (show k + 1 ≤ v from q)
      have hvt2 : τ 245 (6 * r + k) = nI t := by rw [s3]; exact t2
      have hst2 : τ 240 t = nI so := by rw [s4]; exact t7
      have hso := t11 rfl
      repeat refine kX_one rfl ?_
      refine kX_ialdV rfl rfl (by decide) (6 * r + k) (ix6 r k) (by omega) hvt2 ?_
      refine kX_ialdV rfl rfl (by decide) (t) (by first | rfl | decide) (by omega) (hst2) ?_
      repeat refine kX_one rfl ?_
      refine kX_cal (mr_last L xs d τ (n + hma σ r 1 k) b' so (-1) (-1) 0 0 i2.1 (by omega) (Or.inl ⟨t6, rfl, rfl⟩) (by omega) (by omega) (by omega) (by unfold msz; rw [if_pos t6]; decide)) rfl (Or.inr rfl) rfl rfl rfl (fun r1 τ1 q1 => ?_)
      obtain ⟨rfl, hN⟩ := q1
      have hG := mGr_new hN
      have e := fun c (hc : c ∉ rowC) => hG.1 c hc
      have hkk : τ1 233 (n + hma σ r 1 k) = nI so := by
        obtain ⟨_, _, _, _, _, rfl, _⟩ := hN
        exact pk_us
      iterate 1 (refine kX_one rfl ?_)
      refine kX_lv _ rfl rfl rfl (key τ1 (nI (n + hma σ r 1 k)) 200 _ (n + hma σ r 1 k + 1) (.int (nI 1)) e0.symm (by rw [e1]; omega) (mJ_new i2 hN (by omega)) (mLow_trans i3 (mLow_gr hG)) ⟨(e _ (by decide)).trans s1, (e _ (by decide)).trans s2, (e _ (by decide)).trans s3, (e _ (by decide)).trans s4, fun u hu => ((hG.2.2 u (by omega)).1).trans (s5 u hu)⟩ (fun i hi => ssO_new (by omega) hN (i5 i hi)) ⟨1, ?_, Or.inr ⟨by omega, n + hma σ r 1 k, by omega, pk_us, ?_⟩⟩)
      · show τ1 246 (6 * r + k) = nI 1
        rw [e 246 (by decide)]
        exact hat
      · show τ1 233 (n + hma σ r 1 k) = τ1 240 (fN (τ1 245 (6 * r + k)))
        rw [hkk, e 245 (by decide), e 240 (by decide), hvt2, fN_nI (by omega), hst2]
    · have e0 : hma σ r 0 (k + 1) = hma σ r 0 k := by rw [hstep, if_neg (by rw [t9]; decide), Nat.add_zero]
      have e1 : hma σ r 1 (k + 1) = hma σ r 1 k := by rw [hstep, if_neg (by rw [t9]; decide), Nat.add_zero]
      iterate 8 (refine kX_one rfl ?_)
      exact kX_lv _ rfl rfl rfl (key τ (-6) b' _ (n + hma σ r 1 k) _ e0.symm (by rw [e1]) i2 i3 ⟨s1, s2, s3, s4, s5⟩ i5 ⟨2, hat, Or.inl ⟨rfl, pk_us⟩⟩)
end
section
/-! the reference: session -/
set_option maxRecDepth 100000 in
set_option maxHeartbeats 4000000 in
theorem mp_session (L : Nat) (xs : Nat → Int32) (d : Nat) (σ : kS) (n b R S C : Nat) (kl : List Nat) (x a1 a2 a3 : Int32) (h : mI σ n b R S C kl) : kXM kT L xs (d + 4) 170 [.ref 232, .int x, .int a1, .int a2, .int a3] σ (fun r σ' => (∃ x, r = some (.int x)) ∧ mAfter σ σ' R) := by
  have h0 := h
  obtain ⟨h1, h2, h3, h4, h5, h6, h7⟩ := h
  have hn := h1.1
  have hR4 := h2.1
  have hS4 := h3.1
  unfold kXM
  repeat refine kX_one rfl ?_
  refine kX_cal (mr_isRole L xs (d + 2) σ R x h2.2.1 (by omega)) rfl (Or.inr rfl) rfl rfl rfl (fun r1 σ1 q1 => ?_)
  obtain ⟨rfl, rfl⟩ := q1
  repeat refine kX_one rfl ?_
  refine kX_if (fun q => ?_) (fun q => ?_)
  · obtain ⟨r, hr, rfl⟩ := isB_ne.mp (qne q)
    obtain ⟨⟨v, hv6, hv⟩, -⟩ := h2.2.2.1 r hr
    have H0 := hma_le σ r 0 v
    have H1 := hma_le σ r 1 v
    have k154 : σ 232 52 = 0 → S < 4 → n + hma σ r 1 v ≤ 200 → hma σ r 0 v ≤ 3 → (∀ i, i < hma σ r 0 v → ∃ z, z < n ∧ (if i = 0 then a1 else if i = 1 then a2 else a3) = nI z ∧ σ 233 z = 0) → kX kT L xs (d + 4) 170 154 [(5, .int (nI (hma σ r 0 v))), (0, .ref 232), (1, .int (nI r)), (2, .int a1), (3, .int a2), (4, .int a3)] [] σ (fun r σ' => (∃ x, r = some (.int x)) ∧ mAfter σ σ' R) := by
      intro g1 g2 g3 g4 g5
      iterate 4 (refine kX_one rfl ?_)
      refine kX_lv _ rfl rfl rfl (mr_sessionL L xs d σ n R S C r v kl a1 a2 a3 0 hR4 hr g2 hv6 hv g3 g4 g5 h2 _ (fun τ n' b' j1 j2 j3 j4 => ?_) (0, σ) ⟨Nat.zero_le _, b, ⟨h1, h2, h3, h4, h5, g1⟩, mLow_refl σ, ⟨rfl, rfl, rfl, rfl, fun _ _ => rfl⟩, fun i hi => absurd hi (Nat.not_lt_zero i)⟩)
      have hSe := j1.2.2.1.2.1
      repeat refine kX_one rfl ?_
      refine kX_iastN rfl rfl (by decide) (S) (hSe) (by omega) ?_
      repeat refine kX_one rfl ?_
      refine kX_bastN rfl rfl (by decide) (r) (by first | rfl | decide) (by omega) (Or.inr rfl) ?_
      repeat refine kX_one rfl ?_
      refine kX_st (seS τ S r) ?_ ?_
      · rw [seS, nI_succ S, ← hSe]
        rfl
      refine kX_cal (mr_forget L xs (d + 2) _) rfl (Or.inr rfl) rfl rfl rfl (fun r1 σ1 q1 => ?_)
      obtain ⟨rfl, rfl⟩ := q1
      repeat refine kX_one rfl ?_
      refine kX_ret (i := .ireturn) (len := 1) rfl (Or.inr rfl) rfl (⟨⟨_, rfl⟩, mLow_trans j2 mLow_se, n', b', S + 1, C, kl, mI_se j1 g2 hr (fun i hi => j4 i (by rw [j3.1, hv, fN_nI (by omega)] at hi; exact hi))⟩)
    have k62 : (0 < hma σ r 0 v → isN a1 n) → (1 < hma σ r 0 v → isN a2 n) → (2 < hma σ r 0 v → isN a3 n) → kX kT L xs (d + 4) 170 62 [(5, .int (nI (hma σ r 0 v))), (0, .ref 232), (1, .int (nI r)), (2, .int a1), (3, .int a2), (4, .int a3)] [] σ (fun r σ' => (∃ x, r = some (.int x)) ∧ mAfter σ σ' R) := by
      intro p1 p2 p3
      repeat refine kX_one rfl ?_
      refine kX_if (fun q => ?_) (fun q => ?_)
      · have hruns : σ 232 52 = 0 := qeq q
        repeat refine kX_one rfl ?_
        refine kX_if (fun q => ?_) (fun q => ?_)
        · repeat refine kX_one rfl ?_
          refine kX_ret (i := .ireturn) (len := 1) rfl (Or.inr rfl) rfl (⟨⟨_, rfl⟩, mAfter_same h0⟩)
        · have hS : S ≠ 4 := fun e => qeqF q (by rw [h3.2.1, e]; rfl)
          have hS3 : S < 4 := by omega
          repeat refine kX_one rfl ?_
          refine kX_cal (mr_howManyAs L xs (d + 2) σ r 1 v (by omega) (by omega) hv6 hv) rfl (Or.inr rfl) rfl rfl rfl (fun r1 σ1 q1 => ?_)
          obtain ⟨rfl, rfl⟩ := q1
          have et : σ 232 9 + nI (hma σ r 1 v) = nI (n + hma σ r 1 v) := by rw [h1.2.2.2.1]; exact nI_add _ _
          iterate 1 (refine kX_one rfl ?_)
          refine kX_top (et) ?_
          repeat refine kX_one rfl ?_
          refine kX_if (fun q => ?_) (fun q => ?_)
          · have hle := qle q (n + hma σ r 1 v) 200
            have k135 : hma σ r 0 v ≤ 3 → (0 < hma σ r 0 v → ∃ z, z < n ∧ a1 = nI z ∧ σ 233 z = 0) → (1 < hma σ r 0 v → ∃ z, z < n ∧ a2 = nI z ∧ σ 233 z = 0) → kX kT L xs (d + 4) 170 135 [(5, .int (nI (hma σ r 0 v))), (0, .ref 232), (1, .int (nI r)), (2, .int a1), (3, .int a2), (4, .int a3)] [] σ (fun r σ' => (∃ x, r = some (.int x)) ∧ mAfter σ σ' R) := by
              intro g1 g2 g3
              repeat refine kX_one rfl ?_
              refine kX_if (fun q => ?_) (fun q => ?_)
              · have q := qle q (hma σ r 0 v) 2
                refine k154 hruns hS3 hle g1 (fun i hi => ?_)
                have : i = 0 ∨ i = 1 := by omega
                rcases this with rfl | rfl
                · exact g2 hi
                · exact g3 hi
              · have q := qleF q (hma σ r 0 v) 2
                obtain ⟨z, hz, rfl⟩ := p3 q
                repeat refine kX_one rfl ?_
                refine kX_ialdN rfl rfl (by decide) (z) (by first | rfl | decide) (by omega) ?_
                repeat refine kX_one rfl ?_
                refine kX_if (fun q2 => ?_) (fun q2 => ?_)
                · refine k154 hruns hS3 hle g1 (fun i hi => ?_)
                  have : i = 0 ∨ i = 1 ∨ i = 2 := by omega
                  rcases this with rfl | rfl | rfl
                  · exact g2 hi
                  · exact g3 hi
                  · exact ⟨z, hz, rfl, qeq q2⟩
                · repeat refine kX_one rfl ?_
                  refine kX_ret (i := .ireturn) (len := 1) rfl (Or.inr rfl) rfl (⟨⟨_, rfl⟩, mAfter_same h0⟩)
            have k120 : hma σ r 0 v ≤ 3 → (0 < hma σ r 0 v → ∃ z, z < n ∧ a1 = nI z ∧ σ 233 z = 0) → kX kT L xs (d + 4) 170 120 [(5, .int (nI (hma σ r 0 v))), (0, .ref 232), (1, .int (nI r)), (2, .int a1), (3, .int a2), (4, .int a3)] [] σ (fun r σ' => (∃ x, r = some (.int x)) ∧ mAfter σ σ' R) := by
              intro g1 g2
              repeat refine kX_one rfl ?_
              refine kX_if (fun q => ?_) (fun q => ?_)
              · have q := qle q (hma σ r 0 v) 1
                exact k135 g1 g2 (fun z => by omega)
              · have q := qleF q (hma σ r 0 v) 1
                obtain ⟨z, hz, rfl⟩ := p2 q
                repeat refine kX_one rfl ?_
                refine kX_ialdN rfl rfl (by decide) (z) (by first | rfl | decide) (by omega) ?_
                repeat refine kX_one rfl ?_
                refine kX_if (fun q2 => ?_) (fun q2 => ?_)
                · repeat refine kX_one rfl ?_
                  refine kX_ret (i := .ireturn) (len := 1) rfl (Or.inr rfl) rfl (⟨⟨_, rfl⟩, mAfter_same h0⟩)
                · exact k135 g1 g2 (fun _ => ⟨z, hz, rfl, qneF q2⟩)
            repeat refine kX_one rfl ?_
            refine kX_if (fun q => ?_) (fun q => ?_)
            · repeat refine kX_one rfl ?_
              refine kX_ret (i := .ireturn) (len := 1) rfl (Or.inr rfl) rfl (⟨⟨_, rfl⟩, mAfter_same h0⟩)
            · have g1 := qgtF q (hma σ r 0 v) 3
              repeat refine kX_one rfl ?_
              refine kX_if (fun q => ?_) (fun q => ?_)
              · have q := qle q (hma σ r 0 v) 0
                exact k120 g1 (fun z => by omega)
              · have q := qleF q (hma σ r 0 v) 0
                obtain ⟨z, hz, rfl⟩ := p1 q
                repeat refine kX_one rfl ?_
                refine kX_ialdN rfl rfl (by decide) (z) (by first | rfl | decide) (by omega) ?_
                repeat refine kX_one rfl ?_
                refine kX_if (fun q2 => ?_) (fun q2 => ?_)
                · repeat refine kX_one rfl ?_
                  refine kX_ret (i := .ireturn) (len := 1) rfl (Or.inr rfl) rfl (⟨⟨_, rfl⟩, mAfter_same h0⟩)
                · exact k120 g1 (fun _ => ⟨z, hz, rfl, qneF q2⟩)
          · repeat refine kX_one rfl ?_
            refine kX_ret (i := .ireturn) (len := 1) rfl (Or.inr rfl) rfl (⟨⟨_, rfl⟩, mAfter_same h0⟩)
      · repeat refine kX_one rfl ?_
        refine kX_ret (i := .ireturn) (len := 1) rfl (Or.inr rfl) rfl (⟨⟨_, rfl⟩, mAfter_same h0⟩)
    have k45 : (0 < hma σ r 0 v → isN a1 n) → (1 < hma σ r 0 v → isN a2 n) → kX kT L xs (d + 4) 170 45 [(5, .int (nI (hma σ r 0 v))), (0, .ref 232), (1, .int (nI r)), (2, .int a1), (3, .int a2), (4, .int a3)] [] σ (fun r σ' => (∃ x, r = some (.int x)) ∧ mAfter σ σ' R) := by
      intro p1 p2
      repeat refine kX_one rfl ?_
      refine kX_if (fun q => ?_) (fun q => ?_)
      · have q := qle q (hma σ r 0 v) 2
        exact k62 p1 p2 (fun z => by omega)
      · repeat refine kX_one rfl ?_
        refine kX_cal (mr_isTerm L xs (d + 2) σ n a3 h1.2.2.2.1 (by omega)) rfl (Or.inr rfl) rfl rfl rfl (fun r1 σ1 q1 => ?_)
        obtain ⟨rfl, rfl⟩ := q1
        repeat refine kX_one rfl ?_
        refine kX_if (fun q => ?_) (fun q => ?_)
        · exact k62 p1 p2 (fun _ => isB_ne.mp (qne q))
        · repeat refine kX_one rfl ?_
          refine kX_ret (i := .ireturn) (len := 1) rfl (Or.inr rfl) rfl (⟨⟨_, rfl⟩, mAfter_same h0⟩)
    have k31 : (0 < hma σ r 0 v → isN a1 n) → kX kT L xs (d + 4) 170 31 [(5, .int (nI (hma σ r 0 v))), (0, .ref 232), (1, .int (nI r)), (2, .int a1), (3, .int a2), (4, .int a3)] [] σ (fun r σ' => (∃ x, r = some (.int x)) ∧ mAfter σ σ' R) := by
      intro p1
      repeat refine kX_one rfl ?_
      refine kX_if (fun q => ?_) (fun q => ?_)
      · have q := qle q (hma σ r 0 v) 1
        exact k45 p1 (fun z => by omega)
      · repeat refine kX_one rfl ?_
        refine kX_cal (mr_isTerm L xs (d + 2) σ n a2 h1.2.2.2.1 (by omega)) rfl (Or.inr rfl) rfl rfl rfl (fun r1 σ1 q1 => ?_)
        obtain ⟨rfl, rfl⟩ := q1
        repeat refine kX_one rfl ?_
        refine kX_if (fun q => ?_) (fun q => ?_)
        · repeat refine kX_one rfl ?_
          refine kX_ret (i := .ireturn) (len := 1) rfl (Or.inr rfl) rfl (⟨⟨_, rfl⟩, mAfter_same h0⟩)
        · exact k45 p1 (fun _ => isB_ne.mp (qeqF q))
    repeat refine kX_one rfl ?_
    refine kX_cal (mr_howManyAs L xs (d + 2) σ r 0 v (by omega) (by omega) hv6 hv) rfl (Or.inr rfl) rfl rfl rfl (fun r1 σ1 q1 => ?_)
    obtain ⟨rfl, rfl⟩ := q1
    repeat refine kX_one rfl ?_
    refine kX_if (fun q => ?_) (fun q => ?_)
    · have q := qle q (hma σ r 0 v) 0
      exact k31 (fun z => by omega)
    · repeat refine kX_one rfl ?_
      refine kX_cal (mr_isTerm L xs (d + 2) σ n a1 h1.2.2.2.1 (by omega)) rfl (Or.inr rfl) rfl rfl rfl (fun r1 σ1 q1 => ?_)
      obtain ⟨rfl, rfl⟩ := q1
      repeat refine kX_one rfl ?_
      refine kX_if (fun q => ?_) (fun q => ?_)
      · repeat refine kX_one rfl ?_
        refine kX_ret (i := .ireturn) (len := 1) rfl (Or.inr rfl) rfl (⟨⟨_, rfl⟩, mAfter_same h0⟩)
      · exact k31 (fun _ => isB_ne.mp (qeqF q))
  · repeat refine kX_one rfl ?_
    refine kX_ret (i := .ireturn) (len := 1) rfl (Or.inr rfl) rfl (⟨⟨_, rfl⟩, mAfter_same h0⟩)
end
section
/-! the reference: the TERMS without numbers in their order: isOpen, lastOf -/
set_option maxRecDepth 100000 in
set_option maxHeartbeats 4000000 in
theorem mr_isOpen (L : Nat) (xs : Nat → Int32) (d : Nat) (σ : kS) (u : Nat) (hu : u < 1000) : kXM kT L xs (d + 1) 200 [.ref 232, .int (nI u)] σ (fun r σ' => r = some (.int (isB (200 ≤ u ∧ σ 280 u = 0))) ∧ σ = σ') := by
  unfold kXM
  repeat refine kX_one rfl ?_
  refine kX_if (fun q => ?_) (fun q => ?_)
  · have q := qlt q u 200
    repeat refine kX_one rfl ?_
    refine kX_ret (i := .ireturn) (len := 1) rfl (Or.inr rfl) rfl (⟨by rw [isB_F (fun z => by omega)]; rfl, rfl⟩)
  · have q := qltF q u 200
    repeat refine kX_one rfl ?_
    refine kX_baldN rfl rfl (by decide) (u) (by first | rfl | decide) (hu) ?_
    repeat refine kX_one rfl ?_
    refine kX_if (fun q2 => ?_) (fun q2 => ?_)
    · repeat refine kX_one rfl ?_
      refine kX_ret (i := .ireturn) (len := 1) rfl (Or.inr rfl) rfl (⟨by rw [isB_F (fun z => qne q2 z.2)]; rfl, rfl⟩)
    · repeat refine kX_one rfl ?_
      refine kX_ret (i := .ireturn) (len := 1) rfl (Or.inr rfl) rfl (⟨by rw [isB_T ⟨q, qneF q2⟩]; rfl, rfl⟩)
set_option maxRecDepth 100000 in
set_option maxHeartbeats 4000000 in
theorem mr_isOpenN (L : Nat) (xs : Nat → Int32) (d : Nat) (σ : kS) : kXM kT L xs (d + 1) 200 [.ref 232, .int (-1)] σ (fun r σ' => r = some (.int 0) ∧ σ = σ') := by
  unfold kXM
  repeat refine kX_one rfl ?_
  refine kX_ret (i := .ireturn) (len := 1) rfl (Or.inr rfl) rfl (⟨rfl, rfl⟩)
set_option maxRecDepth 100000 in
set_option maxHeartbeats 4000000 in
theorem mr_lastOf (L : Nat) (xs : Nat → Int32) (d : Nat) (σ : kS) (x y : Int32) : kXM kT L xs (d + 1) 202 [.ref 232, .int x, .int y] σ (fun r σ' => r = some (.int (if x < 0 then x + 1000 else y + x)) ∧ σ = σ') := by
  unfold kXM
  repeat refine kX_one rfl ?_
  refine kX_if (fun q => ?_) (fun q => ?_)
  · have q : ¬ x < 0 := fun z => by
      have := of_decide_eq_true q
      exact absurd z (Int32.not_lt.mpr this)
    repeat refine kX_one rfl ?_
    refine kX_ret (i := .ireturn) (len := 1) rfl (Or.inr rfl) rfl (⟨by rw [if_neg q], rfl⟩)
  · have q : x < 0 := Int32.not_le.mp (of_decide_eq_false q)
    repeat refine kX_one rfl ?_
    refine kX_ret (i := .ireturn) (len := 1) rfl (Or.inr rfl) rfl (⟨by rw [if_pos q]; rfl, rfl⟩)
end
section
/-! the reference: inOrder -/
set_option maxRecDepth 100000 in
set_option maxHeartbeats 4000000 in
theorem mr_inOrderN (L : Nat) (xs : Nat → Int32) (d : Nat) (σ : kS) (t : Nat) (ht : t < 200) : kXM kT L xs (d + 1) 201 [.ref 232, .int (nI t)] σ (fun r σ' => r = some (.int (nI t - 1000)) ∧ σ = σ') := by
  unfold kXM
  repeat refine kX_one rfl ?_
  refine kX_if (fun q => ?_) (fun q => ?_)
  · have q := qge q t 200
    omega
  · repeat refine kX_one rfl ?_
    refine kX_ret (i := .ireturn) (len := 1) rfl (Or.inr rfl) rfl (⟨rfl, rfl⟩)
set_option maxRecDepth 100000 in
set_option maxHeartbeats 4000000 in
theorem mr_inOrder (L : Nat) (xs : Nat → Int32) (d : Nat) (σ : kS) (l : List Nat) (i : Nat) (hi : i < l.length) (hl : lst (σ 279) l) (h600 : l.length ≤ 600) (h200 : 200 ≤ l[i]) (h1000 : ∀ t ∈ l, t < 1000) (hf : ∀ j (hj : j < l.length), j < i → l[j] ≠ l[i]) : kXM kT L xs (d + 1) 201 [.ref 232, .int (nI l[i])] σ (fun r σ' => r = some (.int (nI i)) ∧ σ = σ') := by
  unfold kXM
  have hlt := h1000 _ (List.getElem_mem hi)
  have loop : ∀ k, k ≤ i → kX kT L xs (d + 1) 201 15 [(2, .int (nI k)), (0, .ref 232), (1, .int (nI l[i]))] [] σ (fun r σ' => r = some (.int (nI i)) ∧ σ = σ') := by
    refine kX_while (fun k : Nat => [(2, .int (nI k)), (0, .ref 232), (1, .int (nI l[i]))]) (fun _ => σ) _ (fun k => i - k) ?_
    intro k hk ih
    have hkl : k < l.length := by omega
    have hkt := h1000 _ (List.getElem_mem hkl)
    iterate 3 (refine kX_one rfl ?_)
    refine kX_ialdV rfl rfl (by decide) (k) (by first | rfl | decide) (by omega) (hl k hkl) ?_
    repeat refine kX_one rfl ?_
    refine kX_if (fun q => ?_) (fun q => ?_)
    · have q : l[k] = l[i] := nI_inj (qeq q)
      have : k = i := Decidable.byContradiction (fun e => hf k hkl (by omega) q)
      subst this
      repeat refine kX_one rfl ?_
      refine kX_ret (i := .ireturn) (len := 1) rfl (Or.inr rfl) rfl (⟨rfl, rfl⟩)
    · have q : l[k] ≠ l[i] := fun e => qeqF q (by rw [e])
      have hki : k ≠ i := fun e => by
        subst e
        exact q rfl
      iterate 2 (refine kX_one rfl ?_)
      have := ih (k + 1) (by omega) (by omega)
      rw [← nI_1] at this
      exact kX_lv _ rfl rfl rfl this
  repeat refine kX_one rfl ?_
  refine kX_if (fun q => ?_) (fun q => ?_)
  · iterate 2 (refine kX_one rfl ?_)
    exact kX_lv _ rfl rfl rfl (loop 0 (Nat.zero_le _))
  · have q := qgeF q l[i] 200
    omega
end
section
/-! the reference: findOrder, what it begins with -/
set_option maxRecDepth 100000 in
set_option maxHeartbeats 4000000 in
theorem mr_fo_init (L : Nat) (xs : Nat → Int32) (d : Nat) (σ : kS) (n b : Nat) (h : mTb σ n b) (tv : Int32) (Q : Option Value → kS → Prop)
    (he : ∀ I, (∀ j, 200 ≤ j → j < b → I j = 0) → kX kT L xs (d + 1) 199 30 [(0, .ref 232), (1, .int tv)] [] (va_up σ 280 I) Q) :
    ∀ q : Nat × (Nat → Int32), (200 ≤ q.1 ∧ q.1 ≤ b ∧ ∀ j, 200 ≤ j → j < q.1 → q.2 j = 0) → kX kT L xs (d + 1) 199 9 [(2, .int (nI q.1)), (0, .ref 232), (1, .int tv)] [] (va_up σ 280 q.2) Q := by
  have hb := h.2.2.1
  have hbb := h.2.2.2.2.1
  refine kX_while (fun q : Nat × (Nat → Int32) => [(2, .int (nI q.1)), (0, .ref 232), (1, .int tv)]) (fun q => va_up σ 280 q.2) _ (fun q => b - q.1) ?_
  rintro ⟨k, I⟩ ⟨i1, i2, i3⟩ ih
  dsimp only at i1 i2 i3 ih ⊢
  iterate 3 (refine kX_one rfl ?_)
  refine kX_top (hbb) ?_
  repeat refine kX_one rfl ?_
  refine kX_if (fun q => ?_) (fun q => ?_)
  · have q := qge q k b
    exact kX_lv _ rfl rfl rfl (he I (fun j j1 j2 => i3 j j1 (by omega)))
  · have q := qgeF q k b
    iterate 4 (refine kX_one rfl ?_)
    refine kX_bastN rfl rfl (by decide) (k) (by first | rfl | decide) (by omega) (Or.inl rfl) ?_
    iterate 2 (refine kX_one rfl ?_)
    have := ih (k + 1, upd I k 0) ⟨by simp only; omega, q, fun j j1 j2 => by
      simp only at j2 ⊢
      by_cases e : j = k
      · subst e
        exact pk_us
      · rw [pk_un e]
        exact i3 j j1 (by omega)⟩ (by simp only; omega)
    dsimp only at this
    rw [← nI_1] at this
    refine kX_to _ _ rfl rfl rfl ?_ this
    funext c; unfold  va_up; repeat' split
    all_goals first | rfl | omega | (subst_vars; rfl) | (funext j; unfold upd; repeat' split; all_goals first | rfl | omega | (subst_vars; rfl))
end
section
/-! the reference: findOrder, its way down -/
theorem cnt_rng {f : Nat → Prop} {lo hi : Nat} (h : ∀ t, f t → lo ≤ t ∧ t < hi) : ∀ m, cnt f m ≤ min m hi - lo
  | 0 => by simp [cnt]
  | m + 1 => by
    have := cnt_rng h m
    unfold cnt
    split
    · next e =>
      have := h m e
      omega
    · omega
theorem first_idx {y : Nat} : ∀ (l : List Nat), y ∈ l → ∃ i, ∃ h : i < l.length, l[i] = y ∧ ∀ j (hj : j < l.length), j < i → l[j] ≠ y
  | [], h => by cases h
  | a :: l, h => by
    by_cases e : a = y
    · exact ⟨0, by simp, by simpa using e, fun j _ hj => absurd hj (Nat.not_lt_zero _)⟩
    · have h : y ∈ l := by
        rcases List.mem_cons.mp h with h | h
        · exact absurd h.symm e
        · exact h
      obtain ⟨i, h1, h2, h3⟩ := first_idx l h
      refine ⟨i + 1, by simp; omega, by simpa using h2, fun j hj hji => ?_⟩
      cases j with
      | zero => simpa using e
      | succ j => simpa using h3 j (by simp at hj; omega) (by omega)
/-- TERMS without numbers, each behind what it is of -/
def foL (σ : kS) (b : Nat) (l : List Nat) : Prop := (∀ x ∈ l, 200 ≤ x ∧ x < b ∧ tsz (σ 233) (σ 234) (σ 235) x ≤ 24) ∧ cnt (fun x => x ∈ l) 1000 = l.length ∧ (∀ i (h : i < l.length) y, 200 ≤ y → (σ 234 (l[i]'h) = nI y ∨ σ 235 (l[i]'h) = nI y) → y < 1000 → y ∈ l.take i) ∧ l.Pairwise (fun x y => x ≠ y)
theorem foL_nil (σ : kS) (b : Nat) : foL σ b [] := ⟨fun x hx => (by cases hx), by
  have := cnt_rng (f := fun x : Nat => x ∈ ([] : List Nat)) (lo := 0) (hi := 0) (fun t ht => (by cases ht)) 1000
  simp at this ⊢
  omega, fun i h => absurd h (Nat.not_lt_zero i), List.Pairwise.nil⟩
theorem foL_len {σ : kS} {b : Nat} {l : List Nat} (h : foL σ b l) (hb : b ≤ 776) : l.length ≤ 576 := by
  have := cnt_rng (f := fun x => x ∈ l) (lo := 200) (hi := b) (fun t ht => ⟨(h.1 t ht).1, (h.1 t ht).2.1⟩) 1000
  rw [h.2.1] at this
  omega
theorem foL_push {σ : kS} {b x : Nat} {l : List Nat} (h : foL σ b l) (hb : b ≤ 1000) (h1 : 200 ≤ x) (h2 : x < b) (h3 : tsz (σ 233) (σ 234) (σ 235) x ≤ 24) (h4 : x ∉ l) (h5 : ∀ y, 200 ≤ y → (σ 234 x = nI y ∨ σ 235 x = nI y) → y < 1000 → y ∈ l) : foL σ b (l ++ [x]) := by
  refine ⟨fun y hy => ?_, ?_, fun i hi y hy1 hy2 hy3 => ?_, ?_⟩
  · rcases List.mem_append.mp hy with q | q
    · exact h.1 y q
    · rw [List.mem_singleton] at q
      subst q
      exact ⟨h1, h2, h3⟩
  · rw [cnt_add (f := fun y => y ∈ l) (t := x) h4 (fun u => by simp) 1000 (by omega), h.2.1]
    simp
  · simp only [List.length_append, List.length_cons, List.length_nil] at hi
    by_cases e : i = l.length
    · subst e
      simp only [List.getElem_append_right (Nat.le_refl _), Nat.sub_self, List.getElem_cons_zero] at hy2
      have := h5 y hy1 hy2 hy3
      simpa using this
    · have hl : i < l.length := by omega
      rw [List.getElem_append_left hl] at hy2
      rw [List.take_append_of_le_length (by omega)]
      exact h.2.2.1 i hl y hy1 hy2 hy3
  · rw [List.pairwise_append]
    refine ⟨h.2.2.2, List.pairwise_singleton _ _, fun u hu v hv => ?_⟩
    rw [List.mem_singleton] at hv
    subst hv
    exact fun e => h4 (e ▸ hu)
/-- where findOrder stands -/
def foI (σ : kS) (b t : Nat) (sk l : List Nat) (W I O : Nat → Int32) : Prop := lst W sk ∧ lst O l ∧ (∀ x ∈ sk, 200 ≤ x ∧ x < b ∧ tsz (σ 233) (σ 234) (σ 235) x ≤ 24 ∧ x ∉ l) ∧ sk.Pairwise (fun x y => y < x) ∧ (∀ i (h : i < sk.length), (sk[i]'h) + i < b) ∧ (∀ j, 200 ≤ j → j < b → I j = isB (j ∈ l)) ∧ foL σ b l ∧ (t ∈ sk ∨ t ∈ l)
def foS (σ : kS) (W I O : Nat → Int32) (m : Int32) : kS := va_up (va_up (va_up (va_up σ 252 W) 280 I) 279 O) 232 (upd (σ 232) 61 m)
theorem foI_len {σ : kS} {b t : Nat} {sk l : List Nat} {W I O : Nat → Int32} (h : foI σ b t sk l W I O) (hb : b ≤ 776) : sk.length ≤ 576 := by
  rcases snoc_cases sk with rfl | ⟨s, x, rfl⟩
  · simp
  · have h1 := (h.2.2.1 x (by simp)).1
    have h2 := h.2.2.2.2.1 s.length (by simp)
    simp at h2 ⊢
    omega
/-- one more that waits -/
theorem foI_push {σ : kS} {b t x y : Nat} {s l : List Nat} {W I O : Nat → Int32} (h : foI σ b t (s ++ [x]) l W I O) (h1 : 200 ≤ y) (h2 : y < x) (h3 : tsz (σ 233) (σ 234) (σ 235) y ≤ 24) (h4 : y ∉ l) : foI σ b t (s ++ [x] ++ [y]) l (upd W (s ++ [x]).length (nI y)) I O := by
  obtain ⟨g1, g2, g3, g4, g5, g6, g7, g8⟩ := h
  refine ⟨lst_push g1 y, g2, fun u hu => ?_, ?_, fun i hi => ?_, g6, g7, ?_⟩
  · rcases List.mem_append.mp hu with q | q
    · exact g3 u q
    · rw [List.mem_singleton] at q
      subst q
      have := g3 x (by simp)
      exact ⟨h1, by omega, h3, h4⟩
  · rw [List.pairwise_append]
    refine ⟨g4, List.pairwise_singleton _ _, fun u hu v hv => ?_⟩
    rw [List.mem_singleton] at hv
    subst hv
    rcases List.mem_append.mp hu with q | q
    · have := (List.pairwise_append.mp g4).2.2 u q x (by simp)
      omega
    · rw [List.mem_singleton] at q
      omega
  · by_cases e : i < (s ++ [x]).length
    · rw [List.getElem_append_left e]
      exact g5 i e
    · have e2 : i = (s ++ [x]).length := by
        simp at hi e ⊢
        omega
      subst e2
      rw [List.getElem_append_right (Nat.le_refl _)]
      have := g5 s.length (by simp)
      simp at this ⊢
      omega
  · rcases g8 with q | q
    · exact Or.inl (List.mem_append_left _ q)
    · exact Or.inr q
/-- one more in the order -/
theorem foI_ord {σ : kS} {b t x : Nat} {s l : List Nat} {W I O : Nat → Int32} (h : foI σ b t (s ++ [x]) l W I O) (hb : b ≤ 1000) (h5 : ∀ y, 200 ≤ y → (σ 234 x = nI y ∨ σ 235 x = nI y) → y < 1000 → y ∈ l) : foI σ b t s (l ++ [x]) W (upd I x 1) (upd O l.length (nI x)) := by
  obtain ⟨g1, g2, g3, g4, g5, g6, g7, g8⟩ := h
  obtain ⟨x1, x2, x3, x4⟩ := g3 x (by simp)
  have hp := List.pairwise_append.mp g4
  refine ⟨(lst_pop g1).2, lst_push g2 x, fun u hu => ?_, hp.1, fun i hi => ?_, fun j j1 j2 => ?_, foL_push g7 hb x1 x2 x3 x4 h5, ?_⟩
  · obtain ⟨a1, a2, a3, a4⟩ := g3 u (by simp [hu])
    have := hp.2.2 u hu x (by simp)
    exact ⟨a1, a2, a3, by
      simp only [List.mem_append, List.mem_singleton, not_or]
      exact ⟨a4, by omega⟩⟩
  · have := g5 i (by simp; omega)
    rw [List.getElem_append_left hi] at this
    exact this
  · by_cases e : j = x
    · subst e
      rw [pk_us, isB_T (by simp)]
    · rw [pk_un e, g6 j j1 j2]
      have : (j ∈ l) = (j ∈ l ++ [x]) := propext ⟨fun q => by simp [q], fun q => by
        rcases List.mem_append.mp q with q | q
        · exact q
        · exact absurd (List.mem_singleton.mp q) e⟩
      rw [this]
  · rcases g8 with q | q
    · rcases List.mem_append.mp q with q | q
      · exact Or.inl q
      · exact Or.inr (List.mem_append_right _ q)
    · exact Or.inr (List.mem_append_left _ q)
end
section
/-! the reference: findOrder -/
set_option maxRecDepth 100000 in
set_option maxHeartbeats 4000000 in
theorem mr_fo_loop (L : Nat) (xs : Nat → Int32) (d : Nat) (σ : kS) (n b t : Nat) (h : mTb σ n b) (hb : b ≤ 776) (tv : Int32) (Q : Option Value → kS → Prop)
    (he : ∀ l W I O, lst O l → foL σ b l → t ∈ l → kX kT L xs (d + 2) 199 169 [(0, .ref 232), (1, .int tv)] [] (foS σ W I O (nI l.length)) Q) :
    ∀ q : List Nat × List Nat × (Nat → Int32) × (Nat → Int32) × (Nat → Int32), foI σ b t q.1 q.2.1 q.2.2.1 q.2.2.2.1 q.2.2.2.2 → kX kT L xs (d + 2) 199 39 [(2, .int (nI q.1.length)), (0, .ref 232), (1, .int tv)] [] (foS σ q.2.2.1 q.2.2.2.1 q.2.2.2.2 (nI q.2.1.length)) Q := by
  refine kX_while (fun q : List Nat × List Nat × (Nat → Int32) × (Nat → Int32) × (Nat → Int32) => [(2, .int (nI q.1.length)), (0, .ref 232), (1, .int tv)]) (fun q => foS σ q.2.2.1 q.2.2.2.1 q.2.2.2.2 (nI q.2.1.length)) _ (fun q => 2 * (1000 - q.2.1.length) + (1000 - q.1.length)) ?_
  rintro ⟨sk, l, W, I, O⟩ hI ih
  dsimp only at hI ih ⊢
  have hlk := foI_len hI hb
  have hll := foL_len hI.2.2.2.2.2.2.1 hb
  rcases snoc_cases sk with rfl | ⟨s, x, rfl⟩
  · iterate 2 (refine kX_one rfl ?_)
    exact kX_lv _ rfl rfl rfl (he l W I O hI.2.1 hI.2.2.2.2.2.2.1 (hI.2.2.2.2.2.2.2.elim (fun q => (by cases q)) id))
  · obtain ⟨w1, -⟩ := lst_pop hI.1
    obtain ⟨x1, x2, x3, x4⟩ := hI.2.2.1 x (by simp)
    have hV := h.2.2.2.2.2.1.1
    have hkx := h.2.2.2.2.2.2.2.2.1 x x1 x2
    have hsl : (s ++ [x]).length = s.length + 1 := by simp
    have hx0 : I x = 0 := by rw [hI.2.2.2.2.2.1 x x1 x2, isB_F x4]
    have hback : ∀ (sk' l' : List Nat) (W' I' O' : Nat → Int32) (τ : kS), foI σ b t sk' l' W' I' O' → τ = foS σ W' I' O' (nI l'.length) → 2 * (1000 - l'.length) + (1000 - sk'.length) < 2 * (1000 - l.length) + (1000 - (s ++ [x]).length) → ∀ lv, nk lv = true → ([(2, Value.int (nI sk'.length)), (0, .ref 232), (1, .int tv)] : jL).map (fun q => jl lv q.1) = ([(2, Value.int (nI sk'.length)), (0, .ref 232), (1, .int tv)] : jL).map (fun q => some q.2) → kX kT L xs (d + 2) 199 166 lv [] τ Q := by
      intro sk' l' W' I' O' τ j1 e j2 lv hk hlv
      refine kX_lv _ hk rfl hlv ?_
      rw [e]
      iterate 1 (refine kX_one rfl ?_)
      exact ih (sk', l', W', I', O') j1 j2
    have hpush : ∀ y, 200 ≤ y → y < x → tsz (σ 233) (σ 234) (σ 235) y ≤ 24 → I y = 0 → foI σ b t (s ++ [x] ++ [y]) l (upd W (s.length + 1) (nI y)) I O := by
      intro y y1 y2 y3 y4
      rw [← hsl]
      refine foI_push hI y1 y2 y3 (fun hh => ?_)
      rw [hI.2.2.2.2.2.1 y y1 (by omega), isB_T hh] at y4
      exact absurd y4 (by decide)
    have k136 : (∀ y, 200 ≤ y → (σ 234 x = nI y ∨ σ 235 x = nI y) → y < 1000 → y ∈ l) → kX kT L xs (d + 2) 199 136 [(3, .int (nI x)), (2, .int (nI (s.length + 1))), (0, .ref 232), (1, .int tv)] [] (foS σ W I O (nI l.length)) Q := by
      intro hcl
      iterate 4 (refine kX_one rfl ?_)
      refine kX_bastN rfl rfl (by decide) (x) (by first | rfl | decide) (by omega) (Or.inr rfl) ?_
      iterate 5 (refine kX_one rfl ?_)
      refine kX_iastN rfl rfl (by decide) (l.length) (by first | rfl | decide) (by omega) ?_
      iterate 7 (refine kX_one rfl ?_)
      refine hback s (l ++ [x]) W (upd I x 1) (upd O l.length (nI x)) _ (foI_ord hI (by omega) hcl) ?_ (by simp; omega) _ rfl ?_
      · rw [show (l ++ [x]).length = l.length + 1 by simp, ← nI_1]
        funext c; unfold foS va_up; repeat' split
        all_goals first | rfl | omega | (subst_vars; rfl) | (funext j; unfold upd; repeat' split; all_goals first | rfl | omega | (subst_vars; rfl))
      · rw [show nI s.length = nI (s.length + 1) + Int32.ofInt (-1) from (pk_m1 _).symm]
        rfl
    have k118 : ∀ z, 200 ≤ z → z < x → tsz (σ 233) (σ 234) (σ 235) z ≤ 24 → I z = 0 → σ 235 x = nI z → kX kT L xs (d + 2) 199 118 [(3, .int (nI x)), (2, .int (nI (s.length + 1))), (0, .ref 232), (1, .int tv)] [] (foS σ W I O (nI l.length)) Q := by
      intro z z1 z2 z3 z4 z5
      iterate 6 (refine kX_one rfl ?_)
      refine kX_ialdV rfl rfl (by decide) (x) (by first | rfl | decide) (by omega) (z5) ?_
      refine kX_iastN rfl rfl (by decide) (s.length + 1) (by first | rfl | decide) (by omega) ?_
      iterate 2 (refine kX_one rfl ?_)
      refine hback (s ++ [x] ++ [z]) l (upd W (s.length + 1) (nI z)) I O _ (hpush z z1 z2 z3 z4) ?_ (by simp; omega) _ rfl ?_
      · funext c; unfold foS va_up; repeat' split
        all_goals first | rfl | omega | (subst_vars; rfl) | (funext j; unfold upd; repeat' split; all_goals first | rfl | omega | (subst_vars; rfl))
      · rw [show nI (s ++ [x] ++ [z]).length = nI (s.length + 1) + 1 by rw [nI_1]; simp]
        rfl
    have k87 : ∀ z, 200 ≤ z → z < x → tsz (σ 233) (σ 234) (σ 235) z ≤ 24 → I z = 0 → σ 234 x = nI z → kX kT L xs (d + 2) 199 87 [(3, .int (nI x)), (2, .int (nI (s.length + 1))), (0, .ref 232), (1, .int tv)] [] (foS σ W I O (nI l.length)) Q := by
      intro z z1 z2 z3 z4 z5
      iterate 6 (refine kX_one rfl ?_)
      refine kX_ialdV rfl rfl (by decide) (x) (by first | rfl | decide) (by omega) (z5) ?_
      refine kX_iastN rfl rfl (by decide) (s.length + 1) (by first | rfl | decide) (by omega) ?_
      iterate 2 (refine kX_one rfl ?_)
      refine hback (s ++ [x] ++ [z]) l (upd W (s.length + 1) (nI z)) I O _ (hpush z z1 z2 z3 z4) ?_ (by simp; omega) _ rfl ?_
      · funext c; unfold foS va_up; repeat' split
        all_goals first | rfl | omega | (subst_vars; rfl) | (funext j; unfold upd; repeat' split; all_goals first | rfl | omega | (subst_vars; rfl))
      · rw [show nI (s ++ [x] ++ [z]).length = nI (s.length + 1) + 1 by rw [nI_1]; simp]
        rfl
    have hno : ∀ y, 200 ≤ y → y < b → ¬ (200 ≤ y ∧ I y = 0) → y ∈ l := by
      intro y y1 y2 y3
      refine Classical.byContradiction (fun hh => y3 ⟨y1, ?_⟩)
      rw [hI.2.2.2.2.2.1 y y1 y2, isB_F hh]
    have k105 : (∀ y, 200 ≤ y → σ 234 x = nI y → y < 1000 → y ∈ l) → ((∃ z, z < x ∧ mv n b z ∧ tsz (σ 233) (σ 234) (σ 235) z ≤ 24 ∧ σ 235 x = nI z) ∨ σ 235 x = -1) → kX kT L xs (d + 2) 199 105 [(3, .int (nI x)), (2, .int (nI (s.length + 1))), (0, .ref 232), (1, .int tv)] [] (foS σ W I O (nI l.length)) Q := by
      intro hfi hse
      iterate 4 (refine kX_one rfl ?_)
      rcases hse with ⟨z, z1, z2, z3, z4⟩ | hse
      · refine kX_ialdV rfl rfl (by decide) (x) (by first | rfl | decide) (by omega) (z4) ?_
        refine kX_cal (mr_isOpen L xs d _ z (by omega)) rfl (Or.inr rfl) rfl rfl rfl (fun r1 σ1 q1 => ?_)
        obtain ⟨rfl, rfl⟩ := q1
        repeat refine kX_one rfl ?_
        refine kX_if (fun q => ?_) (fun q => ?_)
        · have q : ¬ (200 ≤ z ∧ I z = 0) := fun hh => isB_ne.mpr hh (qeq q)
          refine k136 (fun y y1 y2 y3 => ?_)
          rcases y2 with y2 | y2
          · exact hfi y y1 y2 y3
          · obtain rfl : z = y := nI_inj (z4.symm.trans y2)
            exact hno z y1 (by omega) q
        · have q : 200 ≤ z ∧ I z = 0 := isB_ne.mp (qeqF q)
          exact k118 z q.1 z1 z3 q.2 z4
      · refine kX_ialdV rfl rfl (by decide) (x) (by first | rfl | decide) (by omega) (hse) ?_
        refine kX_cal (mr_isOpenN L xs d _) rfl (Or.inr rfl) rfl rfl rfl (fun r1 σ1 q1 => ?_)
        obtain ⟨rfl, rfl⟩ := q1
        iterate 1 (refine kX_one rfl ?_)
        refine k136 (fun y y1 y2 y3 => ?_)
        rcases y2 with y2 | y2
        · exact hfi y y1 y2 y3
        · exact absurd (y2.symm.trans hse) (nI_m1 (by omega))
    have k74 : ∀ y, y < x → mv n b y → tsz (σ 233) (σ 234) (σ 235) y ≤ 24 → σ 234 x = nI y → ((∃ z, z < x ∧ mv n b z ∧ tsz (σ 233) (σ 234) (σ 235) z ≤ 24 ∧ σ 235 x = nI z) ∨ σ 235 x = -1) → kX kT L xs (d + 2) 199 74 [(3, .int (nI x)), (2, .int (nI (s.length + 1))), (0, .ref 232), (1, .int tv)] [] (foS σ W I O (nI l.length)) Q := by
      intro z z1 z2 z3 z4 hse
      iterate 4 (refine kX_one rfl ?_)
      refine kX_ialdV rfl rfl (by decide) (x) (by first | rfl | decide) (by omega) (z4) ?_
      refine kX_cal (mr_isOpen L xs d _ z (by omega)) rfl (Or.inr rfl) rfl rfl rfl (fun r1 σ1 q1 => ?_)
      obtain ⟨rfl, rfl⟩ := q1
      repeat refine kX_one rfl ?_
      refine kX_if (fun q => ?_) (fun q => ?_)
      · have q : ¬ (200 ≤ z ∧ I z = 0) := fun hh => isB_ne.mpr hh (qeq q)
        refine k105 (fun y y1 y2 y3 => ?_) hse
        obtain rfl : z = y := nI_inj (z4.symm.trans y2)
        exact hno z y1 (by omega) q
      · have q : 200 ≤ z ∧ I z = 0 := isB_ne.mp (qeqF q)
        exact k87 z q.1 z1 z3 q.2 z4
    rw [show nI (s ++ [x]).length = nI (s.length + 1) by rw [hsl]]
    iterate 1 (refine kX_one rfl ?_)
    repeat refine kX_one rfl ?_
    refine kX_ifF (decide_eq_false (nI_nle (by omega) (by omega))) ?_
    iterate 5 (refine kX_one rfl ?_)
    refine kX_ialdV rfl rfl (by decide) (s.length) (nI_pred _) (by omega) (w1) ?_
    iterate 3 (refine kX_one rfl ?_)
    repeat refine kX_one rfl ?_
    refine kX_if (fun q => ?_) (fun q => ?_)
    · have q := qlt q x 200
      omega
    iterate 3 (refine kX_one rfl ?_)
    refine kX_baldV rfl rfl (by decide) (x) (by first | rfl | decide) (by omega) (hx0) ?_
    iterate 1 (refine kX_one rfl ?_)
    refine kX_lv [(3, .int (nI x)), (2, .int (nI (s.length + 1))), (0, .ref 232), (1, .int tv)] rfl rfl rfl ?_
    rcases (hV x (Or.inr ⟨x1, x2⟩)).2 with ⟨k, h3, hk, -, -⟩ | ⟨k, y, z, h3, hk, hy, hz2, h4, h5, h6, h7⟩ | ⟨k, y, h3, hk, hy, hz2, h4, h6⟩
    · rw [hk, fN_nI (by omega)] at hkx
      omega
    · have e7 : tsz (σ 233) (σ 234) (σ 235) x = 1 + tsz (σ 233) (σ 234) (σ 235) y + tsz (σ 233) (σ 234) (σ 235) z := by
        unfold tsz
        rw [tA_2 hV hk hy hz2 (by omega) (by omega) h4 h5 h6 h7]
        rfl
      exact k74 y h4 h6 (by omega) hy (Or.inl ⟨z, h5, h7, by omega, hz2⟩)
    · have e7 : tsz (σ 233) (σ 234) (σ 235) x = 1 + tsz (σ 233) (σ 234) (σ 235) y := by
        unfold tsz
        rw [tA_1 hV hk hy hz2 (by omega) (by omega) h4 h6]
        rfl
      exact k74 y h4 h6 (by omega) hy (Or.inr hz2)
set_option maxRecDepth 100000 in
set_option maxHeartbeats 4000000 in
theorem mr_findOrder (L : Nat) (xs : Nat → Int32) (d : Nat) (σ : kS) (n b t : Nat) (h : mTb σ n b) (hb : b ≤ 776) (ht : 200 ≤ t) (htb : t < b) (h24 : tsz (σ 233) (σ 234) (σ 235) t ≤ 24) : kXM kT L xs (d + 2) 199 [.ref 232, .int (nI t)] σ (fun r σ' => r = none ∧ ∃ l W I O, σ' = foS σ W I O (nI l.length) ∧ lst O l ∧ foL σ b l ∧ t ∈ l) := by
  unfold kXM
  have hl := mr_fo_loop L xs d σ n b t h hb (nI t) (fun r σ' => r = none ∧ ∃ l W I O, σ' = foS σ W I O (nI l.length) ∧ lst O l ∧ foL σ b l ∧ t ∈ l) (fun l W I O h1 h2 h3 => by
    refine kX_ret (i := .return_) (len := 1) rfl (Or.inr rfl) rfl (⟨rfl, l, W, I, O, rfl, h1, h2, h3⟩))
  iterate 5 (refine kX_one rfl ?_)
  have hT : mTb (va_up σ 232 (upd (σ 232) 61 (Int32.ofInt 0))) n b := h
  have := mr_fo_init L xs (d + 1) (va_up σ 232 (upd (σ 232) 61 (Int32.ofInt 0))) n b hT (nI t) (fun r σ' => r = none ∧ ∃ l W I O, σ' = foS σ W I O (nI l.length) ∧ lst O l ∧ foL σ b l ∧ t ∈ l) (fun I hI => ?_) (200, σ 280) ⟨Nat.le_refl _, h.2.1, fun j j1 j2 => absurd j2 (by simp only; omega)⟩
  · refine kX_to _ _ rfl rfl rfl ?_ this
    funext c; unfold  va_up; repeat' split
    all_goals first | rfl | omega | (subst_vars; rfl) | (funext j; unfold upd; repeat' split; all_goals first | rfl | omega | (subst_vars; rfl))
  · iterate 6 (refine kX_one rfl ?_)
    refine kX_iastN rfl rfl (by decide) (0) (by first | rfl | decide) (by decide) ?_
    refine kX_to _ _ rfl rfl rfl ?_ (hl ([t], [], upd (σ 252) 0 (nI t), I, σ 279) ⟨lst_push (lst_nil _) t, lst_nil _, fun x hx => ?_, List.pairwise_singleton _ _, fun i hi => ?_, fun j j1 j2 => ?_, foL_nil σ b, Or.inl (by simp)⟩)
    · funext c; unfold foS va_up; repeat' split
      all_goals first | rfl | omega | (subst_vars; rfl) | (funext j; unfold upd; repeat' split; all_goals first | rfl | omega | (subst_vars; rfl))
    · rw [List.mem_singleton] at hx
      subst hx
      exact ⟨ht, htb, h24, by simp⟩
    · simp at hi
      subst hi
      exact htb
    · show I j = isB (j ∈ [])
      rw [hI j j1 j2, isB_F (by simp)]
end
section
/-! the reference: lasting -/
/-- what inOrder tells of a part -/
def loV (l : List Nat) (n k : Nat) (v c : Int32) : Prop := (v = -1 ∧ c = -1001) ∨ (∃ y, y < n ∧ v = nI y ∧ c = nI y - 1000) ∨ ∃ i, ∃ h : i < l.length, i < k ∧ v = nI (l[i]'h) ∧ c = nI i
/-- .. and where it comes to lie -/
def loT (l : List Nat) (n k : Nat) (v w : Int32) : Prop := (v = -1 ∧ w = -1) ∨ (∃ y, y < n ∧ v = nI y ∧ w = nI y) ∨ ∃ i, ∃ h : i < l.length, i < k ∧ v = nI (l[i]'h) ∧ w = nI (n + i)
set_option maxRecDepth 100000 in
set_option maxHeartbeats 4000000 in
theorem lo_neg : ∀ y : Fin 200, nI y.1 - 1000 < 0 := by decide
theorem loT_of {l : List Nat} {n k : Nat} {v c : Int32} (hn : n ≤ 200) (hl : l.length ≤ 600) (h : loV l n k v c) : loT l n k v (if c < 0 then c + 1000 else nI n + c) := by
  rcases h with ⟨h1, h2⟩ | ⟨y, h1, h2, h3⟩ | ⟨i, h0, h1, h2, h3⟩
  · left
    subst h2
    exact ⟨h1, by rw [if_pos (by decide)]; decide⟩
  · refine Or.inr (Or.inl ⟨y, h1, h2, ?_⟩)
    have : c < 0 := by
      rw [h3]
      exact lo_neg ⟨y, by omega⟩
    rw [if_pos this, h3, Int32.sub_add_cancel]
  · refine Or.inr (Or.inr ⟨i, h0, h1, h2, ?_⟩)
    rw [h3, if_neg (nI_pos (by omega)), nI_add]
/-- two parts that come to lie at one place are one -/
theorem loT_inj {l : List Nat} {n k k' : Nat} {v v' w : Int32} (hn : n ≤ 200) (hl : l.length ≤ 600) (h1 : loT l n k v w) (h2 : loT l n k' v' w) : v = v' := by
  rcases h1 with ⟨a1, a2⟩ | ⟨y, y1, y2, y3⟩ | ⟨i, i0, i1, i2, i3⟩ <;> rcases h2 with ⟨b1, b2⟩ | ⟨z, z1, z2, z3⟩ | ⟨j, j0, j1, j2, j3⟩
  · rw [a1, b1]
  · exact absurd (z3.symm.trans a2) (nI_m1 (by omega))
  · exact absurd (j3.symm.trans a2) (nI_m1 (by omega))
  · exact absurd (y3.symm.trans b2) (nI_m1 (by omega))
  · have := nI_inj (y3.symm.trans z3)
    subst this
    rw [y2, z2]
  · have := nI_inj (y3.symm.trans j3)
    omega
  · exact absurd (i3.symm.trans b2) (nI_m1 (by omega))
  · have := nI_inj (i3.symm.trans z3)
    omega
  · have := nI_inj (i3.symm.trans j3)
    have : i = j := by omega
    subst this
    rw [i2, j2]
/-- a part below n lies where it lay -/
theorem loT_low {l : List Nat} {n k p : Nat} {v : Int32} (hn : n ≤ 200) (hl : l.length ≤ 600) (h : loT l n k v (nI p)) (hp : p < n) : v = nI p := by
  rcases h with ⟨a1, a2⟩ | ⟨y, y1, y2, y3⟩ | ⟨i, i0, i1, i2, i3⟩
  · exact absurd a2 (nI_m1 (by omega))
  · rw [y2, y3]
  · have := nI_inj i3
    omega
set_option maxRecDepth 100000 in
set_option maxHeartbeats 4000000 in
theorem mr_code (L : Nat) (xs : Nat → Int32) (d : Nat) (σ : kS) (l : List Nat) (n k y : Nat) (hl : lst (σ 279) l) (h600 : l.length ≤ 600) (hlx : ∀ t ∈ l, 200 ≤ t ∧ t < 1000) (hn : n ≤ 200) (hy : y < 1000) (h1 : y < 200 → y < n) (h2 : 200 ≤ y → y ∈ l.take k) : kXM kT L xs (d + 1) 201 [.ref 232, .int (nI y)] σ (fun r σ' => (∃ c, r = some (.int c) ∧ loV l n k (nI y) c) ∧ σ = σ') := by
  by_cases e : y < 200
  · refine kXM_mono (mr_inOrderN L xs d σ y e) (fun r σ' q => ?_)
    obtain ⟨rfl, rfl⟩ := q
    exact ⟨⟨_, rfl, Or.inr (Or.inl ⟨y, h1 e, rfl, rfl⟩)⟩, rfl⟩
  · obtain ⟨i, i1, i2, i3⟩ := first_idx _ (h2 (by omega))
    have i4 : i < k ∧ i < l.length := by
      rw [List.length_take] at i1
      omega
    rw [List.getElem_take] at i2
    have := mr_inOrder L xs d σ l i i4.2 hl h600 (by rw [i2]; omega) (fun t ht => (hlx t ht).2) (fun j hj hji => by
      have := i3 j (by rw [List.length_take]; omega) hji
      rw [List.getElem_take] at this
      rw [i2]
      exact this)
    rw [i2] at this
    refine kXM_mono this (fun r σ' q => ?_)
    obtain ⟨rfl, rfl⟩ := q
    exact ⟨⟨_, rfl, Or.inr (Or.inr ⟨i, i4.2, i4.1, by rw [i2], rfl⟩)⟩, rfl⟩
def loS (σ : kS) (NK NF NS : Nat → Int32) : kS := va_up (va_up (va_up σ 281 NK) 282 NF) 283 NS
/-- the new rows up to k -/
def loI (σ : kS) (n : Nat) (l : List Nat) (NK NF NS : Nat → Int32) (k : Nat) : Prop := ∀ j (h : j < l.length), j < k → NK j = σ 233 (l[j]'h) ∧ loV l n j (σ 234 (l[j]'h)) (NF j) ∧ loV l n j (σ 235 (l[j]'h)) (NS j)
theorem loI_push {σ : kS} {n k : Nat} {l : List Nat} {NK NF NS : Nat → Int32} {a c e : Int32} (h : loI σ n l NK NF NS k) (hk : k < l.length) (h1 : a = σ 233 l[k]) (h2 : loV l n k (σ 234 l[k]) c) (h3 : loV l n k (σ 235 l[k]) e) : loI σ n l (upd NK k a) (upd NF k c) (upd NS k e) (k + 1) := by
  intro j hj hjk
  by_cases q : j = k
  · subst q
    rw [pk_us, pk_us, pk_us]
    exact ⟨h1, h2, h3⟩
  · rw [pk_un q, pk_un q, pk_un q]
    exact h j hj (by omega)
set_option maxRecDepth 100000 in
set_option maxHeartbeats 4000000 in
theorem mr_lo_one (L : Nat) (xs : Nat → Int32) (d : Nat) (σ : kS) (n b : Nat) (l : List Nat) (h : mTb σ n b) (hb : b ≤ 776) (hl : lst (σ 279) l) (ho : σ 232 61 = nI l.length) (hL : foL σ b l) (tv : Int32) (Q : Option Value → kS → Prop)
    (he : ∀ NK NF NS, loI σ n l NK NF NS l.length → kX kT L xs (d + 2) 203 118 [(0, .ref 232), (1, .int tv)] [] (loS σ NK NF NS) Q) :
    ∀ q : Nat × (Nat → Int32) × (Nat → Int32) × (Nat → Int32), (q.1 ≤ l.length ∧ loI σ n l q.2.1 q.2.2.1 q.2.2.2 q.1) → kX kT L xs (d + 2) 203 25 [(2, .int (nI q.1)), (0, .ref 232), (1, .int tv)] [] (loS σ q.2.1 q.2.2.1 q.2.2.2) Q := by
  have hll := foL_len hL hb
  have hn := h.1
  have hV := h.2.2.2.2.2.1.1
  refine kX_while (fun q : Nat × (Nat → Int32) × (Nat → Int32) × (Nat → Int32) => [(2, .int (nI q.1)), (0, .ref 232), (1, .int tv)]) (fun q => loS σ q.2.1 q.2.2.1 q.2.2.2) _ (fun q => l.length - q.1) ?_
  rintro ⟨k, NK, NF, NS⟩ ⟨i1, i2⟩ ih
  dsimp only at i1 i2 ih ⊢
  iterate 3 (refine kX_one rfl ?_)
  refine kX_top (ho) ?_
  repeat refine kX_one rfl ?_
  refine kX_if (fun q => ?_) (fun q => ?_)
  · have q := qge q k l.length
    have : k = l.length := by omega
    subst this
    exact kX_lv _ rfl rfl rfl (he NK NF NS i2)
  · have q := qgeF q k l.length
    obtain ⟨x1, x2, x3⟩ := hL.1 _ (List.getElem_mem q)
    have hcl := hL.2.2.1 k q
    have hlk := hl k q
    generalize hx : l[k] = x at x1 x2 x3 hcl hlk
    have hlx : ∀ t ∈ l, 200 ≤ t ∧ t < 1000 := fun t ht => ⟨(hL.1 t ht).1, by have := (hL.1 t ht).2.1; omega⟩
    have k111 : ∀ c e, loV l n k (σ 234 x) c → loV l n k (σ 235 x) e → kX kT L xs (d + 2) 203 111 [(2, .int (nI k)), (0, .ref 232), (1, .int tv)] [.int e, .int (nI k), .ref 283] (loS σ (upd NK k (σ 233 x)) (upd NF k c) NS) Q := by
      intro c e hc he'
      refine kX_iastN rfl rfl (by decide) (k) (by first | rfl | decide) (by omega) ?_
      iterate 2 (refine kX_one rfl ?_)
      have := ih (k + 1, upd NK k (σ 233 x), upd NF k c, upd NS k e) ⟨by simp only; omega, by
        rw [← hx] at hc he' ⊢
        exact loI_push i2 q rfl hc he'⟩ (by simp only; omega)
      dsimp only at this
      rw [← nI_1] at this
      refine kX_to _ _ rfl rfl rfl ?_ this
      funext c; unfold loS va_up; repeat' split
      all_goals first | rfl | omega | (subst_vars; rfl) | (funext j; unfold upd; repeat' split; all_goals first | rfl | omega | (subst_vars; rfl))
    have hpart : ∀ y, (σ 234 x = nI y ∨ σ 235 x = nI y) → mv n b y → y < 1000 ∧ (y < 200 → y < n) ∧ (200 ≤ y → y ∈ l.take k) := by
      intro y hy hm
      unfold mv at hm
      exact ⟨by omega, by omega, fun z => hcl y z hy (by omega)⟩
    have k71 : ∀ c, loV l n k (σ 234 x) c → ((∃ z, σ 235 x = nI z ∧ mv n b z) ∨ σ 235 x = -1) → kX kT L xs (d + 2) 203 71 [(2, .int (nI k)), (0, .ref 232), (1, .int tv)] [] (loS σ (upd NK k (σ 233 x)) (upd NF k c) NS) Q := by
      intro c hc hse
      iterate 8 (refine kX_one rfl ?_)
      refine kX_ialdV rfl rfl (by decide) (k) (by first | rfl | decide) (by omega) (hlk) ?_
      rcases hse with ⟨z, z1, z2⟩ | hse
      · obtain ⟨p1, p2, p3⟩ := hpart z (Or.inr z1) z2
        refine kX_ialdV rfl rfl (by decide) (x) (by first | rfl | decide) (by omega) (z1) ?_
        repeat refine kX_one rfl ?_
        refine kX_ifT (decide_eq_true (Int32.not_lt.mp (nI_pos (by omega)))) ?_
        iterate 6 (refine kX_one rfl ?_)
        refine kX_ialdV rfl rfl (by decide) (k) (by first | rfl | decide) (by omega) (hlk) ?_
        refine kX_ialdV rfl rfl (by decide) (x) (by first | rfl | decide) (by omega) (z1) ?_
        refine kX_cal (mr_code L xs d _ l n k z hl (by omega) hlx hn p1 p2 p3) rfl (Or.inr rfl) rfl rfl rfl (fun r1 σ1 q1 => ?_)
        obtain ⟨⟨e, rfl, he2⟩, rfl⟩ := q1
        exact k111 c e hc (by rw [z1]; exact he2)
      · refine kX_ialdV rfl rfl (by decide) (x) (by first | rfl | decide) (by omega) (hse) ?_
        iterate 3 (refine kX_one rfl ?_)
        exact k111 c (-1001) hc (Or.inl ⟨hse, rfl⟩)
    have k33 : ∀ y, σ 234 x = nI y → mv n b y → ((∃ z, σ 235 x = nI z ∧ mv n b z) ∨ σ 235 x = -1) → kX kT L xs (d + 2) 203 33 [(2, .int (nI k)), (0, .ref 232), (1, .int tv)] [] (loS σ NK NF NS) Q := by
      intro y y1 y2 hse
      obtain ⟨p1, p2, p3⟩ := hpart y (Or.inl y1) y2
      iterate 8 (refine kX_one rfl ?_)
      refine kX_ialdV rfl rfl (by decide) (k) (by first | rfl | decide) (by omega) (hlk) ?_
      refine kX_ialdN rfl rfl (by decide) (x) (by first | rfl | decide) (by omega) ?_
      refine kX_iastN rfl rfl (by decide) (k) (by first | rfl | decide) (by omega) ?_
      iterate 9 (refine kX_one rfl ?_)
      refine kX_ialdV rfl rfl (by decide) (k) (by first | rfl | decide) (by omega) (hlk) ?_
      refine kX_ialdV rfl rfl (by decide) (x) (by first | rfl | decide) (by omega) (y1) ?_
      refine kX_cal (mr_code L xs d _ l n k y hl (by omega) hlx hn p1 p2 p3) rfl (Or.inr rfl) rfl rfl rfl (fun r1 σ1 q1 => ?_)
      obtain ⟨⟨c, rfl, hc⟩, rfl⟩ := q1
      refine kX_iastN rfl rfl (by decide) (k) (by first | rfl | decide) (by omega) ?_
      refine kX_st (loS σ (upd NK k (σ 233 x)) (upd NF k c) NS) ?_ (k71 c (by rw [y1]; exact hc) hse)
      funext c; unfold loS va_up; repeat' split
      all_goals first | rfl | omega | (subst_vars; rfl) | (funext j; unfold upd; repeat' split; all_goals first | rfl | omega | (subst_vars; rfl))
    rcases (hV x (Or.inr ⟨x1, x2⟩)).2 with ⟨k', h3, hk, -, -⟩ | ⟨k', y, z, h3, hk, hy, hz2, h4, h5, h6, h7⟩ | ⟨k', y, h3, hk, hy, hz2, h4, h6⟩
    · have := h.2.2.2.2.2.2.2.2.1 x x1 x2
      rw [hk, fN_nI (by omega)] at this
      omega
    · exact k33 y hy h6 (Or.inl ⟨z, hz2, h7⟩)
    · exact k33 y hy h6 (Or.inr hz2)
end
section
/-! the reference: lasting, the new TERMS -/
theorem mGr_trans {σ τ ρ : kS} {n m : Nat} (h1 : mGr σ τ n) (h2 : mGr τ ρ m) (hm : n ≤ m) : mGr σ ρ n :=
  ⟨fun c hc => (h2.1 c hc).trans (h1.1 c hc), fun j hj => (h2.2.1 j hj).trans (h1.2.1 j hj), fun u hu => ⟨(h2.2.2 u (by omega)).1.trans (h1.2.2 u hu).1, (h2.2.2 u (by omega)).2.1.trans (h1.2.2 u hu).2.1, (h2.2.2 u (by omega)).2.2.trans (h1.2.2 u hu).2.2⟩⟩
/-- the TERMS of l, laid from n on, up to k -/
def loK (σ τ : kS) (n : Nat) (l : List Nat) (k : Nat) : Prop := ∀ j (h : j < l.length), j < k → τ 233 (n + j) = σ 233 (l[j]'h) ∧ loT l n j (σ 234 (l[j]'h)) (τ 234 (n + j)) ∧ loT l n j (σ 235 (l[j]'h)) (τ 235 (n + j))
/-- a TERM of two, one of one: what lies at l's -/
theorem lo_tok {σ : kS} {n b x : Nat} (h : mTb σ n b) (h1 : 200 ≤ x) (h2 : x < b) : (∃ kd p q, (kd = 4 ∨ kd = 5 ∨ ((kd = 6 ∨ kd = 8) ∧ mAG σ n q)) ∧ σ 233 x = nI kd ∧ σ 234 x = nI p ∧ σ 235 x = nI q ∧ p < x ∧ q < x ∧ mv n b p ∧ mv n b q) ∨ ∃ kd p, (kd = 9 ∨ (kd = 7 ∧ mAG σ n p)) ∧ σ 233 x = nI kd ∧ σ 234 x = nI p ∧ σ 235 x = -1 ∧ p < x ∧ mv n b p := by
  rcases (h.2.2.2.2.2.1.1 x (Or.inr ⟨h1, h2⟩)).2 with ⟨k', h3, hk, -, -⟩ | q | q
  · have := h.2.2.2.2.2.2.2.2.1 x h1 h2
    rw [hk, fN_nI (by omega)] at this
    omega
  · exact Or.inl q
  · exact Or.inr q
theorem loT_num {l : List Nat} {n k p : Nat} {w : Int32} (h : loT l n k (nI p) w) (hp : p < 1000) : ∃ p', w = nI p' ∧ p' < n + k := by
  rcases h with ⟨a1, a2⟩ | ⟨y, y1, y2, y3⟩ | ⟨i, i0, i1, i2, i3⟩
  · exact absurd a1 (nI_m1 (by omega))
  · exact ⟨y, y3, by omega⟩
  · exact ⟨n + i, i3, by omega⟩
theorem loT_m1 {l : List Nat} {n k : Nat} {w : Int32} (h : loT l n k (-1) w) (hn : n ≤ 200) (hl : ∀ x ∈ l, x < 1000) : w = -1 := by
  rcases h with ⟨a1, a2⟩ | ⟨y, y1, y2, y3⟩ | ⟨i, i0, i1, i2, i3⟩
  · exact a2
  · exact absurd y2.symm (nI_m1 (by omega))
  · exact absurd i2.symm (nI_m1 (by have := hl _ (List.getElem_mem i0); omega))
theorem loT_sz {σ τ : kS} {n b bk k : Nat} {l : List Nat} (h : mTb σ n b) (hb : b ≤ 776) (hT : mTb τ (n + k) bk) (hG : mGr σ τ n) (hL : ∀ x ∈ l, 200 ≤ x ∧ x < b) (hll : l.length ≤ 576) (hK : loK σ τ n l k) : ∀ j (hj : j < l.length), j < k → tsz (τ 233) (τ 234) (τ 235) (n + j) = tsz (σ 233) (σ 234) (σ 235) l[j] := by
  intro j
  induction j using Nat.strongRecOn with
  | _ j ih =>
    intro hj hjk
    have hn := h.1
    obtain ⟨x1, x2⟩ := hL _ (List.getElem_mem hj)
    obtain ⟨e1, e2, e3⟩ := hK j hj hjk
    have hV := h.2.2.2.2.2.1.1
    have hV' := hT.2.2.2.2.2.1.1
    have hnum : ∀ p, p < n → tsz (τ 233) (τ 234) (τ 235) p = tsz (σ 233) (σ 234) (σ 235) p := fun p hp => tA_congr (mTb_num h) (fun u hu => ⟨(hG.2.2 u hu).1, (hG.2.2 u hu).2.1, (hG.2.2 u hu).2.2, rfl⟩) p hp
    have hpart : ∀ p w, p < 1000 → loT l n j (nI p) w → ∃ p', w = nI p' ∧ p' < n + j ∧ tsz (τ 233) (τ 234) (τ 235) p' = tsz (σ 233) (σ 234) (σ 235) p := by
      intro p w hp hq
      rcases hq with ⟨a1, a2⟩ | ⟨y, y1, y2, y3⟩ | ⟨i, i0, i1, i2, i3⟩
      · exact absurd a1 (nI_m1 (by omega))
      · obtain rfl : p = y := nI_inj y2
        exact ⟨p, y3, by omega, hnum p y1⟩
      · have hi := (hL _ (List.getElem_mem i0)).2
        have : p = l[i] := nI_inj i2
        exact ⟨n + i, i3, by omega, by rw [this]; exact ih i i1 i0 (by omega)⟩
    generalize l[j] = x at *
    rcases lo_tok h x1 x2 with ⟨kd, p, q, h3, hk, hp, hq, h4, h5, h6, h7⟩ | ⟨kd, p, h3, hk, hp, hq, h4, h6⟩
    · rw [hp] at e2
      rw [hq] at e3
      obtain ⟨p', p1, p2, p3⟩ := hpart p _ (by omega) e2
      obtain ⟨q', q1, q2, q3⟩ := hpart q _ (by omega) e3
      unfold tsz at p3 q3 ⊢
      rw [tA_2 hV' (e1.trans hk) p1 q1 (by omega) (by omega) p2 q2 (Or.inl (by omega)) (Or.inl (by omega)), tA_2 hV hk hp hq (by omega) (by omega) h4 h5 h6 h7, p3, q3]
    · rw [hp] at e2
      rw [hq] at e3
      obtain ⟨p', p1, p2, p3⟩ := hpart p _ (by omega) e2
      have q1 := loT_m1 e3 hn (fun x hx => by have := (hL x hx).2; omega)
      unfold tsz at p3 ⊢
      rw [tA_1 hV' (e1.trans hk) p1 q1 (by omega) (by omega) p2 (Or.inl (by omega)), tA_1 hV hk hp hq (by omega) (by omega) h4 h6, p3]
theorem msz_le {Z : Nat → Int32} {k x y sx sy : Nat} (hx : 3 < k → Z x = nI sx) (hy : k = 4 ∨ k = 5 ∨ k = 6 ∨ k = 8 → Z y = nI sy) (h1 : 3 < k → 1 + sx ≤ 24) (h2 : k = 4 ∨ k = 5 ∨ k = 6 ∨ k = 8 → 1 + sx + sy ≤ 24 ∧ 1 ≤ sy) (hk : k = 4 ∨ k = 5 ∨ k = 6 ∨ k = 8 ∨ k = 7 ∨ k = 9) : msz Z k x y ≤ nI 24 := by
  have hle : ∀ a, a ≤ 24 → nI a ≤ nI 24 := fun a ha => by
    rw [Int32.le_iff_toInt_le, nI_toInt (by omega), nI_toInt (by omega)]
    omega
  unfold msz
  rw [if_neg (show ¬ k ≤ 3 by omega)]
  split
  · exact hle 2 (by omega)
  · split
    · rw [hx (by omega), hy (by omega), nI_add, nI_add]
      exact hle _ (by have := h2 (by omega); omega)
    · split
      · rw [hx (by omega), ← nI_0, nI_add, nI_add]
        exact hle _ (by have := h1 (by omega); omega)
      · rw [hx (by omega), nI_add, nI_add]
        exact hle _ (by have := h2 (by omega); omega)
/-- the next one of l may be laid -/
theorem lo_next {σ τ : kS} {n b bk k : Nat} {l : List Nat} {a c : Int32} (h : mTb σ n b) (hb : b ≤ 776) (hT : mTb τ (n + k) bk) (hG : mGr σ τ n) (hL : foL σ b l) (hK : loK σ τ n l k) (hk : k < l.length) (ha : loT l n k (σ 234 l[k]) a) (hc : loT l n k (σ 235 l[k]) c) :
    ∃ kd p q, σ 233 l[k] = nI kd ∧ 3 < kd ∧ kd ≤ 9 ∧ tNw kd a c p q (n + k) ∧ (kd = 6 ∨ kd = 8 → mAG τ (n + k) q) ∧ (kd = 7 → mAG τ (n + k) p) ∧ (3 < kd → ∀ u, u < n + k → ¬ mIs τ u (nI kd) a c) ∧ msz (τ 236) kd p q ≤ nI 24 := by
  have hn := h.1
  have hll := foL_len hL hb
  have hLx : ∀ x ∈ l, 200 ≤ x ∧ x < b := fun x hx => ⟨(hL.1 x hx).1, (hL.1 x hx).2.1⟩
  have hL1 : ∀ x ∈ l, x < 1000 := fun x hx => by have := (hLx x hx).2; omega
  have hsz := loT_sz h hb hT hG hLx hll hK
  have hV := h.2.2.2.2.2.1
  have hV' := hT.2.2.2.2.2.1
  obtain ⟨x1, x2, x3⟩ := hL.1 _ (List.getElem_mem hk)
  have hpw := List.pairwise_iff_getElem.mp hL.2.2.2
  have hag : ∀ q, mAG σ n q → mAG τ (n + k) q := fun q hq => ⟨by have := hq.1; omega, by
    rw [(hG.2.2 q hq.1).1, hG.1 240 (by decide)]
    exact hq.2⟩
  have hnum : ∀ p, p < n → tsz (τ 233) (τ 234) (τ 235) p = tsz (σ 233) (σ 234) (σ 235) p := fun p hp => tA_congr (mTb_num h) (fun u hu => ⟨(hG.2.2 u hu).1, (hG.2.2 u hu).2.1, (hG.2.2 u hu).2.2, rfl⟩) p hp
  have hpart : ∀ p w, p < 1000 → loT l n k (nI p) w → ∃ p', w = nI p' ∧ p' < n + k ∧ τ 236 p' = nI (tsz (σ 233) (σ 234) (σ 235) p) ∧ (p < n → p' = p) := by
    intro p w hp hq
    rcases hq with ⟨a1, a2⟩ | ⟨y, y1, y2, y3⟩ | ⟨i, i0, i1, i2, i3⟩
    · exact absurd a1 (nI_m1 (by omega))
    · obtain rfl : p = y := nI_inj y2
      exact ⟨p, y3, by omega, by rw [hV'.2.1 p (Or.inl (by omega)), hnum p y1], fun _ => rfl⟩
    · have hi := (hLx _ (List.getElem_mem i0))
      have : p = l[i] := nI_inj i2
      exact ⟨n + i, i3, by omega, by rw [hV'.2.1 (n + i) (Or.inl (by omega)), this, hsz i i0 i1], fun q => by omega⟩
  have huniq : ∀ kd, 3 < kd → kd ≤ 9 → σ 233 l[k] = nI kd → ∀ u, u < n + k → ¬ mIs τ u (nI kd) a c := by
    rintro kd k3 k9 hkd u hu ⟨u1, u2, u3⟩
    by_cases e : u < n
    · have hu' := hG.2.2 u e
      have hlow : ∀ v w, loT l n k v w → (w = -1 ∨ ∃ p, p < u ∧ w = nI p) → v = w := by
        rintro v w hw (rfl | ⟨p, p1, rfl⟩)
        · rcases hw with ⟨a1, a2⟩ | ⟨y, y1, y2, y3⟩ | ⟨i, i0, i1, i2, i3⟩
          · exact a1
          · exact absurd y3.symm (nI_m1 (by omega))
          · exact absurd i3.symm (nI_m1 (by omega))
        · exact loT_low hn (by omega) hw (by omega)
      have hpp : (a = -1 ∨ ∃ p, p < u ∧ a = nI p) ∧ (c = -1 ∨ ∃ p, p < u ∧ c = nI p) := by
        rw [← u2, ← u3]
        rcases (hV'.1 u (Or.inl hu)).2 with ⟨k', h3, hk', h4, h5⟩ | ⟨k', y, z, h3, hk', hy, hz2, h4, h5, h6, h7⟩ | ⟨k', y, h3, hk', hy, hz2, h4, h6⟩
        · exact ⟨Or.inl h4, Or.inl h5⟩
        · exact ⟨Or.inr ⟨y, h4, hy⟩, Or.inr ⟨z, h5, hz2⟩⟩
        · exact ⟨Or.inr ⟨y, h4, hy⟩, Or.inl hz2⟩
      have ea := hlow _ _ ha hpp.1
      have ec := hlow _ _ hc hpp.2
      have := hV.2.2 u l[k] (Or.inl e) (Or.inr ⟨x1, x2⟩) (by rw [← hu'.1, u1, fN_nI (by omega)]; exact k3) (by rw [← hu'.1, u1, hkd]) (by rw [← hu'.2.1, u2, ea]) (by rw [← hu'.2.2, u3, ec])
      omega
    · obtain ⟨j, rfl⟩ : ∃ j, u = n + j := ⟨u - n, by omega⟩
      have hjk : j < k := by omega
      have hj : j < l.length := by omega
      obtain ⟨e1, e2, e3⟩ := hK j hj hjk
      rw [u2] at e2
      rw [u3] at e3
      have f1 := loT_inj hn (by omega) ha e2
      have f2 := loT_inj hn (by omega) hc e3
      obtain ⟨y1, y2⟩ := hLx _ (List.getElem_mem hj)
      have := hV.2.2 l[j] l[k] (Or.inr ⟨y1, y2⟩) (Or.inr ⟨x1, x2⟩) (by rw [← e1, u1, fN_nI (by omega)]; exact k3) (by rw [← e1, u1, hkd]) f1.symm f2.symm
      exact hpw j k hj hk hjk this
  rcases lo_tok h x1 x2 with ⟨kd, p, q, h3, hkd, hp, hq, h4, h5, h6, h7⟩ | ⟨kd, p, h3, hkd, hp, hq, h4, h6⟩
  · have hsx : tsz (σ 233) (σ 234) (σ 235) l[k] = 1 + tsz (σ 233) (σ 234) (σ 235) p + tsz (σ 233) (σ 234) (σ 235) q := by
      unfold tsz
      rw [tA_2 hV.1 hkd hp hq (by omega) (by omega) h4 h5 h6 h7]
      rfl
    have hqp := tsz_pos hV.1 h7
    rw [hp] at ha
    rw [hq] at hc
    obtain ⟨p', p1, p2, p3, p4⟩ := hpart p _ (by omega) ha
    obtain ⟨q', q1, q2, q3, q4⟩ := hpart q _ (by omega) hc
    refine ⟨kd, p', q', hkd, by omega, by omega, Or.inr (Or.inl ⟨by omega, p1, q1, p2, q2⟩), fun e => ?_, by omega, fun k3 => huniq kd k3 (by omega) hkd, msz_le (fun _ => p3) (fun _ => q3) (fun _ => by omega) (fun _ => by omega) (by omega)⟩
    have hA : mAG σ n q := by
      rcases h3 with h3 | h3 | h3
      · omega
      · omega
      · exact h3.2
    rw [q4 hA.1]
    exact hag q hA
  · have hsx : tsz (σ 233) (σ 234) (σ 235) l[k] = 1 + tsz (σ 233) (σ 234) (σ 235) p := by
      unfold tsz
      rw [tA_1 hV.1 hkd hp hq (by omega) (by omega) h4 h6]
      rfl
    rw [hp] at ha
    rw [hq] at hc
    obtain ⟨p', p1, p2, p3, p4⟩ := hpart p _ (by omega) ha
    have q1 := loT_m1 hc hn hL1
    refine ⟨kd, p', 0, hkd, by omega, by omega, Or.inr (Or.inr ⟨by omega, p1, q1, p2⟩), by omega, fun e => ?_, fun k3 => huniq kd k3 (by omega) hkd, msz_le (sy := 0) (fun _ => p3) (fun e => by omega) (fun _ => by omega) (fun e => by omega) (by omega)⟩
    have hA : mAG σ n p := by
      rcases h3 with h3 | h3
      · omega
      · exact h3.2
    rw [p4 hA.1]
    exact hag p hA
theorem loK_new {σ τ τ' : kS} {n k kd : Nat} {l : List Nat} {a c : Int32} (hK : loK σ τ n l k) (hk : k < l.length) (hN : mNw τ τ' (n + k) kd a c) (h1 : σ 233 l[k] = nI kd) (ha : loT l n k (σ 234 l[k]) a) (hc : loT l n k (σ 235 l[k]) c) : loK σ τ' n l (k + 1) := by
  obtain ⟨z, g, nx, hd, jd, rfl, -⟩ := hN
  intro j hj hjk
  show upd (τ 233) (n + k) (nI kd) (n + j) = _ ∧ loT l n j _ (upd (τ 234) (n + k) a (n + j)) ∧ loT l n j _ (upd (τ 235) (n + k) c (n + j))
  by_cases q : j = k
  · subst q
    rw [pk_us, pk_us, pk_us]
    exact ⟨h1.symm, ha, hc⟩
  · have : n + j ≠ n + k := by omega
    rw [pk_un this, pk_un this, pk_un this]
    exact hK j hj (by omega)
end
section
/-! the reference: lasting and row -/
set_option maxRecDepth 100000 in
set_option maxHeartbeats 4000000 in
theorem mr_lo_two (L : Nat) (xs : Nat → Int32) (d : Nat) (σ : kS) (n b : Nat) (l : List Nat) (h : mTb σ n b) (hb : b ≤ 776) (hL : foL σ b l) (h200 : n + l.length ≤ 200) (NK NF NS : Nat → Int32) (hI : loI σ n l NK NF NS l.length) (tv : Int32) (Q : Option Value → kS → Prop)
    (he : ∀ τ, mGr σ τ n → loK σ τ n l l.length → (0 < l.length → mTb τ (n + l.length) 200 ∧ τ 232 47 = 0) → kX kT L xs (d + 4) 203 179 [(0, .ref 232), (1, .int tv)] [] τ Q) :
    ∀ q : Nat × kS, (q.1 ≤ l.length ∧ (∃ bk, mTb q.2 (n + q.1) bk) ∧ mGr σ q.2 n ∧ q.2 281 = NK ∧ q.2 282 = NF ∧ q.2 283 = NS ∧ loK σ q.2 n l q.1 ∧ (0 < q.1 → mTb q.2 (n + q.1) 200 ∧ q.2 232 47 = 0)) → kX kT L xs (d + 4) 203 131 [(4, .int (nI q.1)), (0, .ref 232), (1, .int tv), (2, .int (nI l.length)), (3, .int (nI n))] [] q.2 Q := by
  refine kX_while (fun q : Nat × kS => [(4, .int (nI q.1)), (0, .ref 232), (1, .int tv), (2, .int (nI l.length)), (3, .int (nI n))]) (fun q => q.2) _ (fun q => l.length - q.1) ?_
  rintro ⟨k, τ⟩ ⟨i1, ⟨bk, i2⟩, i3, i4, i5, i6, i7, i8⟩ ih
  dsimp only at i1 i2 i3 i4 i5 i6 i7 i8 ih ⊢
  have hn := h.1
  iterate 2 (refine kX_one rfl ?_)
  repeat refine kX_one rfl ?_
  refine kX_if (fun q => ?_) (fun q => ?_)
  · have q := qge q k l.length
    have : k = l.length := by omega
    subst this
    exact kX_lv _ rfl rfl rfl (he τ i3 i7 i8)
  · have q := qgeF q k l.length
    obtain ⟨g1, g2, g3⟩ := hI k q q
    have ha := loT_of hn (by omega) g2
    have hc := loT_of hn (by omega) g3
    obtain ⟨kd, x, y, n1, n2, n3, n4, n5, n6, n7, n8⟩ := lo_next h hb i2 i3 hL i7 q ha hc
    have hlast := mr_last L xs d τ (n + k) bk kd _ _ x y i2 (by omega) n4 n5 n6 n7 n8
    iterate 4 (refine kX_one rfl ?_)
    refine kX_ialdV rfl rfl (by decide) (k) (by first | rfl | decide) (by omega) (by rw [i4, g1, n1]) ?_
    iterate 4 (refine kX_one rfl ?_)
    refine kX_ialdV rfl rfl (by decide) (k) (by first | rfl | decide) (by omega) (by rw [i5]) ?_
    iterate 1 (refine kX_one rfl ?_)
    refine kX_cal (mr_lastOf L xs (d + 2) τ (NF k) (nI n)) rfl (Or.inr rfl) rfl rfl rfl (fun r1 σ1 q1 => ?_)
    obtain ⟨rfl, rfl⟩ := q1
    iterate 4 (refine kX_one rfl ?_)
    refine kX_ialdV rfl rfl (by decide) (k) (by first | rfl | decide) (by omega) (by rw [i6]) ?_
    iterate 1 (refine kX_one rfl ?_)
    refine kX_cal (mr_lastOf L xs (d + 2) τ (NS k) (nI n)) rfl (Or.inr rfl) rfl rfl rfl (fun r1 σ1 q1 => ?_)
    obtain ⟨rfl, rfl⟩ := q1
    refine kX_cal hlast rfl (Or.inr rfl) rfl rfl rfl (fun r1 σ1 q1 => ?_)
    obtain ⟨rfl, hN⟩ := q1
    have hN : mNw τ σ1 (n + k) kd _ _ := hN
    have hG2 := mGr_new hN
    have hrt := mNw_rit hN
    have hK2 := loK_new i7 q hN n1 ha hc
    have hcc : ∀ c, c = 281 ∨ c = 282 ∨ c = 283 → σ1 c = τ c := by
      obtain ⟨z, g, nx, hd, jd, rfl, -⟩ := hN
      rintro c (rfl | rfl | rfl) <;> rfl
    have hT2 : mTb σ1 (n + k + 1) 200 := by
      obtain ⟨z, g, nx, hd, jd, -, hT⟩ := hN
      exact hT
    iterate 3 (refine kX_one rfl ?_)
    have := ih (k + 1, σ1) ⟨by simp only; omega, ⟨200, hT2⟩, mGr_trans i3 hG2 (by omega), (hcc _ (Or.inl rfl)).trans i4, (hcc _ (Or.inr (Or.inl rfl))).trans i5, (hcc _ (Or.inr (Or.inr rfl))).trans i6, hK2, fun _ => ⟨hT2, hrt⟩⟩ (by simp only; omega)
    dsimp only at this
    rw [← nI_1] at this
    exact kX_lv _ rfl rfl rfl this
/-- what order is found by changes nothing else -/
theorem mI_fo {σ : kS} {n b R S C : Nat} {kl : List Nat} {W I O : Nat → Int32} {m : Int32} (h : mI σ n b R S C kl) : mI (foS σ W I O m) n b R S C kl := by
  obtain ⟨g1, g2, g3, g4, g5, g6, g7⟩ := h
  refine ⟨g1, g2, g3, g4, g5, ?_, g7⟩
  rcases g6 with g6 | ⟨g6, ds, d1, d2, d3⟩
  · exact Or.inl g6
  · refine Or.inr ⟨g6, ds, d1, d2, ?_⟩
    rcases d3 with d3 | ⟨d3, d4, l, l1, l2, l3⟩
    · exact Or.inl d3
    · refine Or.inr ⟨d3, d4, l, l1, l2, ?_⟩
      rw [trRun_eq (σ := σ) (τ := foS σ W I O m) ⟨rfl, rfl, rfl, rfl, rfl, rfl, rfl, rfl, rfl⟩, ← l3]
      rfl
theorem mI_lo {σ : kS} {n b R S C : Nat} {kl : List Nat} {W I O : Nat → Int32} (h : mI σ n b R S C kl) : mI (loS σ W I O) n b R S C kl := by
  obtain ⟨g1, g2, g3, g4, g5, g6, g7⟩ := h
  refine ⟨g1, g2, g3, g4, g5, ?_, g7⟩
  rcases g6 with g6 | ⟨g6, ds, d1, d2, d3⟩
  · exact Or.inl g6
  · refine Or.inr ⟨g6, ds, d1, d2, ?_⟩
    rcases d3 with d3 | ⟨d3, d4, l, l1, l2, l3⟩
    · exact Or.inl d3
    · refine Or.inr ⟨d3, d4, l, l1, l2, ?_⟩
      rw [trRun_eq (σ := σ) (τ := loS σ W I O) ⟨rfl, rfl, rfl, rfl, rfl, rfl, rfl, rfl, rfl⟩, ← l3]
      rfl
set_option maxRecDepth 100000 in
set_option maxHeartbeats 4000000 in
theorem mr_lasting (L : Nat) (xs : Nat → Int32) (d : Nat) (σ : kS) (n b R S C : Nat) (kl : List Nat) (t : Nat) (h : mI σ n b R S C kl) (hb : b ≤ 776) (ht : 200 ≤ t) (htb : t < b) (h24 : tsz (σ 233) (σ 234) (σ 235) t ≤ 24) : kXM kT L xs (d + 4) 203 [.ref 232, .int (nI t)] σ (fun r σ' => (∃ x, r = some (.int x)) ∧ mAfter σ σ' R) := by
  have hT := h.1
  have hn := hT.1
  unfold kXM
  iterate 2 (refine kX_one rfl ?_)
  refine kX_cal (mr_findOrder L xs (d + 1) σ n b t hT hb ht htb h24) rfl (Or.inr rfl) rfl rfl rfl (fun r1 σ1 q1 => ?_)
  obtain ⟨rfl, l, W, I, O, rfl, hl, hL, htl⟩ := q1
  have hll := foL_len hL hb
  have hI1 : mI (foS σ W I O (nI l.length)) n b R S C kl := mI_fo h
  have hL1 : foL (foS σ W I O (nI l.length)) b l := hL
  have hlow : mLow σ (foS σ W I O (nI l.length)) := fun c hc => by
    unfold foS va_up
    rw [if_neg (by omega), if_neg (by omega), if_neg (by omega), if_neg (by omega)]
  have hord : foS σ W I O (nI l.length) 232 61 = nI l.length := rfl
  have hord2 : lst (foS σ W I O (nI l.length) 279) l := hl
  have hter : foS σ W I O (nI l.length) 232 9 = nI n := hI1.1.2.2.2.1
  generalize foS σ W I O (nI l.length) = ρ at *
  have k23 : n + l.length ≤ 200 → kX kT L xs (d + 4) 203 23 [(0, .ref 232), (1, .int (nI t))] [] ρ (fun r σ' => (∃ x, r = some (.int x)) ∧ mAfter σ σ' R) := by
    intro h200
    iterate 2 (refine kX_one rfl ?_)
    have h1 := mr_lo_one L xs (d + 2) ρ n b l hI1.1 hb hord2 hord hL1 (nI t) (fun r σ' => (∃ x, r = some (.int x)) ∧ mAfter σ σ' R) (fun NK NF NS hlo => ?_) (0, ρ 281, ρ 282, ρ 283) ⟨Nat.zero_le _, fun j _ hj => absurd hj (Nat.not_lt_zero _)⟩
    · refine kX_to _ _ rfl rfl rfl ?_ h1
      funext c; unfold loS va_up; repeat' split
      all_goals first | rfl | omega | (subst_vars; rfl) | (funext j; unfold upd; repeat' split; all_goals first | rfl | omega | (subst_vars; rfl))
    · have hT3 : mTb (loS ρ NK NF NS) n b := hI1.1
      have hI3 : mI (loS ρ NK NF NS) n b R S C kl := mI_lo hI1
      have hL3 : foL (loS ρ NK NF NS) b l := hL1
      have hlo3 : loI (loS ρ NK NF NS) n l NK NF NS l.length := hlo
      have hlow3 : mLow σ (loS ρ NK NF NS) := mLow_trans hlow (fun c hc => by
        unfold loS va_up
        rw [if_neg (by omega), if_neg (by omega), if_neg (by omega)])
      have h2 := mr_lo_two L xs d (loS ρ NK NF NS) n b l hT3 hb hL3 h200 NK NF NS hlo3 (nI t) (fun r σ' => (∃ x, r = some (.int x)) ∧ mAfter σ σ' R) (fun τ g1 g2 g3 => ?_) (0, loS ρ NK NF NS) ⟨Nat.zero_le _, ⟨b, hT3⟩, ⟨fun _ _ => rfl, fun _ _ => rfl, fun _ _ => ⟨rfl, rfl, rfl⟩⟩, rfl, rfl, rfl, fun j _ hj => absurd hj (Nat.not_lt_zero _), fun hj => absurd hj (Nat.lt_irrefl _)⟩
      · iterate 2 (refine kX_one rfl ?_)
        refine kX_top (hord) ?_
        iterate 3 (refine kX_one rfl ?_)
        refine kX_top (hter) ?_
        iterate 3 (refine kX_one rfl ?_)
        exact kX_lv _ rfl rfl rfl h2
      · have hpos : 0 < l.length := List.length_pos_of_mem htl
        obtain ⟨g4, g5⟩ := g3 hpos
        repeat refine kX_one rfl ?_
        refine kX_ret (i := .ireturn) (len := 1) rfl (Or.inr rfl) rfl ⟨⟨_, rfl⟩, mLow_trans hlow3 (mLow_gr g1), n + l.length, 200, S, C, kl, mI_gr hI3 g1 (by omega) (fun u u1 u2 => ?_) g4 g5⟩
        obtain ⟨j, rfl⟩ : ∃ j, u = n + j := ⟨u - n, by omega⟩
        have hj : j < l.length := by omega
        obtain ⟨x1, x2, -⟩ := hL3.1 _ (List.getElem_mem hj)
        have := hT3.2.2.2.2.2.2.2.2.1 _ x1 x2
        rw [(g2 j hj hj).1]
        intro e
        rw [e, fN_nI (by omega)] at this
        omega
  iterate 2 (refine kX_one rfl ?_)
  refine kX_top (hter) ?_
  iterate 2 (refine kX_one rfl ?_)
  refine kX_top (hord) ?_
  iterate 1 (refine kX_one rfl ?_)
  refine kX_top (nI_add n l.length) ?_
  iterate 1 (refine kX_one rfl ?_)
  repeat refine kX_one rfl ?_
  refine kX_if (fun q => ?_) (fun q => ?_)
  · have q := qle q (n + l.length) 200
    exact k23 q
  · repeat refine kX_one rfl ?_
    refine kX_ret (i := .ireturn) (len := 1) rfl (Or.inr rfl) rfl (⟨⟨_, rfl⟩, hlow, n, b, S, C, kl, hI1⟩)
end
