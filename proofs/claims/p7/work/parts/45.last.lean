/-! the reference's table: release, last, made keep it whole -/
/-- what release leaves -/
def mRel (σ : kS) (f : Nat) (hd : Nat → Int32) : kS := va_up (va_up σ 242 hd) 232 (upd (upd (σ 232) 10 (nI f)) 49 (if σ 232 49 < nI f then σ 232 49 else nI f))
theorem tbW_sub {V V' AG : Nat → Prop} {K F S Z : Nat → Int32} (h : tbW V AG K F S Z) (h1 : ∀ t, V' t → V t) (h2 : ∀ t x, V' t → x < t → V x → V' x) : tbW V' AG K F S Z :=
  ⟨fun t ht => ⟨(h.1 t (h1 t ht)).1, tOk_mono (fun x hx hv => h2 t x ht hx hv) (fun _ _ q => q) rfl rfl rfl (h.1 t (h1 t ht)).2⟩, fun t ht => h.2.1 t (h1 t ht), fun t u ht hu => h.2.2 t u (h1 t ht) (h1 u hu)⟩
theorem mRel_Tb {σ : kS} {n b f : Nat} {hd : Nat → Int32} (h : mTb σ n b) (hf : 200 ≤ f) (hb : f ≤ b) (hc : hcP 1024 1000 (fun t => (mv n b t ∧ 3 < fN (σ 233 t)) ∧ t < f) (mpt σ) hd (σ 243)) : mTb (mRel σ f hd) n f := by
  obtain ⟨h1, h2, h3, h4, h5, h6, h7, h8, h9, h10⟩ := h
  have hv : ∀ t, mv n f t ↔ mv n b t ∧ t < f := fun t => by unfold mv; omega
  refine ⟨h1, hf, by omega, h4, rfl, ?_, fun t ht => h7 t ((hv t).mp ht).1, ?_, fun t g1 g2 => h9 t g1 (by omega), h10⟩
  · exact tbW_sub h6 (fun t ht => ((hv t).mp ht).1) (fun t x ht hx q => (hv x).mpr ⟨q, by have := ((hv t).mp ht).2; omega⟩)
  · exact hcP_congr (V' := fun t => mv n f t ∧ 3 < fN (σ 233 t)) (fun t => ⟨fun q => ⟨(hv t).mpr ⟨q.1.1, q.2⟩, q.1.2⟩, fun q => ⟨⟨((hv t).mp q.1).1, q.2⟩, ((hv t).mp q.1).2⟩⟩) (fun _ _ => rfl) hc
set_option maxRecDepth 100000 in
set_option maxHeartbeats 4000000 in
theorem mr_release (L : Nat) (xs : Nat → Int32) (d : Nat) (σ : kS) (n b f : Nat) (h : mTb σ n b) (hf : 200 ≤ f) (hb : f ≤ b) : kXM kT L xs (d + 1) 151 [.ref 232, .int (nI f)] σ (fun r σ' => r = none ∧ ∃ hd, σ' = mRel σ f hd ∧ mTb σ' n f) := by
  have h0 := h
  obtain ⟨h1, h2, h3, h4, h5, h6, h7, h8, h9, h10⟩ := h
  unfold kXM
  have hend : ∀ hd x, hcP 1024 1000 (fun t => (mv n b t ∧ 3 < fN (σ 233 t)) ∧ t < f) (mpt σ) hd (σ 243) → kX kT L xs (d + 1) 151 50 [(2, .int x), (0, .ref 232), (1, .int (nI f))] [] (va_up σ 242 hd) (fun r σ' => r = none ∧ ∃ hd, σ' = mRel σ f hd ∧ mTb σ' n f) := by
    intro hd x hc
    have hH := mRel_Tb h0 hf hb hc
    repeat refine kX_one rfl ?_
    repeat refine kX_one rfl ?_
    refine kX_if (fun q => ?_) (fun q => ?_)
    · have q1 : nI f ≤ σ 232 49 := of_decide_eq_true q
      have e : mRel σ f hd = va_up (va_up σ 242 hd) 232 (upd (upd (σ 232) 10 (nI f)) 49 (nI f)) := by
        unfold mRel
        rw [if_neg (Int32.not_lt.mpr q1)]
      repeat refine kX_one rfl ?_
      rw [kup_up]
      refine kX_ret (i := .return_) (len := 1) rfl (Or.inr rfl) rfl ⟨rfl, hd, e.symm, ?_⟩
      rw [e] at hH
      exact hH
    · have q1 : σ 232 49 < nI f := Int32.not_le.mp (of_decide_eq_false q)
      have e : mRel σ f hd = va_up (va_up σ 242 hd) 232 (upd (upd (σ 232) 10 (nI f)) 49 (σ 232 49)) := by
        unfold mRel
        rw [if_pos q1]
      repeat refine kX_one rfl ?_
      rw [kup_up]
      refine kX_ret (i := .return_) (len := 1) rfl (Or.inr rfl) rfl ⟨rfl, hd, e.symm, ?_⟩
      rw [e] at hH
      exact hH
  iterate 5 (refine kX_one rfl ?_)
  rw [h5]
  obtain ⟨c, rfl⟩ : ∃ c, b = c + 1 := ⟨b - 1, by omega⟩
  have := mr_release_loop L xs d σ (fun t => mv n (c + 1) t ∧ 3 < fN (σ 233 t)) f hf (by omega) _ hend (c, σ 242) ⟨by simp only; omega, by simp only; omega, fun t g1 g2 => ⟨Or.inr (by simp only at g2; omega), h9 t (by omega) (by simp only at g2; omega)⟩, hcP_congr (fun t => ⟨fun q => ⟨q, by have := q.1; unfold mv at this; simp only; omega⟩, fun q => q.1⟩) (fun _ _ => rfl) h8⟩
  rw [← nI_pred] at this
  rw [kup_self] at this
  exact this
/-- the new TERM's own words -/
theorem mTb_new {σ : kS} {n b t k x y : Nat} {a c : Int32} (h : mTb σ n b) (hm : ∀ u, mv n b u → u < t) (ht : t < 1000) (hw : tNw k a c x y t) (hx : 3 < k → mv n b x) (hy : k = 4 ∨ k = 5 ∨ k = 6 ∨ k = 8 → mv n b y) (h6 : k = 6 ∨ k = 8 → mAG σ n y) (h7 : k = 7 → mAG σ n x) :
    msz (σ 236) k x y = nI (tsz (upd (σ 233) t (nI k)) (upd (σ 234) t a) (upd (σ 235) t c) t) ∧ mgv (σ 237) k x y = bI (tgd (upd (σ 233) t (nI k)) (upd (σ 234) t a) (upd (σ 235) t c) t) := by
  obtain ⟨h1, h2, h3, h4, h5, hW, hG, -⟩ := h
  have hk9 : k ≤ 9 := by rcases hw with h | h | h <;> omega
  have hag : ∀ z, mAG σ n z → mv n b z ∧ tsz (σ 233) (σ 234) (σ 235) z = 1 := fun z hz => by
    refine ⟨Or.inl hz.1, ?_⟩
    rcases hz.2 with e | ⟨e, -⟩
    · exact tA_0 e (by omega)
    · exact tA_0 e (by omega)
  constructor
  · unfold tsz
    rw [tA_new (lf := fun _ => 1) (nd := fun _ a b => 1 + a + b.getD 0) hW.1 hm (by omega) (fun _ q => q) (fun _ _ => rfl) hw hx hy h6 h7]
    unfold msz tNd
    split
    · rfl
    · next h3 =>
      have ex := hW.2.1 x (hx (by omega))
      split
      · next e7 =>
        rw [if_pos (Or.inl e7)]
        have := (hag x (h7 e7)).2
        unfold tsz at this
        rw [this]
        rfl
      · next e7 =>
        split
        · next e45 =>
          rw [if_neg (show ¬ (k = 7 ∨ k = 9) by omega), ex, hW.2.1 y (hy (by omega)), nI_add, nI_add]
          rfl
        · next e45 =>
          split
          · next e9 =>
            rw [if_pos (Or.inr e9), ex, ← nI_0, nI_add, nI_add]
            rfl
          · next e9 =>
            have e68 : k = 6 ∨ k = 8 := by rcases hw with h | h | h <;> omega
            have := (hag y (h6 e68)).2
            unfold tsz at this
            rw [if_neg (show ¬ (k = 7 ∨ k = 9) by omega), ex, nI_add, nI_add, this]
            rfl
  · unfold tgd
    rw [tA_new (lf := fun t => decide (σ 233 t ≠ nI 3)) (nd := fun _ a b => a && b.getD true) hW.1 hm (by omega) (fun _ q => q) (fun u hu => by rw [pk_un (by have := hm u hu; omega)]) hw hx hy h6 h7]
    unfold mgv tNd
    rw [pk_us]
    split
    · next e3 =>
      subst e3
      rfl
    · next e3 =>
      split
      · next e =>
        rw [if_pos (show k ≤ 3 by omega)]
        have : nI k ≠ nI 3 := nI_ne (by omega)
        rw [decide_eq_true this]
        rfl
      · next e =>
        rw [if_neg (show ¬ k ≤ 3 by omega)]
        have ex := hG x (hx (by omega))
        unfold tgd at ex
        rw [ex]
        split
        · next g0 =>
          rw [bI_eq] at g0
          rw [g0]
          split <;> rfl
        · next g0 =>
          have g0 := (bI_ne _).mp g0
          rw [g0]
          split
          · rfl
          · next e7 =>
            have ey := hG y (hy (by rcases hw with h | h | h <;> omega))
            unfold tgd at ey
            rw [ey]
            split
            · next g1 =>
              rw [bI_eq] at g1
              rw [g1]
              rfl
            · next g1 =>
              have g1 := (bI_ne _).mp g1
              rw [g1]
              rfl
/-- the table with one TERM more -/
theorem mTb_lay {σ : kS} {n b t k x y n' b' : Nat} {a c : Int32} (h : mTb σ n b) (hm : ∀ u, mv n b u → u < t) (hv : ∀ u, mv n' b' u ↔ mv n b u ∨ u = t) (ht : t < 1000) (hw : tNw k a c x y t) (hx : 3 < k → mv n b x) (hy : k = 4 ∨ k = 5 ∨ k = 6 ∨ k = 8 → mv n b y) (h6 : k = 6 ∨ k = 8 → mAG σ n y) (h7 : k = 7 → mAG σ n x)
    (hu : 3 < k → ∀ u, mv n b u → ¬ mIs σ u (nI k) a c) (hn : n ≤ n') (τ : Nat → Int32) (e1 : τ 9 = nI n') (e2 : τ 10 = nI b') (hb : n' ≤ 200 ∧ 200 ≤ b' ∧ b' ≤ 1000) (h3 : 200 ≤ t → 3 < k) (h24 : t < n' → tsz (upd (σ 233) t (nI k)) (upd (σ 234) t a) (upd (σ 235) t c) t ≤ 24) :
    mTb (va_up (mLay σ t k a c x y) 232 τ) n' b' := by
  have hk9 : k ≤ 9 := by rcases hw with h | h | h <;> omega
  obtain ⟨ez, eg⟩ := mTb_new h hm ht hw hx hy h6 h7
  have h0 := h
  obtain ⟨g1, g2, g3, g4, g5, hW, hG, hC, hB, hS⟩ := h
  have hA : ∀ z, mAG σ n z → mAG (va_up (mLay σ t k a c x y) 232 τ) n' z := fun z hz => by
    have hzt := hm z (Or.inl hz.1)
    refine ⟨by have := hz.1; omega, ?_⟩
    have e : (va_up (mLay σ t k a c x y) 232 τ) 233 = upd (σ 233) t (nI k) := by unfold mLay; split <;> rfl
    have e' : (va_up (mLay σ t k a c x y) 232 τ) 240 = σ 240 := by unfold mLay; split <;> rfl
    rw [e, e', pk_un (by omega)]
    exact hz.2
  have hp := tb_push hW hm (by omega) hA (tOk_new hw hx hy (fun e => hA _ (h6 e)) (fun e => hA _ (h7 e))) (fun hk u hu' hi => hu (by rw [fN_nI (by omega)] at hk; exact hk) u hu' hi)
  rw [← ez] at hp
  have hgd : ∀ u, mv n' b' u → upd (σ 237) t (mgv (σ 237) k x y) u = bI (tgd (upd (σ 233) t (nI k)) (upd (σ 234) t a) (upd (σ 235) t c) u) := fun u hu' => by
    rcases (hv u).mp hu' with q | rfl
    · have := hm u q
      rw [pk_un (by omega), hG u q]
      exact congrArg bI (tb_old hW.1 hm (fun u hu => by rw [pk_un (by have := hm u hu; omega)]) u q).symm
    · rw [pk_us]
      exact eg
  have hW' : tbW (mv n' b') (mAG (va_up (mLay σ t k a c x y) 232 τ) n') (upd (σ 233) t (nI k)) (upd (σ 234) t a) (upd (σ 235) t c) (upd (σ 236) t (msz (σ 236) k x y)) := tbW_sub hp (fun u q => (hv u).mp q) (fun u z _ _ q => (hv z).mpr q)
  have hb3 : ∀ u, 200 ≤ u → u < b' → 3 < fN (upd (σ 233) t (nI k) u) := fun u q1 q2 => by
    rcases (hv u).mp (Or.inr ⟨q1, q2⟩) with q | rfl
    · have := hm u q
      rw [pk_un (by omega)]
      unfold mv at q
      exact hB u q1 (by omega)
    · rw [pk_us, fN_nI (by omega)]
      exact h3 q1
  have h24' : ∀ u, u < n' → tsz (upd (σ 233) t (nI k)) (upd (σ 234) t a) (upd (σ 235) t c) u ≤ 24 := fun u q => by
    rcases (hv u).mp (Or.inl q) with q1 | rfl
    · have := hm u q1
      have e : tsz (upd (σ 233) t (nI k)) (upd (σ 234) t a) (upd (σ 235) t c) u = tsz (σ 233) (σ 234) (σ 235) u := tb_old hW.1 hm (fun _ _ => rfl) u q1
      rw [e]
      by_cases hun : u < n
      · exact hS u hun
      · exfalso
        unfold mv at q1
        omega
    · exact h24 q
  have hch : hcP 1024 1000 (fun u => mv n' b' u ∧ 3 < fN (upd (σ 233) t (nI k) u)) (fun u => mpl (upd (σ 233) t (nI k) u) (upd (σ 234) t a u) (upd (σ 235) t c u)) (if k ≤ 3 then σ 242 else upd (σ 242) (mpl (nI k) a c) (nI t)) (if k ≤ 3 then σ 243 else upd (σ 243) t (σ 242 (mpl (nI k) a c))) := by
    have hpl : ∀ u, (mv n b u ∧ 3 < fN (σ 233 u)) → mpt σ u = mpl (upd (σ 233) t (nI k) u) (upd (σ 234) t a u) (upd (σ 235) t c u) := fun u q => by
      have := hm u q.1
      rw [pk_un (by omega), pk_un (by omega), pk_un (by omega)]
      rfl
    split
    · next h3 =>
      refine hcP_congr (fun u => ⟨fun q => ⟨(hv u).mpr (Or.inl q.1), ?_⟩, fun q => ?_⟩) hpl hC
      · rw [pk_un (by have := hm u q.1; omega)]
        exact q.2
      · rcases (hv u).mp q.1 with q1 | rfl
        · have q2 := q.2
          rw [pk_un (by have := hm u q1; omega)] at q2
          exact ⟨q1, q2⟩
        · have q2 := q.2
          rw [pk_us, fN_nI (by omega)] at q2
          omega
    · next h3 =>
      have hC2 : hcP 1024 1000 (fun u => mv n b u ∧ 3 < fN (σ 233 u)) (fun u => mpl (upd (σ 233) t (nI k) u) (upd (σ 234) t a u) (upd (σ 235) t c u)) (σ 242) (σ 243) := hcP_congr (fun _ => Iff.rfl) hpl hC
      have := hcP_push (t := t) hC2 (fun u q => hm u q.1) ht (mpl_lt _ _ _)
      rw [pk_us, pk_us, pk_us] at this
      refine hcP_congr (fun u => ⟨fun q => ?_, fun q => ?_⟩) (fun _ _ => rfl) this
      · rcases q with q | rfl
        · refine ⟨(hv u).mpr (Or.inl q.1), ?_⟩
          rw [pk_un (by have := hm u q.1; omega)]
          exact q.2
        · refine ⟨(hv u).mpr (Or.inr rfl), ?_⟩
          rw [pk_us, fN_nI (by omega)]
          omega
      · rcases (hv u).mp q.1 with q1 | rfl
        · have q2 := q.2
          rw [pk_un (by have := hm u q1; omega)] at q2
          exact Or.inl ⟨q1, q2⟩
        · exact Or.inr rfl
  unfold mLay at hA hW' ⊢
  split at hch
  · next hk3 =>
    rw [if_pos hk3] at hW' ⊢
    exact ⟨hb.1, hb.2.1, hb.2.2, e1, e2, hW', hgd, hch, hb3, h24'⟩
  · next hk3 =>
    rw [if_neg hk3] at hW' ⊢
    exact ⟨hb.1, hb.2.1, hb.2.2, e1, e2, hW', hgd, hch, hb3, h24'⟩
/-- contents with another table -/
def mU (σ : kS) (K F S Z G nx hd o : Nat → Int32) : kS := va_up (va_up (va_up (va_up (va_up (va_up (va_up (va_up σ 233 K) 234 F) 235 S) 236 Z) 237 G) 243 nx) 242 hd) 232 o
theorem mU_of {σ τ : kS} (h : ∀ c, c ≠ 233 → c ≠ 234 → c ≠ 235 → c ≠ 236 → c ≠ 237 → c ≠ 243 → c ≠ 242 → c ≠ 232 → τ c = σ c) : τ = mU σ (τ 233) (τ 234) (τ 235) (τ 236) (τ 237) (τ 243) (τ 242) (τ 232) := by
  funext c
  unfold mU va_up
  repeat' split
  all_goals first | (next e => rw [e]) | skip
  next h1 h2 h3 h4 h5 h6 h7 h8 => exact h c h8 h7 h6 h5 h4 h3 h2 h1
def mO (o : Nat → Int32) (n : Nat) (jd : Int32) : Nat → Int32 := upd (upd (upd (upd o 10 (nI 200)) 49 jd) 47 0) 9 (nI (n + 1))
set_option maxRecDepth 100000 in
set_option maxHeartbeats 4000000 in
theorem mr_last (L : Nat) (xs : Nat → Int32) (d : Nat) (σ : kS) (n b k : Nat) (a c : Int32) (x y : Nat) (h : mTb σ n b) (hn : n < 200) (hw : tNw k a c x y n) (h6 : k = 6 ∨ k = 8 → mAG σ n y) (h7 : k = 7 → mAG σ n x) (hu : 3 < k → ∀ u, u < n → ¬ mIs σ u (nI k) a c) (h24 : msz (σ 236) k x y ≤ nI 24) :
    kXM kT L xs (d + 3) 152 [.ref 232, .int (nI k), .int a, .int c] σ (fun r σ' => r = some (.int (nI n)) ∧ ∃ z g nx hd jd, σ' = mU σ (upd (σ 233) n (nI k)) (upd (σ 234) n a) (upd (σ 235) n c) (upd (σ 236) n z) (upd (σ 237) n g) nx hd (mO (σ 232) n jd) ∧ mTb σ' (n + 1) 200) := by
  unfold kXM
  have hb := h.2.1
  repeat refine kX_one rfl ?_
  refine kX_cal (mr_release L xs (d + 1) σ n b 200 h (by decide) hb) rfl (Or.inr rfl) rfl rfl rfl (fun r1 σ1 q1 => ?_)
  obtain ⟨rfl, hd, rfl, hT⟩ := q1
  iterate 6 (refine kX_one rfl ?_)
  refine kX_top (hT.2.2.2.1) ?_
  repeat refine kX_one rfl ?_
  refine kX_cal (mr_lay L xs d _ n k a c x y hw (by omega)) rfl (Or.inr rfl) rfl rfl rfl (fun r1 σ1 q1 => ?_)
  obtain ⟨rfl, rfl⟩ := q1
  have hT2 : mTb (va_up (mRel σ 200 hd) 232 (upd (mRel σ 200 hd 232) 47 (Int32.ofInt 0))) n 200 := hT
  have hterm : mLay (va_up (mRel σ 200 hd) 232 (upd (mRel σ 200 hd 232) 47 (Int32.ofInt 0))) n k a c x y 232 9 = nI n := by
    have := hT.2.2.2.1
    unfold mLay
    split <;> exact this
  iterate 3 (refine kX_one rfl ?_)
  refine kX_top (hterm) ?_
  repeat refine kX_one rfl ?_
  have hm : ∀ u, mv n 200 u → u < n := fun u q => by unfold mv at q; omega
  have hmx : 3 < k → mv n 200 x := fun q => Or.inl (by rcases hw with h | h | h <;> omega)
  have hmy : k = 4 ∨ k = 5 ∨ k = 6 ∨ k = 8 → mv n 200 y := fun q => Or.inl (by rcases hw with h | h | h <;> omega)
  have hnew := mTb_new hT2 hm (by omega) hw hmx hmy h6 h7
  have hz : msz (σ 236) k x y = nI (tsz (upd (σ 233) n (nI k)) (upd (σ 234) n a) (upd (σ 235) n c) n) := hnew.1
  have hsz : ∀ t, t < n → tsz (σ 233) (σ 234) (σ 235) t ≤ 24 := h.2.2.2.2.2.2.2.2.2
  have hle : tsz (upd (σ 233) n (nI k)) (upd (σ 234) n a) (upd (σ 235) n c) n ≤ 24 := by
    have hb : tsz (upd (σ 233) n (nI k)) (upd (σ 234) n a) (upd (σ 235) n c) n < 100 := by
      unfold tsz
      have hV0 : ∀ t, mv n 200 t → t < 100000 ∧ tOk (mv n 200) (mAG σ n) (σ 233) (σ 234) (σ 235) t := hT2.2.2.2.2.2.1.1
      rw [tA_new (lf := fun _ => 1) (nd := fun _ a b => 1 + a + b.getD 0) hV0 hm (by omega) (fun _ q => q) (fun _ _ => rfl) hw hmx hmy h6 h7]
      unfold tNd
      split
      · omega
      · next h3 =>
        have hx9 := hsz x (by rcases hw with h | h | h <;> omega)
        unfold tsz at hx9
        split
        · show 1 + tA (fun _ => 1) (fun _ a b => 1 + a + b.getD 0) (σ 233) (σ 234) (σ 235) x + 0 < 100
          omega
        · next e =>
          have hy9 := hsz y (by rcases hw with h | h | h <;> omega)
          unfold tsz at hy9
          show 1 + tA (fun _ => 1) (fun _ a b => 1 + a + b.getD 0) (σ 233) (σ 234) (σ 235) x + tA (fun _ => 1) (fun _ a b => 1 + a + b.getD 0) (σ 233) (σ 234) (σ 235) y < 100
          omega
    rw [hz] at h24
    exact (nI_leI (by omega) (by decide)).mp h24
  have hF := mTb_lay hT2 hm (n' := n + 1) (b' := 200) (fun u => by unfold mv; omega) (by omega) hw hmx hmy h6 h7 (fun q u hu' => hu q u (hm u hu')) (by omega) (mO (σ 232) n ((mRel σ 200 hd) 232 49)) rfl rfl ⟨by omega, by omega, by omega⟩ (fun q => by omega) (fun _ => hle)
  have eO : (upd (mLay (va_up (mRel σ 200 hd) 232 (upd (mRel σ 200 hd 232) 47 (Int32.ofInt 0))) n k a c x y 232) 9 (nI n + Int32.ofInt 1)) = mO (σ 232) n ((mRel σ 200 hd) 232 49) := by
    have e1 : nI n + Int32.ofInt 1 = nI (n + 1) := nI_1 n
    rw [e1]
    unfold mLay
    split <;> (funext j; unfold mO mLy mRel upd va_up; simp only []; repeat' split) <;> first | rfl | omega
  refine kX_st (va_up (mLay (va_up (mRel σ 200 hd) 232 (upd (mRel σ 200 hd 232) 47 (Int32.ofInt 0))) n k a c x y) 232 (mO (σ 232) n ((mRel σ 200 hd) 232 49))) (congrArg (va_up _ 232) eO) ?_
  refine kX_ret (i := .ireturn) (len := 1) rfl (Or.inr rfl) rfl ⟨?_, ?_⟩
  · show some (Value.int (upd (mLay (va_up (mRel σ 200 hd) 232 (upd (mRel σ 200 hd 232) 47 (Int32.ofInt 0))) n k a c x y 232) 9 (nI n + Int32.ofInt 1) 9 - Int32.ofInt 1)) = _
    rw [pk_us, show nI n + Int32.ofInt 1 = nI (n + 1) from nI_1 n]
    exact congrArg (fun z => some (Value.int z)) (nI_pred n)
  · refine ⟨msz (σ 236) k x y, mgv (σ 237) k x y, (if k ≤ 3 then σ 243 else upd (σ 243) n (hd (mpl (nI k) a c))), (if k ≤ 3 then hd else upd hd (mpl (nI k) a c) (nI n)), (mRel σ 200 hd) 232 49, ?_, hF⟩
    have := mU_of (σ := σ) (τ := va_up (mLay (va_up (mRel σ 200 hd) 232 (upd (mRel σ 200 hd 232) 47 (Int32.ofInt 0))) n k a c x y) 232 (mO (σ 232) n ((mRel σ 200 hd) 232 49))) (fun c h1 h2 h3 h4 h5 h6 h7 h8 => by
      unfold mLay
      split <;> simp [mLy, mRel, va_up, h1, h2, h3, h4, h5, h6, h7, h8])
    rw [this]
    unfold mLay
    split <;> rfl
