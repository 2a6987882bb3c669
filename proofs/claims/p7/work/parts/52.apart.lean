/-! the reference: the row taken apart -/
def rwS (σ : kS) (Mk I R H M o : Nat → Int32) : kS := va_up (va_up (va_up (va_up (va_up (va_up σ 272 Mk) 271 I) 268 R) 269 H) 270 M) 232 o
theorem rwS_of {σ τ : kS} (h : ∀ c, c ≠ 272 → c ≠ 271 → c ≠ 268 → c ≠ 269 → c ≠ 270 → c ≠ 232 → τ c = σ c) : τ = rwS σ (τ 272) (τ 271) (τ 268) (τ 269) (τ 270) (τ 232) := by
  funext c
  unfold rwS va_up
  repeat' split
  all_goals first | (next e => rw [e]) | skip
  next h1 h2 h3 h4 h5 h6 => exact h c h6 h5 h4 h3 h2 h1
theorem rwS_rwS (σ : kS) (a b c d e f a' b' c' d' e' f' : Nat → Int32) : rwS (rwS σ a b c d e f) a' b' c' d' e' f' = rwS σ a' b' c' d' e' f' :=
  rwS_of (σ := σ) (τ := rwS (rwS σ a b c d e f) a' b' c' d' e' f') (fun c h1 h2 h3 h4 h5 h6 => by
    simp [rwS, va_up, h1, h2, h3, h4, h5, h6])
/-- nothing else has changed but the row and what was judged -/
def rwF (σ τ : kS) : Prop := (∃ Mk I R H M o, τ = rwS σ Mk I R H M o) ∧ ∀ j, j ≠ 49 → j ≠ 50 → j ≠ 46 → τ 232 j = σ 232 j
theorem rwF_refl (σ : kS) : rwF σ σ := ⟨⟨_, _, _, _, _, _, rwS_of (fun _ _ _ _ _ _ _ => rfl)⟩, fun _ _ _ _ => rfl⟩
theorem rwF_trans {σ τ ρ : kS} (h1 : rwF σ τ) (h2 : rwF τ ρ) : rwF σ ρ := by
  obtain ⟨⟨a, b, c, d, e, f, rfl⟩, g1⟩ := h1
  obtain ⟨⟨a', b', c', d', e', f', rfl⟩, g2⟩ := h2
  exact ⟨⟨a', b', c', d', e', f', rwS_rwS _ _ _ _ _ _ _ _ _ _ _ _ _⟩, fun j h1 h2 h3 => (g2 j h1 h2 h3).trans (g1 j h1 h2 h3)⟩
theorem rwF_mRu {σ : kS} {I R H M : Nat → Int32} {x : Int32} : rwF σ (mRu σ I R H M (upd (σ 232) 46 x)) := by
  refine ⟨⟨σ 272, I, R, H, M, upd (σ 232) 46 x, ?_⟩, fun j _ _ h3 => ?_⟩
  · funext c; unfold mRu rwS va_up; repeat' split
    all_goals first | rfl | omega | (subst_vars; rfl) | (funext j; unfold upd; repeat' split; all_goals first | rfl | omega | (subst_vars; rfl))
  · show upd (σ 232) 46 x j = _
    exact pk_un h3
theorem rwF_cmS {σ : kS} {M : Nat → Int32} {x y : Int32} : rwF σ (cmS σ M (upd (upd (σ 232) 49 x) 50 y)) := by
  refine ⟨⟨M, σ 271, σ 268, σ 269, σ 270, upd (upd (σ 232) 49 x) 50 y, ?_⟩, fun j h1 h2 _ => ?_⟩
  · funext c; unfold cmS rwS va_up; repeat' split
    all_goals first | rfl | omega | (subst_vars; rfl) | (funext j; unfold upd; repeat' split; all_goals first | rfl | omega | (subst_vars; rfl))
  · show upd (upd (σ 232) 49 x) 50 y j = _
    rw [pk_un h2, pk_un h1]
theorem rwF_Tb {σ τ : kS} {n b : Nat} (h : rwF σ τ) (hT : mTb σ n b) : mTb τ n b := by
  obtain ⟨⟨Mk, I, R, H, M, o, rfl⟩, g⟩ := h
  obtain ⟨h1, h2, h3, h4, h5, h6⟩ := hT
  exact ⟨h1, h2, h3, (g _ (by decide) (by decide) (by decide)).trans h4, (g _ (by decide) (by decide) (by decide)).trans h5, h6⟩
theorem rwA_len {l : rwT} {t : Nat} {w p : Int32} : rwA l t w p = l ∨ rwA l t w p = l ++ [(t, w, p)] := by
  unfold rwA
  split
  · exact Or.inl rfl
  · exact Or.inr rfl
/-- what was judged of a shorter row says nothing of a longer one -/
theorem mJd_comes {σ : kS} {n b : Nat} {l : rwT} {I R H M : Nat → Int32} {t : Nat} {w p : Int32} (hl : l.length ≤ 1000) (h : mJd σ n b l) : mJd (mRu σ I R H M (upd (σ 232) 46 (nI (rwA l t w p).length))) n b (rwA l t w p) := by
  rcases rwA_len (l := l) (t := t) (w := w) (p := p) with e | e
  · rw [e]
    exact h
  · rw [e]
    refine ⟨?_, fun q => ?_⟩
    · rcases h.1 with h1 | ⟨r0, h1, h2⟩
      · exact Or.inl h1
      · exact Or.inr ⟨r0, by rw [List.length_append]; omega, h2⟩
    · exfalso
      rw [List.length_append] at q
      have q' : σ 232 50 = nI (l.length + 1) := q
      rcases h.1 with h1 | ⟨r0, h1, h2⟩
      · rw [h1] at q'
        exact nI_m1 (by omega) q'.symm
      · rw [h2] at q'
        have := nI_inj q'
        omega
noncomputable def cit {α : Type} (P : Prop) (a b : α) : α := @ite _ P (Classical.propDecidable P) a b
theorem cit_T {α : Type} {P : Prop} {a b : α} (h : P) : cit P a b = a := by unfold cit; exact if_pos h
theorem cit_F {α : Type} {P : Prop} {a b : α} (h : ¬ P) : cit P a b = b := by unfold cit; exact if_neg h
/-- the PRIVATE of an AGENT is had -/
def mHp (σ : kS) (l : rwT) (y : Nat) : Prop := vnh (σ 238) (.arg y) ∨ mR σ l (.length (.arg y))
noncomputable def tkT (σ : kS) (l : rwT) (p t : Nat) : rwT := if σ 233 t = nI 4 then rwA (rwA l (fN (σ 234 t)) (nI 2) (nI p)) (fN (σ 235 t)) (nI 3) (nI p)
  else if σ 233 t = nI 5 then cit (mMk σ l (fN (σ 235 t))) (rwA l (fN (σ 234 t)) (nI 4) (nI p)) l
  else if σ 233 t = nI 6 then cit (mHp σ l (fN (σ 235 t))) (rwA l (fN (σ 234 t)) (nI 5) (nI p)) l
  else if σ 233 t = nI 8 then rwA l (fN (σ 234 t)) (nI 6) (nI p) else l
/-- place p of the row l is taken apart -/
noncomputable def tkR (σ : kS) (l : rwT) (p : Nat) : rwT := match l[p]? with
  | some q => tkT σ l p q.1
  | none => l
set_option maxRecDepth 100000 in
set_option maxHeartbeats 4000000 in
theorem mr_takeApart (L : Nat) (xs : Nat → Int32) (d : Nat) (σ : kS) (n b : Nat) (l : rwT) (p : Nat) (h : mTb σ n b) (hq : mRq σ (mvG σ n b) l) (hj : mJd σ n b l) (hp : p < l.length) : kXM kT L xs (d + 5) 184 [.ref 232, .int (nI p)] σ (fun r σ' => r = none ∧ rwF σ σ' ∧ mRq σ' (mvG σ n b) (tkR σ l p) ∧ mJd σ' n b (tkR σ l p)) := by
  have hn := h.1
  have hb := h.2.2.1
  have hV := h.2.2.2.2.2.1.1
  have hl := mRq_len hq
  have h1000 : ∀ x, mv n b x → x < 1000 := fun x q => by unfold mv at q; omega
  obtain ⟨t, ht⟩ : ∃ t, (l[p]'hp).1 = t := ⟨_, rfl⟩
  have hR : tkR σ l p = tkT σ l p t := by
    unfold tkR
    rw [List.getElem?_eq_getElem hp]
    rw [← ht]
  have hrow : σ 268 p = nI t := by rw [← ht]; exact (hq.2.1 p hp).1
  have htv : mvG σ n b t := hq.2.2.1 t ⟨l[p]'hp, List.getElem_mem hp, ht⟩
  have ht1 := h1000 t htv.1
  rw [hR]
  /- one that comes -/
  have hcome : ∀ (τ : kS) (l1 : rwT) (x : Nat) (w : Int32) (pc : Nat) (lv : jL), rwF σ τ → mRq τ (mvG σ n b) l1 → mJd τ n b l1 → mvG σ n b x → kXM kT L xs (d + 4) 178 [.ref 232, .int (nI x), .int w, .int (nI p)] τ (fun r σ' => r = none ∧ rwF σ σ' ∧ mRq σ' (mvG σ n b) (rwA l1 x w (nI p)) ∧ mJd σ' n b (rwA l1 x w (nI p))) := by
    intro τ l1 x w _ _ f1 f2 f3 f4
    refine kX_post (mr_comes L xs (d + 3) τ (mvG σ n b) l1 x w (nI p) f2 (h1000 x f4.1) f4) ?_
    rintro r σ' ⟨rfl, g1, I, R, H, M, rfl⟩
    exact ⟨rfl, rwF_trans f1 rwF_mRu, g1, mJd_comes (mRq_len f2) f3⟩
  unfold kXM
  repeat refine kX_one rfl ?_
  refine kX_ialdV rfl rfl (by decide) (p) (by first | rfl | decide) (by omega) (hrow) ?_
  repeat refine kX_one rfl ?_
  refine kX_ialdN rfl rfl (by decide) (t) (by first | rfl | decide) (ht1) ?_
  rcases (hV t htv.1).2 with ⟨k, h3, hk, -, -⟩ | ⟨k, x, y, h3, hk, hx, hy, h4, h5, h6, h7⟩ | ⟨k, x, h3, hk, hx, hy, h4, h6⟩
  · have e : tkT σ l p t = l := by
      unfold tkT
      rw [hk]
      rw [if_neg (nI_ne (by omega)), if_neg (nI_ne (by omega)), if_neg (nI_ne (by omega)), if_neg (nI_ne (by omega))]
    rw [e]
    refine kX_top (hk) ?_
    obtain rfl | rfl | rfl | rfl : k = 0 ∨ k = 1 ∨ k = 2 ∨ k = 3 := by omega
    all_goals (repeat refine kX_one rfl ?_)
    all_goals exact kX_ret (i := .return_) (len := 1) rfl (Or.inr rfl) rfl ⟨rfl, rwF_refl σ, hq, hj⟩
  · have hg := htv.2
    rw [tgd_2 hV hk hx hy (by omega) (by omega) h4 h5 h6 h7, Bool.and_eq_true] at hg
    have hxv : mvG σ n b x := ⟨h6, hg.1⟩
    have hyv : mvG σ n b y := ⟨h7, hg.2⟩
    have hx1 := h1000 x h6
    have hy1 := h1000 y h7
    have ex : fN (σ 234 t) = x := by rw [hx]; exact fN_nI (by omega)
    have ey : fN (σ 235 t) = y := by rw [hy]; exact fN_nI (by omega)
    refine kX_top (hk) ?_
    rcases h3 with rfl | rfl | ⟨h3, hag⟩
    · have e : tkT σ l p t = rwA (rwA l x (nI 2) (nI p)) y (nI 3) (nI p) := by
        unfold tkT
        rw [if_pos hk, ex, ey]
      rw [e]
      repeat refine kX_one rfl ?_
      refine kX_ialdV rfl rfl (by decide) (t) (by first | rfl | decide) (ht1) (hx) ?_
      repeat refine kX_one rfl ?_
      refine kX_cal (hcome σ l x (nI 2) 0 [] (rwF_refl σ) hq hj hxv) rfl (Or.inr rfl) rfl rfl rfl (fun r1 σ1 q1 => ?_)
      obtain ⟨rfl, f1, f2, f3⟩ := q1
      have hy' : σ1 235 t = nI y := by
        obtain ⟨⟨_, _, _, _, _, _, rfl⟩, -⟩ := f1
        exact hy
      repeat refine kX_one rfl ?_
      refine kX_ialdV rfl rfl (by decide) (t) (by first | rfl | decide) (ht1) (hy') ?_
      repeat refine kX_one rfl ?_
      refine kX_cal (hcome σ1 _ y (nI 3) 0 [] f1 f2 f3 hyv) rfl (Or.inr rfl) rfl rfl rfl (fun r1 σ2 q1 => ?_)
      obtain ⟨rfl, q1⟩ := q1
      repeat refine kX_one rfl ?_
      refine kX_ret (i := .return_) (len := 1) rfl (Or.inr rfl) rfl (⟨rfl, q1⟩)
    · have e : tkT σ l p t = cit (mMk σ l y) (rwA l x (nI 4) (nI p)) l := by
        unfold tkT
        rw [if_neg (by rw [hk]; decide), if_pos hk, ex, ey]
      rw [e]
      repeat refine kX_one rfl ?_
      refine kX_ialdV rfl rfl (by decide) (t) (by first | rfl | decide) (ht1) (hx) ?_
      refine kX_baldV rfl rfl (by decide) (x) (by first | rfl | decide) (hx1) (hq.2.2.2.1 x hx1) ?_
      repeat refine kX_one rfl ?_
      refine kX_if (fun q => ?_) (fun q => ?_)
      · have q := isB_ne.mp (qne q)
        have e2 : cit (mMk σ l y) (rwA l x (nI 4) (nI p)) l = l := by
          by_cases hm : mMk σ l y
          · rw [cit_T hm]
            exact if_pos q
          · exact cit_F hm
        rw [e2]
        refine kX_ret (i := .return_) (len := 1) rfl (Or.inr rfl) rfl (⟨rfl, rwF_refl σ, hq, hj⟩)
      · repeat refine kX_one rfl ?_
        refine kX_ialdV rfl rfl (by decide) (t) (by first | rfl | decide) (ht1) (hy) ?_
        refine kX_cal (mr_canMake L xs d σ n b l y h hq hj h7) rfl (Or.inr rfl) rfl rfl rfl (fun r1 σ1 q1 => ?_)
        obtain ⟨rfl, M, rfl, f3⟩ := q1
        repeat refine kX_one rfl ?_
        refine kX_if (fun q2 => ?_) (fun q2 => ?_)
        · have q2 : ¬ mMk σ l y := fun z => isB_ne.mpr z (qeq q2)
          rw [cit_F q2]
          refine kX_ret (i := .return_) (len := 1) rfl (Or.inr rfl) rfl (⟨rfl, rwF_cmS, hq, f3⟩)
        · have q2 := isB_ne.mp (qeqF q2)
          rw [cit_T q2]
          repeat refine kX_one rfl ?_
          refine kX_ialdV rfl rfl (by decide) (t) (by first | rfl | decide) (ht1) (hx) ?_
          repeat refine kX_one rfl ?_
          refine kX_cal (hcome _ l x (nI 4) 0 [] rwF_cmS hq f3 hxv) rfl (Or.inr rfl) rfl rfl rfl (fun r1 σ2 q1 => ?_)
          obtain ⟨rfl, q1⟩ := q1
          repeat refine kX_one rfl ?_
          refine kX_ret (i := .return_) (len := 1) rfl (Or.inr rfl) rfl (⟨rfl, q1⟩)
    · have hy0 : σ 233 y = nI 0 := by
        rcases hag.2 with e | ⟨e, -⟩
        · exact e
        · rw [tgd_0 e (by decide)] at hg
          exact absurd rfl (of_decide_eq_true hg.2)
      rcases h3 with rfl | rfl
      · have e : tkT σ l p t = cit (mHp σ l y) (rwA l x (nI 5) (nI p)) l := by
          unfold tkT
          rw [if_neg (by rw [hk]; decide), if_neg (by rw [hk]; decide), if_pos hk, ex, ey]
        rw [e]
        repeat refine kX_one rfl ?_
        refine kX_ialdV rfl rfl (by decide) (t) (by first | rfl | decide) (ht1) (hy) ?_
        refine kX_cal (mr_hasPrivate L xs (d + 2) σ n b l y h hq hag.1 hy0) rfl (Or.inr rfl) rfl rfl rfl (fun r1 σ1 q1 => ?_)
        obtain ⟨rfl, rfl⟩ := q1
        repeat refine kX_one rfl ?_
        refine kX_if (fun q2 => ?_) (fun q2 => ?_)
        · have q2 : ¬ mHp σ l y := fun z => isB_ne.mpr z (qeq q2)
          rw [cit_F q2]
          refine kX_ret (i := .return_) (len := 1) rfl (Or.inr rfl) rfl (⟨rfl, rwF_refl σ, hq, hj⟩)
        · have q2 : mHp σ l y := isB_ne.mp (qeqF q2)
          rw [cit_T q2]
          repeat refine kX_one rfl ?_
          refine kX_ialdV rfl rfl (by decide) (t) (by first | rfl | decide) (ht1) (hx) ?_
          repeat refine kX_one rfl ?_
          refine kX_cal (hcome σ l x (nI 5) 0 [] (rwF_refl σ) hq hj hxv) rfl (Or.inr rfl) rfl rfl rfl (fun r1 σ2 q1 => ?_)
          obtain ⟨rfl, q1⟩ := q1
          repeat refine kX_one rfl ?_
          refine kX_ret (i := .return_) (len := 1) rfl (Or.inr rfl) rfl (⟨rfl, q1⟩)
      · have e : tkT σ l p t = rwA l x (nI 6) (nI p) := by
          unfold tkT
          rw [if_neg (by rw [hk]; decide), if_neg (by rw [hk]; decide), if_neg (by rw [hk]; decide), if_pos hk, ex]
        rw [e]
        repeat refine kX_one rfl ?_
        refine kX_ialdV rfl rfl (by decide) (t) (by first | rfl | decide) (ht1) (hx) ?_
        repeat refine kX_one rfl ?_
        refine kX_cal (hcome σ l x (nI 6) 0 [] (rwF_refl σ) hq hj hxv) rfl (Or.inr rfl) rfl rfl rfl (fun r1 σ2 q1 => ?_)
        obtain ⟨rfl, q1⟩ := q1
        repeat refine kX_one rfl ?_
        refine kX_ret (i := .return_) (len := 1) rfl (Or.inr rfl) rfl (⟨rfl, q1⟩)
  · have e : tkT σ l p t = l := by
      unfold tkT
      rw [hk]
      rw [if_neg (nI_ne (by omega)), if_neg (nI_ne (by omega)), if_neg (nI_ne (by omega)), if_neg (nI_ne (by omega))]
    rw [e]
    refine kX_top (hk) ?_
    rcases h3 with rfl | ⟨rfl, -⟩
    all_goals (repeat refine kX_one rfl ?_)
    all_goals exact kX_ret (i := .return_) (len := 1) rfl (Or.inr rfl) rfl ⟨rfl, rwF_refl σ, hq, hj⟩
