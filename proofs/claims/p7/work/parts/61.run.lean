/-! the reference: the row of the RUN -/
theorem tvs_sub2 {σ : kS} {n b t k x y : Nat} (h : mTb σ n b) (hk : σ 233 t = nI k) (hx : σ 234 t = nI x) (hy : σ 235 t = nI y) (h3 : 3 < k) (hk9 : k ≤ 9) (h4 : x < t) (h5 : y < t) (ht : t < n) : tvs (σ 233) (σ 234) (σ 235) t = tvs (σ 233) (σ 234) (σ 235) x ++ tvs (σ 233) (σ 234) (σ 235) y := tA_2 (mTb_num h) hk hx hy h3 hk9 h4 h5 (show x < n by omega) (show y < n by omega)
theorem mFr_tin {σ τ : kS} {n b s : Nat} (h : mTb σ n b) (hF : mFr σ τ n) : ∀ t, t < n → mSt σ n s t → tin τ s t = tin σ s t := by
  have hn := h.1
  have hF2 : ∀ u, u < n → τ 233 u = σ 233 u ∧ τ 234 u = σ 234 u ∧ τ 235 u = σ 235 u := fun u hu => hF.2.2 u (by omega)
  have hV := mTb_num h
  have hV' : ∀ t, t < n → t < 100000 ∧ tOk (fun u => u < n) (mAG σ n) (τ 233) (τ 234) (τ 235) t := fun t ht => by
    obtain ⟨e1, e2, e3⟩ := hF2 t ht
    exact ⟨(hV t ht).1, tOk_mono (fun _ _ q => q) (fun _ _ q => q) e1 e2 e3 (hV t ht).2⟩
  intro t
  induction t using Nat.strongRecOn with
  | _ t ih =>
    intro ht hst
    obtain ⟨e1, e2, e3⟩ := hF2 t ht
    rcases (hV t ht).2 with ⟨k, h3, hk, -, -⟩ | ⟨k, x, y, h3, hk, hx, hy, h4, h5, h6, h7⟩ | ⟨k, x, h3, hk, hx, hy, h4, h6⟩
    · unfold tin
      rw [tA_0 (e1.trans hk) h3, tA_0 hk h3, e1]
      by_cases hk3 : σ 233 t = nI 3
      · rw [if_pos hk3, if_pos hk3]
        have hu : t ∈ tvs (σ 233) (σ 234) (σ 235) t := by
          unfold tvs
          rw [tA_0 hk h3, if_pos hk3]
          exact List.mem_singleton.mpr rfl
        obtain ⟨p, z, hp, hz, a1, a2, a3, a4⟩ := hst t hu
        have ev : mVl τ s t = z := by
          unfold mVl
          rw [hF.1 241 (by decide), hF.1 265 (by decide), a1, fN_nI (by omega), a2, fN_nI (by omega)]
        have ev' : mVl σ s t = z := by
          unfold mVl
          rw [a1, fN_nI (by omega), a2, fN_nI (by omega)]
        rw [ev, ev']
        exact (mFr_all h hF hz).1
      · rw [if_neg hk3, if_neg hk3]
    · have evs : tvs (σ 233) (σ 234) (σ 235) t = tvs (σ 233) (σ 234) (σ 235) x ++ tvs (σ 233) (σ 234) (σ 235) y := tA_2 hV hk hx hy (by omega) (by omega) h4 h5 h6 h7
      have ix := ih x h4 h6 (fun u hu => hst u (by rw [evs]; exact List.mem_append_left _ hu))
      have iy := ih y h5 h7 (fun u hu => hst u (by rw [evs]; exact List.mem_append_right _ hu))
      unfold tin at ix iy ⊢
      rw [tA_2 hV' (e1.trans hk) (e2.trans hx) (e3.trans hy) (by omega) (by omega) h4 h5 h6 h7, tA_2 hV hk hx hy (by omega) (by omega) h4 h5 h6 h7, ix, iy]
    · have evs : tvs (σ 233) (σ 234) (σ 235) t = tvs (σ 233) (σ 234) (σ 235) x ++ [] := tA_1 hV hk hx hy (by omega) (by omega) h4 h6
      have ix := ih x h4 h6 (fun u hu => hst u (by rw [evs]; exact List.mem_append_left _ hu))
      unfold tin at ix ⊢
      rw [tA_1 hV' (e1.trans hk) (e2.trans hx) (e3.trans hy) (by omega) (by omega) h4 h6, tA_1 hV hk hx hy (by omega) (by omega) h4 h6, ix]
/-- a row l in the making, as the trees tr -/
def mBd (σ τ : kS) (n b : Nat) (l : rwT) (tr : trT) : Prop := mFr σ τ n ∧ mTb τ n b ∧ mRq τ (mvG τ n b) l ∧ mJd τ n b l ∧ rwM τ l = tr
theorem mBd_comes {σ τ ρ : kS} {n b b' u : Nat} {l : rwT} {tr : trT} {I R H M : Nat → Int32} {w p : Int32} (h : mBd σ τ n b l tr) (hE : mEx τ ρ n b b') (hu : mv n b' u) (hg : tgd (ρ 233) (ρ 234) (ρ 235) u = true) (hq : mRq (mRu ρ I R H M (upd (ρ 232) 46 (nI (rwA l u w p).length))) (mvG ρ n b') (rwA l u w p)) :
    mBd σ (mRu ρ I R H M (upd (ρ 232) 46 (nI (rwA l u w p).length))) n b' (rwA l u w p) (trA tr (tvl (ρ 233) (ρ 234) (ρ 235) u) w p) := by
  obtain ⟨h1, h2, h3, h4, h5⟩ := h
  obtain ⟨g1, g2⟩ := mRq_ex h2 hE h3
  have g3 := mJd_ex h2 hE h3.2.2.1 h4
  have hF : rwF ρ (mRu ρ I R H M (upd (ρ 232) 46 (nI (rwA l u w p).length))) := rwF_mRu
  refine ⟨mFr_trans h1 (mFr_trans (mFr_ex hE h2.2.1) (mFr_rwF hF)), rwF_Tb hF hE.1, hq, mJd_comes (mRq_len g1) g3, ?_⟩
  show rwM ρ (rwA l u w p) = _
  rw [rwM_A hE.1 g1.2.2.1 hu, g2, h5]
/-- what is known at first, as trees -/
noncomputable def trKn (σ : kS) (kl : List Nat) : trT := kl.foldl (fun l t => trA l (tvl (σ 233) (σ 234) (σ 235) t) (nI 0) (-6)) []
theorem rwM_Kn {σ : kS} {n b : Nat} (h : mTb σ n b) : ∀ kl : List Nat, (∀ t ∈ kl, t < n ∧ tgd (σ 233) (σ 234) (σ 235) t = true) → rwM σ (knR kl) = trKn σ kl ∧ ∀ t, rwI (knR kl) t → mvG σ n b t := by
  intro kl
  have key : ∀ (kl : List Nat) (l : rwT) (tr : trT), (∀ t ∈ kl, t < n ∧ tgd (σ 233) (σ 234) (σ 235) t = true) → rwM σ l = tr → (∀ t, rwI l t → mvG σ n b t) → rwM σ (kl.foldl (fun l t => rwA l t (nI 0) (-6)) l) = kl.foldl (fun l t => trA l (tvl (σ 233) (σ 234) (σ 235) t) (nI 0) (-6)) tr ∧ ∀ t, rwI (kl.foldl (fun l t => rwA l t (nI 0) (-6)) l) t → mvG σ n b t := by
    intro kl
    induction kl with
    | nil => exact fun l tr _ e hl => ⟨e, hl⟩
    | cons a kl ih =>
      intro l tr hk e hl
      have ha := hk a List.mem_cons_self
      refine ih _ _ (fun t ht => hk t (List.mem_cons_of_mem _ ht)) ?_ (fun t ht => ?_)
      · rw [rwM_A h hl (Or.inl ha.1), e]
      · rcases rwI_A ht with ht | rfl
        · exact hl t ht
        · exact ⟨Or.inl ha.1, ha.2⟩
  exact fun hk => key kl [] [] hk rfl (fun t ht => by obtain ⟨q, hq, -⟩ := ht; cases hq)
/-- the EVENT of the session s behind c of them -/
def mEv (σ : kS) (s c : Nat) : Nat := 6 * fN (σ 255 s) + c
/-- what was sent in the first k EVENTS of the RUN -/
noncomputable def trSn (σ : kS) (ds : List Nat) (tr : trT) : Nat → trT
  | 0 => tr
  | k + 1 => cit (σ 249 (mEv σ (ds.getD k 0) ((ds.take k).count (ds.getD k 0))) ≠ 0) (trA (trSn σ ds tr k) (tin σ (ds.getD k 0) (fN (σ 248 (mEv σ (ds.getD k 0) ((ds.take k).count (ds.getD k 0)))))) (nI 1) (-6)) (trSn σ ds tr k)
/-- the row of the RUN, as trees -/
noncomputable def trRun (σ : kS) (kl ds : List Nat) : trT := trE (mA σ) (σ 238) 1001 (trSn σ ds (trKn σ kl) ds.length)
theorem count_take_le (ds : List Nat) (s k : Nat) : (ds.take k).count s ≤ ds.count s := (List.take_sublist k ds).count_le s
theorem mRn_len {σ : kS} {n R S : Nat} {ds : List Nat} (hR : mRo σ n R) (hS4 : S ≤ 4) (h : mRn σ n R S ds) : ds.length ≤ 24 := by
  have hc : ∀ s, ds.count s ≤ 6 := fun s => by
    by_cases hs : s < S
    · obtain ⟨r, h1, -, -, h4, -⟩ := h.2.2.2 s hs
      obtain ⟨-, e, he, ee⟩ := hR.2.2.1 r h1
      rw [ee, fN_nI (by omega)] at h4
      omega
    · have : ds.count s = 0 := List.count_eq_zero.mpr (fun q => hs (h.2.2.1 s q))
      omega
  have key : ∀ (l : List Nat), (∀ s ∈ l, s < 4) → l.length = l.count 0 + l.count 1 + l.count 2 + l.count 3 := by
    intro l
    induction l with
    | nil => intro _; rfl
    | cons a l ih =>
      intro hl
      have h1 := ih (fun s hs => hl s (List.mem_cons_of_mem _ hs))
      have ha := hl a List.mem_cons_self
      rw [List.length_cons, h1, List.count_cons, List.count_cons, List.count_cons, List.count_cons]
      obtain rfl | rfl | rfl | rfl : a = 0 ∨ a = 1 ∨ a = 2 ∨ a = 3 := by omega
      all_goals simp
      all_goals omega
  rw [key ds (fun s hs => by have := h.2.2.1 s hs; omega)]
  have := hc 0
  have := hc 1
  have := hc 2
  have := hc 3
  omega
set_option maxRecDepth 100000 in
set_option maxHeartbeats 4000000 in
theorem mr_runRow (L : Nat) (xs : Nat → Int32) (d : Nat) (σ : kS) (n b R S : Nat) (kl ds : List Nat) (h : mTb σ n b) (hk : mKn σ n kl) (hR : mRo σ n R) (hS4 : S ≤ 4) (hS : mRn σ n R S ds) (hz : σ 232 47 = 0) : kXM kT L xs (d + 7) 190 [.ref 232] σ (fun r σ' => r = none ∧ σ' 232 47 = 1 ∧ ∃ b' l, b' ≤ 776 ∧ mBd σ σ' n b' l (trRun σ kl ds)) := by
  have hn := h.1
  have hlen := mRn_len hR hS4 hS
  unfold kXM
  iterate 2 (refine kX_one rfl ?_)
  refine kX_top (hz) ?_
  iterate 2 (refine kX_one rfl ?_)
  refine kX_cal (mr_beginRow L xs (d + 4) σ n b kl h hk) rfl (Or.inr rfl) rfl rfl rfl (fun r1 σ1 q1 => ?_)
  obtain ⟨rfl, ⟨hd, jd, f1, f0⟩, f2, f3⟩ := q1
  have hF1 : mFr σ σ1 n := mFr_trans (mFr_Rl σ n hd jd) (mFr_rwF f1)
  have hT1 : mTb σ1 n 200 := rwF_Tb f1 f0
  have hg1 : mvG σ1 n 200 = mvG σ n 200 := by
    rw [rwF_mvG f1]
    rfl
  have hB1 : mBd σ σ1 n 200 (knR kl) (trKn σ kl) := by
    refine ⟨hF1, hT1, by rw [hg1]; exact f2, f3, ?_⟩
    have e := (rwM_Kn f0 kl hk.2.2.2).1
    obtain ⟨⟨Mk, I, RR, H, M, o, rfl⟩, -⟩ := f1
    exact e
  iterate 2 (refine kX_one rfl ?_)
  /- the counters -/
  have loopA := kX_while (T := kT) (L := L) (xs := xs) (d := d + 7) (mi := 190) (pc := 14) (Q := fun r σ' => r = none ∧ σ' 232 47 = 1 ∧ ∃ b' l, b' ≤ 776 ∧ mBd σ σ' n b' l (trRun σ kl ds))
    (fun q : Nat × (Nat → Int32) => [(1, .int (nI q.1)), (0, .ref 232)]) (fun q => va_up σ1 276 q.2) (fun q => q.1 ≤ 4 ∧ ∀ u, u < q.1 → q.2 u = 0) (fun q => 4 - q.1) ?_ (0, σ1 276) ⟨Nat.zero_le _, fun u hu => absurd hu (Nat.not_lt_zero u)⟩
  · rw [kup_self] at loopA
    exact loopA
  · rintro ⟨i, f⟩ ⟨i1, i2⟩ ih
    dsimp only at i1 i2 ih ⊢
    repeat refine kX_one rfl ?_
    refine kX_if (fun q => ?_) (fun q => ?_)
    · have q := qge q i 4
      obtain rfl : i = 4 := by omega
      iterate 2 (refine kX_one rfl ?_)
      have hB2 : mBd σ (va_up σ1 276 f) n 200 (knR kl) (trKn σ kl) := ⟨mFr_trans hF1 (mFr_sent σ1 n f), hT1, hB1.2.2.1, hB1.2.2.2.1, hB1.2.2.2.2⟩
      have loopB := kX_while (T := kT) (L := L) (xs := xs) (d := d + 7) (mi := 190) (pc := 34) (Q := fun r σ' => r = none ∧ σ' 232 47 = 1 ∧ ∃ b' l, b' ≤ 776 ∧ mBd σ σ' n b' l (trRun σ kl ds))
        (fun q : Nat × Nat × rwT × kS => [(1, .int (nI q.1)), (0, .ref 232)]) (fun q => q.2.2.2) (fun q => q.1 ≤ ds.length ∧ q.2.1 ≤ 200 + 24 * q.1 ∧ mBd σ q.2.2.2 n q.2.1 q.2.2.1 (trSn σ ds (trKn σ kl) q.1) ∧ ∀ s, s < 4 → q.2.2.2 276 s = nI ((ds.take q.1).count s)) (fun q => ds.length - q.1) ?_ (0, 200, knR kl, va_up σ1 276 f) ⟨Nat.zero_le _, by simp only; omega, hB2, fun s hs => i2 s hs⟩
      · exact loopB
      · rintro ⟨k, b', l, τ⟩ ⟨j1, j2, j3, j4⟩ ih2
        dsimp only at j1 j2 j3 j4 ih2 ⊢
        have hRn := mFr_Rn h hR j3.1 hS
        have hRo := mFr_Ro h j3.1 hR
        iterate 3 (refine kX_one rfl ?_)
        refine kX_top (hRn.1) ?_
        repeat refine kX_one rfl ?_
        refine kX_if (fun q2 => ?_) (fun q2 => ?_)
        · have q2 := qge q2 k ds.length
          obtain rfl : k = ds.length := by omega
          repeat refine kX_one rfl ?_
          refine kX_cal (mr_endRow L xs d τ n b' l j3.2.1 j3.2.2.1 j3.2.2.2.1) rfl (Or.inr rfl) rfl rfl rfl (fun r1 σ2 q1 => ?_)
          obtain ⟨rfl, e1, e2, e3⟩ := q1
          repeat refine kX_one rfl ?_
          refine kX_ret (i := .return_) (len := 1) rfl (Or.inr rfl) rfl ⟨rfl, rfl, b', enR τ 1001 l, by omega, mFr_trans (mFr_trans j3.1 (mFr_rwF e1)) (mFr_rit σ2 n 1), ?_, ?_, e3, ?_⟩
          · have hTb : mTb σ2 n b' := rwF_Tb e1 j3.2.1
            exact hTb
          · have hg := rwF_mvG e1 n b'
            have e2' : mRq σ2 (mvG σ2 n b') (enR τ 1001 l) := by rw [hg]; exact e2
            exact e2'
          · show rwM σ2 (enR τ 1001 l) = _
            have hr : rwM σ2 (enR τ 1001 l) = rwM τ (enR τ 1001 l) := by
              obtain ⟨⟨Mk, I, RR, H, M, o, rfl⟩, -⟩ := e1
              rfl
            rw [hr, (rwM_E j3.2.1 1001 l j3.2.2.1.2.2.1).1, j3.2.2.2.2]
            unfold trRun
            have hA : mA τ = mA σ := funext fun t => propext ⟨fun q => ⟨q.1, (j3.1.2.2 t q.1).1.symm.trans q.2⟩, fun q => ⟨q.1, (j3.1.2.2 t q.1).1.trans q.2⟩⟩
            rw [hA, j3.1.1 238 (by decide)]
        · have q2 := qgeF q2 k ds.length
          obtain ⟨s, hsd⟩ : ∃ s, ds[k] = s := ⟨_, rfl⟩
          have hsS : s < S := by rw [← hsd]; exact hS.2.2.1 _ (List.getElem_mem q2)
          have hs4 : s < 4 := by omega
          have hgd : ds.getD k 0 = s := by rw [List.getD_eq_getElem?_getD, List.getElem?_eq_getElem q2]; exact hsd
          have hcnt : (ds.take (k + 1)).count s = (ds.take k).count s + 1 := by
            rw [List.take_succ_eq_append_getElem q2, List.count_append, hsd]
            simp
          have hlt : (ds.take k).count s < ds.count s := by
            have := count_take_le ds s (k + 1)
            omega
          obtain ⟨r, r1, r2, r3, r4, r5, r6⟩ := hS.2.2.2 s hsS
          obtain ⟨-, ev, he6, hev⟩ := hR.2.2.1 r r1
          have hcn : (ds.take k).count s < 6 := by
            rw [hev, fN_nI (by omega)] at r4
            omega
          have hR4 := hR.1
          obtain ⟨t, t1, t2, -, -⟩ := hR.2.2.2.2.2 r ((ds.take k).count s) r1 (by omega)
          have hst := r6.1 _ hlt
          rw [t2, fN_nI (by omega)] at hst
          have hmev : mEv σ s ((ds.take k).count s) = 6 * r + (ds.take k).count s := by
            unfold mEv
            rw [r2, fN_nI (by omega)]
          repeat refine kX_one rfl ?_
          refine kX_ialdV (v := nI s) rfl rfl (by decide) k rfl (by omega) (by rw [← hsd]; exact hRn.2.1 k q2) ?_
          repeat refine kX_one rfl ?_
          refine kX_ialdV (v := nI r) rfl rfl (by decide) s rfl (by omega) (by rw [j3.1.1 255 (by decide)]; exact r2) ?_
          repeat refine kX_one rfl ?_
          refine kX_ialdV (v := nI ((ds.take k).count s)) rfl rfl (by decide) s rfl (by omega) (j4 s hs4) ?_
          iterate 1 (refine kX_one rfl ?_)
          refine kX_top (ix6 r _) ?_
          repeat refine kX_one rfl ?_
          refine kX_baldV (v := σ 249 (6 * r + (ds.take k).count s)) rfl rfl (by decide) _ rfl (by omega) (by rw [j3.1.1 249 (by decide)]) ?_
          /- behind the EVENT -/
          have back : ∀ (τ2 : kS) (b2 : Nat) (l2 : rwT), b2 ≤ b' + 24 → mBd σ τ2 n b2 l2 (trSn σ ds (trKn σ kl) (k + 1)) → (∀ s, s < 4 → τ2 276 s = nI ((ds.take k).count s)) → kX kT L xs (d + 7) 190 93 [(2, .int (nI s)), (1, .int (nI k)), (0, .ref 232)] [] τ2 (fun r σ' => r = none ∧ σ' 232 47 = 1 ∧ ∃ b' l, b' ≤ 776 ∧ mBd σ σ' n b' l (trRun σ kl ds)) := by
            intro τ2 b2 l2 g1 g2 g3
            repeat refine kX_one rfl ?_
            refine kX_ialdV (v := nI ((ds.take k).count s)) rfl rfl (by decide) s rfl (by omega) (g3 s hs4) ?_
            iterate 2 (refine kX_one rfl ?_)
            refine kX_top (nI_1 _) ?_
            refine kX_iastN rfl rfl (by decide) (s) (by first | rfl | decide) (by omega) ?_
            iterate 2 (refine kX_one rfl ?_)
            have := ih2 (k + 1, b2, l2, va_up τ2 276 (upd (τ2 276) s (nI ((ds.take k).count s + 1)))) ⟨by simp only; omega, by simp only; omega, ⟨mFr_trans g2.1 (mFr_sent τ2 n _), g2.2⟩, fun s' hs' => by
              simp only
              show upd (τ2 276) s (nI ((ds.take k).count s + 1)) s' = _
              by_cases e : s' = s
              · subst e
                rw [pk_us, hcnt]
              · rw [pk_un e, g3 s' hs', List.take_succ_eq_append_getElem q2, List.count_append, hsd]
                have : [s].count s' = 0 := by simp [Ne.symm e]
                rw [this, Nat.add_zero]⟩ (by simp only; omega)
            rw [← nI_1] at this
            exact kX_lv _ rfl rfl rfl this
          repeat refine kX_one rfl ?_
          refine kX_if (fun q3 => ?_) (fun q3 => ?_)
          · have q3 : σ 249 (6 * r + (ds.take k).count s) = 0 := qeq q3
            refine kX_lv [(2, .int (nI s)), (1, .int (nI k)), (0, .ref 232)] rfl rfl rfl ?_
            refine back τ b' l (by omega) ?_ j4
            have e : trSn σ ds (trKn σ kl) (k + 1) = trSn σ ds (trKn σ kl) k := by
              rw [trSn, hgd, hmev]
              exact cit_F (fun z => z q3)
            rw [e]
            exact j3
          · have q3 : σ 249 (6 * r + (ds.take k).count s) ≠ 0 := qeqF q3
            have e : trSn σ ds (trKn σ kl) (k + 1) = trA (trSn σ ds (trKn σ kl) k) (tin σ s t) (nI 1) (-6) := by
              rw [trSn, hgd, hmev, cit_T q3, t2, fN_nI (by omega)]
            repeat refine kX_one rfl ?_
            refine kX_ialdV (v := nI t) rfl rfl (by decide) _ rfl (by omega) (by rw [j3.1.1 248 (by decide)]; exact t2) ?_
            refine kX_cal (mr_standsFor L xs (d + 1) τ n b' s t j3.2.1 (by omega) hs4 t1 (mFr_St h j3.1 t1 hst)) rfl (Or.inr rfl) rfl rfl rfl (fun r1 ρ q1 => ?_)
            obtain ⟨u, b2, rfl, g1, g2, g3, g4, g5⟩ := q1
            obtain ⟨m1, m2⟩ := mRq_ex j3.2.1 g1 j3.2.2.1
            repeat refine kX_one rfl ?_
            refine kX_cal (mr_comes L xs (d + 5) ρ (mvG ρ n b2) l u (nI 1) (-6) m1 (by have := g1.1.2.2.1; unfold mv at g3; omega) ⟨g3, g5⟩) rfl (Or.inr rfl) rfl rfl rfl (fun r1 σ2 q1 => ?_)
            obtain ⟨rfl, c1, I, RR, H, M, rfl⟩ := q1
            have hB3 := mBd_comes j3 g1 g3 g5 c1
            rw [g4, mFr_tin h j3.1 t t1 hst, ← e] at hB3
            refine kX_lv [(2, .int (nI s)), (1, .int (nI k)), (0, .ref 232)] rfl rfl rfl ?_
            refine back _ b2 _ g2 hB3 (fun s' hs' => ?_)
            show ρ 276 s' = _
            have : ρ 276 = τ 276 := by
              obtain ⟨-, -, -, K, F, SS, Z, G, nx, hd, N, II, rfl⟩ := g1
              rfl
            rw [this]
            exact j4 s' hs'
    · have q := qgeF q i 4
      repeat refine kX_one rfl ?_
      refine kX_iastN rfl rfl (by decide) (i) (by first | rfl | decide) (by omega) ?_
      iterate 2 (refine kX_one rfl ?_)
      rw [kup_up]
      have := ih (i + 1, upd f i 0) ⟨by simp only; omega, fun u hu => by
        simp only at hu ⊢
        by_cases e : u = i
        · subst e
          exact pk_us
        · rw [pk_un e]
          exact i2 u (by omega)⟩ (by simp only; omega)
      rw [← nI_1] at this
      exact this
