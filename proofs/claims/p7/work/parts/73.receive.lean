/-! the reference: receive -/
theorem tin_val {σ : kS} {V : Nat → Int32} {n b s s0 k0 dn : Nat} {bd : Int32} (h : mTb σ n b) : ∀ t, t < n → (∀ u ∈ tvs (σ 233) (σ 234) (σ 235) t, V (6 * s + fN (σ 241 u)) = σ 265 (6 * s + fN (σ 241 u))) → tin (stS σ V s0 k0 dn bd) s t = tin σ s t := by
  have hV := mTb_num h
  intro t
  induction t using Nat.strongRecOn with
  | _ t ih =>
    intro ht hv
    rcases (hV t ht).2 with ⟨k, h3, hk, -, -⟩ | ⟨k, x, y, h3, hk, hx, hy, h4, h5, h6, h7⟩ | ⟨k, x, h3, hk, hx, hy, h4, h6⟩
    · have e1 : tin (stS σ V s0 k0 dn bd) s t = if σ 233 t = nI 3 then tvl (σ 233) (σ 234) (σ 235) (fN (V (6 * s + fN (σ 241 t)))) else .arg t := tA_0 (K := σ 233) hk h3
      have e2 : tin σ s t = if σ 233 t = nI 3 then tvl (σ 233) (σ 234) (σ 235) (fN (σ 265 (6 * s + fN (σ 241 t)))) else .arg t := tA_0 (K := σ 233) hk h3
      rw [e1, e2]
      by_cases hk3 : σ 233 t = nI 3
      · have hu : t ∈ tvs (σ 233) (σ 234) (σ 235) t := by
          unfold tvs
          rw [tA_0 hk h3, if_pos hk3]
          exact List.mem_singleton.mpr rfl
        rw [hv t hu]
      · rw [if_neg hk3, if_neg hk3]
    · have evs : tvs (σ 233) (σ 234) (σ 235) t = tvs (σ 233) (σ 234) (σ 235) x ++ tvs (σ 233) (σ 234) (σ 235) y := tA_2 hV hk hx hy (by omega) (by omega) h4 h5 h6 h7
      have e1 : tin (stS σ V s0 k0 dn bd) s t = vnd k (tin (stS σ V s0 k0 dn bd) s x) (some (tin (stS σ V s0 k0 dn bd) s y)) := tA_2 (K := σ 233) (F := σ 234) (S := σ 235) hV hk hx hy (by omega) (by omega) h4 h5 h6 h7
      have e2 : tin σ s t = vnd k (tin σ s x) (some (tin σ s y)) := tA_2 (K := σ 233) (F := σ 234) (S := σ 235) hV hk hx hy (by omega) (by omega) h4 h5 h6 h7
      rw [e1, e2, ih x h4 h6 (fun u hu => hv u (by rw [evs]; exact List.mem_append_left _ hu)), ih y h5 h7 (fun u hu => hv u (by rw [evs]; exact List.mem_append_right _ hu))]
    · have evs : tvs (σ 233) (σ 234) (σ 235) t = tvs (σ 233) (σ 234) (σ 235) x ++ [] := tA_1 hV hk hx hy (by omega) (by omega) h4 h6
      have e1 : tin (stS σ V s0 k0 dn bd) s t = vnd k (tin (stS σ V s0 k0 dn bd) s x) none := tA_1 (K := σ 233) (F := σ 234) (S := σ 235) hV hk hx hy (by omega) (by omega) h4 h6
      have e2 : tin σ s t = vnd k (tin σ s x) none := tA_1 (K := σ 233) (F := σ 234) (S := σ 235) hV hk hx hy (by omega) (by omega) h4 h6
      rw [e1, e2, ih x h4 h6 (fun u hu => hv u (by rw [evs]; exact List.mem_append_left _ hu))]
/-- an EVENT that receives leaves the row as it is -/
theorem trRun_recv {σ : kS} {V : Nat → Int32} {n b R S s r : Nat} {kl ds : List Nat} {bd : Int32} (h : mTb σ n b) (hR : mRo σ n R) (hS : mRn σ n R S ds) (hs : s < S) (r1 : r < R) (r2 : σ 255 s = nI r) (hq : σ 249 (6 * r + ds.count s) = 0) (hVo : ∀ j, (∀ k, k < 6 → j ≠ 6 * s + k) → V j = σ 265 j) (hVk : ∀ k, k < 6 → ¬ σ 265 (6 * s + k) < 0 → V (6 * s + k) = σ 265 (6 * s + k)) :
    trRun (stS σ V s ds.length (ds.count s) bd) kl (ds ++ [s]) = trRun σ kl ds := by
  have hn := h.1
  have hR4 := hR.1
  have key : ∀ k, k ≤ ds.length → trSn (stS σ V s ds.length (ds.count s) bd) (ds ++ [s]) (trKn σ kl) k = trSn σ ds (trKn σ kl) k := by
    intro k
    induction k with
    | zero => intro _; rfl
    | succ k ih =>
      intro hk
      have hkl : k < ds.length := hk
      have hg1 : (ds ++ [s]).getD k 0 = ds[k] := by rw [List.getD_eq_getElem?_getD, List.getElem?_append_left hkl, List.getElem?_eq_getElem hkl]; rfl
      have hg2 : ds.getD k 0 = ds[k] := by rw [List.getD_eq_getElem?_getD, List.getElem?_eq_getElem hkl]; rfl
      obtain ⟨r', q1, q2, q3, q4, q5, q6, -⟩ := hS.2.2.2 _ (hS.2.2.1 _ (List.getElem_mem hkl))
      have hcnt : (ds.take k).count ds[k] < ds.count ds[k] := by
        have := count_take_le ds ds[k] (k + 1)
        rw [List.take_succ_eq_append_getElem hkl, List.count_append] at this
        simp at this
        omega
      obtain ⟨t, t1, t2, -⟩ := hR.2.2.2.2.2 r' ((ds.take k).count ds[k]) q1 (by omega)
      have hst := q6 _ hcnt
      have hmev : mEv σ ds[k] ((ds.take k).count ds[k]) = 6 * r' + (ds.take k).count ds[k] := by
        unfold mEv
        rw [q2, fN_nI (by omega)]
      have hmev' : mEv (stS σ V s ds.length (ds.count s) bd) ds[k] ((ds.take k).count ds[k]) = 6 * r' + (ds.take k).count ds[k] := hmev
      rw [trSn, trSn, hg1, hg2, ih (by omega), List.take_append_of_le_length (by omega), hmev, hmev']
      show cit (σ 249 (6 * r' + (ds.take k).count ds[k]) ≠ 0) (trA _ (tin (stS σ V s ds.length (ds.count s) bd) ds[k] (fN (σ 248 (6 * r' + (ds.take k).count ds[k])))) _ _) _ = _
      rw [t2, fN_nI (by omega)] at hst ⊢
      rw [tin_val h t t1 (fun u hu => ?_)]
      obtain ⟨p, z, p1, p2, p3, p4, -⟩ := hst u hu
      rw [p3, fN_nI (by omega)]
      by_cases e : ds[k] = s
      · rw [e] at p4 ⊢
        exact hVk p p1 (by rw [p4]; exact nI_pos (by omega))
      · exact hVo _ (fun k' hk' => by omega)
  unfold trRun
  have e1 : trSn (stS σ V s ds.length (ds.count s) bd) (ds ++ [s]) (trKn σ kl) (ds ++ [s]).length = trSn σ ds (trKn σ kl) ds.length := by
    rw [List.length_append]
    show trSn (stS σ V s ds.length (ds.count s) bd) (ds ++ [s]) (trKn σ kl) (ds.length + 1) = _
    rw [trSn, key ds.length (Nat.le_refl _)]
    have hg : (ds ++ [s]).getD ds.length 0 = s := by rw [List.getD_eq_getElem?_getD]; simp
    have ht : (ds ++ [s]).take ds.length = ds := by simp
    rw [hg, ht]
    refine cit_F (fun z => z ?_)
    show σ 249 (mEv σ s (ds.count s)) = 0
    unfold mEv
    rw [r2, fN_nI (by omega)]
    exact hq
  exact congrArg (trE (mA σ) (σ 238) 1001) e1
theorem mtF_ok {σ : kS} {n b R r : Nat} (h : mTb σ n b) (hR : mRo σ n R) (hr : r < R) : ∀ (f p t : Nat) (a a' : Nat → Int32), p < n → t < n → tgd (σ 233) (σ 234) (σ 235) t = true → (∀ u ∈ tvs (σ 233) (σ 234) (σ 235) p, σ 239 u = nI r) → (∀ k, k < 6 → ¬ a k < 0 → mVz σ n r k (a k)) → mtF σ f p t a = some a' →
    (∀ k, ¬ a k < 0 → a' k = a k) ∧ (∀ k, k < 6 → ¬ a' k < 0 → mVz σ n r k (a' k)) ∧ (∀ u ∈ tvs (σ 233) (σ 234) (σ 235) p, ∀ k, σ 241 u = nI k → k < 6 → ¬ a' k < 0) ∧ ∀ k, k < 6 → (∀ u ∈ tvs (σ 233) (σ 234) (σ 235) p, σ 241 u ≠ nI k) → a' k = a k := by
  have hn := h.1
  have hV := mTb_num h
  intro f
  induction f with
  | zero => intro p t a a' _ _ _ _ _ hm; cases hm
  | succ f ih =>
    intro p t a a' hp ht hg hof ha hm
    rw [mtF] at hm
    by_cases q2 : tgd (σ 233) (σ 234) (σ 235) p = true
    · rw [if_pos q2] at hm
      split at hm
      · cases hm
        have e := (tgd_tvs hV p hp).mp q2
        refine ⟨fun _ _ => rfl, ha, fun u hu => ?_, fun _ _ _ => rfl⟩
        rw [e] at hu
        cases hu
      · cases hm
    · rw [if_neg q2] at hm
      by_cases q3 : σ 233 p = nI 3
      · rw [if_pos q3] at hm
        have hvs : tvs (σ 233) (σ 234) (σ 235) p = [p] := by
          unfold tvs
          rw [tA_0 q3 (by decide), if_pos q3]
        obtain ⟨k, so, u1, k6, kv, vv, kk, -, so3, hso⟩ := mRo_var h hR hr hp hof (by rw [hvs]; exact List.mem_singleton.mpr rfl : p ∈ _)
        rw [kk, fN_nI (by omega)] at hm
        split at hm
        · next q4 =>
          split at hm
          · cases hm
            refine ⟨fun _ _ => rfl, ha, fun u hu k' hk' hk6 => ?_, fun _ _ _ => rfl⟩
            rw [hvs, List.mem_singleton] at hu
            subst hu
            obtain rfl : k = k' := nI_inj (kk.symm.trans hk')
            exact q4
          · cases hm
        · next q4 =>
          have q4 : a k < 0 := Classical.not_not.mp q4
          split at hm
          · cases hm
          · next q5 =>
            cases hm
            refine ⟨fun k' hk' => ?_, fun k' hk' hne => ?_, fun u hu k' hk' hk6 => ?_, fun k' hk' hno => ?_⟩
            · refine pk_un (fun e => ?_)
              rw [e] at hk'
              exact hk' q4
            · by_cases e : k' = k
              · subst e
                rw [pk_us]
                refine ⟨t, ht, rfl, hg, ?_⟩
                rw [vv, fN_nI (by omega)]
                by_cases e3 : σ 240 p = nI 3
                · exact Or.inl e3
                · exact Or.inr (Classical.byContradiction (fun hh => q5 ⟨e3, fun e => hh e.symm⟩))
              · rw [pk_un e] at hne ⊢
                exact ha k' hk' hne
            · rw [hvs, List.mem_singleton] at hu
              subst hu
              obtain rfl : k = k' := nI_inj (kk.symm.trans hk')
              rw [pk_us]
              exact nI_pos (by omega)
            · refine pk_un (fun e => hno p (by rw [hvs]; exact List.mem_singleton.mpr rfl) ?_)
              rw [e]
              exact kk
      · rw [if_neg q3] at hm
        split at hm
        · cases hm
        · next q4 =>
          have q4 : σ 233 p = σ 233 t := Classical.not_not.mp q4
          rcases (hV p hp).2 with ⟨k, h3, hk, -, -⟩ | ⟨k, x, y, h3, hk, hx, hy, h4, h5, h6, h7⟩ | ⟨k, x, h3, hk, hx, hy, h4, h6⟩
          · exfalso
            rw [tgd_0 hk h3] at q2
            exact q3 (by rw [hk, Decidable.of_not_not (fun e => q2 (decide_eq_true e))])
          · obtain ⟨zx, zy, hzx, hzy, hz6, hz7, hgz⟩ : ∃ zx zy, σ 234 t = nI zx ∧ σ 235 t = nI zy ∧ zx < n ∧ zy < n ∧ (tgd (σ 233) (σ 234) (σ 235) zx = true ∧ tgd (σ 233) (σ 234) (σ 235) zy = true) := by
              rcases (hV t ht).2 with ⟨k', h3', hk', -, -⟩ | ⟨k', x', y', h3', hk', hx', hy', h4', h5', h6', h7'⟩ | ⟨k', x', h3', hk', hx', hy', h4', h6'⟩
              · have := nI_inj (hk.symm.trans (q4.trans hk'))
                omega
              · refine ⟨x', y', hx', hy', h6', h7', ?_⟩
                rw [tgd_2 hV hk' hx' hy' (by omega) (by omega) h4' h5' h6' h7', Bool.and_eq_true] at hg
                exact hg
              · have := nI_inj (hk.symm.trans (q4.trans hk'))
                omega
            have evs : tvs (σ 233) (σ 234) (σ 235) p = tvs (σ 233) (σ 234) (σ 235) x ++ tvs (σ 233) (σ 234) (σ 235) y := tA_2 hV hk hx hy (by omega) (by omega) h4 h5 h6 h7
            have hy1 : nI y ≠ -1 := nI_m1 (by omega)
            simp only [hx, hy, hzx, hzy, if_neg hy1, fN_nI (show x < 2147483648 by omega), fN_nI (show y < 2147483648 by omega), fN_nI (show zx < 2147483648 by omega), fN_nI (show zy < 2147483648 by omega)] at hm
            obtain ⟨a1, m1, m2⟩ := Option.bind_eq_some_iff.mp hm
            obtain ⟨x1, x2, x3, x4⟩ := ih x zx a a1 h6 hz6 hgz.1 (fun u hu => hof u (by rw [evs]; exact List.mem_append_left _ hu)) ha m1
            obtain ⟨y1, y2, y3, y4⟩ := ih y zy a1 a' h7 hz7 hgz.2 (fun u hu => hof u (by rw [evs]; exact List.mem_append_right _ hu)) x2 m2
            rw [evs]
            refine ⟨fun k hk => ?_, y2, fun u hu k hk hk6 => ?_, fun k hk hno => ?_⟩
            · have e1 := x1 k hk
              rw [y1 k (by rw [e1]; exact hk), e1]
            · rcases List.mem_append.mp hu with hu | hu
              · have := x3 u hu k hk hk6
                rw [y1 k this]
                exact this
              · exact y3 u hu k hk hk6
            · rw [y4 k hk (fun u hu => hno u (List.mem_append_right _ hu)), x4 k hk (fun u hu => hno u (List.mem_append_left _ hu))]
          · obtain ⟨zx, hzx, hz6, hgz⟩ : ∃ zx, σ 234 t = nI zx ∧ zx < n ∧ tgd (σ 233) (σ 234) (σ 235) zx = true := by
              rcases (hV t ht).2 with ⟨k', h3', hk', -, -⟩ | ⟨k', x', y', h3', hk', hx', hy', h4', h5', h6', h7'⟩ | ⟨k', x', h3', hk', hx', hy', h4', h6'⟩
              · have := nI_inj (hk.symm.trans (q4.trans hk'))
                omega
              · have := nI_inj (hk.symm.trans (q4.trans hk'))
                omega
              · refine ⟨x', hx', h6', ?_⟩
                rw [tgd_1 hV hk' hx' hy' (by omega) (by omega) h4' h6'] at hg
                exact hg
            have evs : tvs (σ 233) (σ 234) (σ 235) p = tvs (σ 233) (σ 234) (σ 235) x ++ [] := tA_1 hV hk hx hy (by omega) (by omega) h4 h6
            rw [List.append_nil] at evs
            simp only [hx, hy, hzx, fN_nI (show x < 2147483648 by omega), fN_nI (show zx < 2147483648 by omega), if_true] at hm
            obtain ⟨a1, m1, m2⟩ := Option.bind_eq_some_iff.mp hm
            cases m2
            rw [evs]
            exact ih x zx a a' h6 hz6 hgz (fun u hu => hof u (by rw [evs]; exact hu)) ha m1
