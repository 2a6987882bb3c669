/-! alike: the STATES of THE SEARCH, as both sides have them -/
def aD (a : Nat → Int32) : Nat → Int32 := fun s => a (7 * s)
def aV (a : Nat → Int32) : Nat → Int32 := fun j => nnI (a (7 * (j / 6) + 1 + j % 6))
theorem aV_at (a : Nat → Int32) {s k : Nat} (hk : k < 6) : aV a (6 * s + k) = nnI (a (7 * s + 1 + k)) := by
  show nnI (a (7 * ((6 * s + k) / 6) + 1 + (6 * s + k) % 6)) = _
  rw [show (6 * s + k) / 6 = s by omega, show (6 * s + k) % 6 = k by omega]
/-- a STATE -/
def aOk (σ : kS) (n R S : Nat) (a : Nat → Int32) : Prop := (∀ i, 7 * S ≤ i → a i = 0) ∧ cfg σ n R S (aD a) (aV a) ∧ ∀ s k, s < S → k < 6 → a (7 * s + 1 + k) = -1 ∨ ∃ z, z < n ∧ a (7 * s + 1 + k) = nI z
theorem stI_sf (σ : kS) (a : Nat → Int32) (n : Nat) : mSf σ (stI σ a) n := mSf_trans (mSf_up (c := 264) (by decide)) (mSf_up (c := 265) (by decide))
theorem aOk_Sv {σ : kS} {n b R S : Nat} {a : Nat → Int32} (h : mTb σ n b) (hR : mRo σ n R) (hS : mSe σ n R S) (ha : aOk σ n R S a) : mSv (stI σ a) n R S := cfg_Sv (σ := stI σ a) (b := b) h hR hS (cfg_sf h hR (stI_sf σ a n) ha.2.1)
theorem aOk_ho {σ : kS} {n b R S : Nat} {a : Nat → Int32} (h : mTb σ n b) (hR : mRo σ n R) (ha : aOk σ n R S a) : ∀ s, s < S → (mHo (stI σ a) s ↔ hoF (stI σ a) s) := by
  intro s hs
  have hR4 := hR.1
  obtain ⟨r, dn, r1, r2, r3, r4, r5⟩ := ha.2.1 s hs
  have hfr : fN (σ 255 s) = r := by rw [r2]; exact fN_nI (by omega)
  obtain ⟨⟨v, v6, v2⟩, -⟩ := hR.2.2.1 r r1
  have hfv : fN (σ 244 r) = v := by rw [v2]; exact fN_nI (by omega)
  have key : ∀ k, k < fN (σ 244 r) → σ 246 (6 * r + k) = 0 → aV a (6 * s + k) = σ 256 (6 * s + k) := fun k hk h0 => by
    have h2 : σ 246 (6 * r + k) ≠ nI 2 := by rw [h0]; decide
    exact ((r5 k (by omega)).1 ⟨hk, Or.inl h2⟩).2 h2
  show (∀ k, k < fN (σ 244 (fN (σ 255 s))) → σ 246 (6 * fN (σ 255 s) + k) = 0 → σ 238 (fN (aV a (6 * s + k))) ≠ 0) ↔ (∀ k, k < fN (σ 244 (fN (σ 255 s))) → σ 246 (6 * fN (σ 255 s) + k) = 0 → σ 238 (fN (σ 256 (6 * s + k))) ≠ 0)
  rw [hfr]
  exact forall_congr' (fun k => forall_congr' (fun hk => forall_congr' (fun h0 => by rw [key k hk h0])))
theorem aOk_gd {σ : kS} {n b R S s k z : Nat} {a : Nat → Int32} (h : mTb σ n b) (ha : aOk σ n R S a) (hs : s < S) (hk : k < 6) (hz : z < n) (e : a (7 * s + 1 + k) = nI z) : tgd (σ 233) (σ 234) (σ 235) z = true := by
  have hn := h.1
  obtain ⟨r, dn, r1, r2, r3, r4, r5⟩ := ha.2.1 s hs
  have ev : aV a (6 * s + k) = nI z := by rw [aV_at a hk, e, nnI_nI (by omega)]
  by_cases hb : bdv σ r dn k
  · obtain ⟨w, w1, w2, w3, -⟩ := ((r5 k hk).1 hb).1
    obtain rfl : w = z := nI_inj (w2.symm.trans ev)
    exact w3
  · have := (r5 k hk).2 hb
    rw [ev] at this
    exact absurd (show nI z < 0 by rw [this]; decide) (nI_pos (by omega))
theorem aUp_D (a : Nat → Int32) (s u : Nat) : aD (aUp a s) u = upd (aD a) s (a (7 * s) + 1) u := by
  unfold aD aUp
  by_cases e : u = s
  · subst e
    rw [pk_us, pk_us]
  · rw [pk_un (by omega), pk_un e]
theorem aUp_V (a : Nat → Int32) (s : Nat) {u k : Nat} (hk : k < 6) : aV (aUp a s) (6 * u + k) = aV a (6 * u + k) := by
  rw [aV_at _ hk, aV_at _ hk]
  unfold aUp
  rw [pk_un (by omega)]
/-- an EVENT that sends -/
theorem aOk_up {σ : kS} {n b R S s r dn : Nat} {a : Nat → Int32} (h : mTb σ n b) (hR : mRo σ n R) (ha : aOk σ n R S a) (hs : s < S) (r1 : r < R) (r2 : σ 255 s = nI r) (r3 : a (7 * s) = nI dn) (hdn : dn < fN (σ 247 r)) (hse : σ 249 (6 * r + dn) ≠ 0) : aOk σ n R S (aUp a s) ∧ stp S (aD a) (aV a) (aD (aUp a s)) (aV (aUp a s)) s := by
  obtain ⟨c1, c2⟩ := sd_cfg h hR ha.2.1 hs r1 r2 r3 hdn hse
  have e : ∀ u, u < S → aD (aUp a s) u = upd (aD a) s (nI (dn + 1)) u := fun u _ => by rw [aUp_D, r3, nI_1]
  refine ⟨⟨fun i hi => ?_, cfg_ext e (fun u k hu hk => aUp_V a s hk) c1, fun u k hu hk => ?_⟩, stp_ext (fun _ _ => rfl) (fun _ _ _ _ => rfl) e (fun u k hu hk => aUp_V a s hk) c2⟩
  · unfold aUp
    rw [pk_un (by omega)]
    exact ha.1 i hi
  · unfold aUp
    rw [pk_un (by omega)]
    exact ha.2.2 u k hu hk
theorem aSet_ne {s i : Nat} : ∀ (l : List (Nat × Nat)) (a : Nat → Int32), (∀ q ∈ l, i ≠ 7 * s + 1 + q.1) → aSet a s l i = a i
  | [], _, _ => rfl
  | q :: l, a, h => by
    show aSet (upd a (7 * s + 1 + q.1) (nI q.2)) s l i = a i
    rw [aSet_ne l _ (fun z hz => h z (List.mem_cons_of_mem _ hz)), pk_un (h q List.mem_cons_self)]
theorem aSet_at {s : Nat} : ∀ (l : List (Nat × Nat)) (a : Nat → Int32), l.Pairwise (fun x y => x.1 ≠ y.1) → ∀ q ∈ l, aSet a s l (7 * s + 1 + q.1) = nI q.2
  | [], _, _, q, hq => absurd hq List.not_mem_nil
  | z :: l, a, h, q, hq => by
    rw [List.pairwise_cons] at h
    show aSet (upd a (7 * s + 1 + z.1) (nI z.2)) s l (7 * s + 1 + q.1) = nI q.2
    rcases List.mem_cons.mp hq with rfl | hq
    · rw [aSet_ne l _ (fun w hw => by have := h.1 w hw; omega), pk_us]
    · exact aSet_at l _ h.2 q hq
theorem wyT_len (os : List (List Nat)) (w : Nat) : (wyT os w).length = os.length := by
  unfold wyT
  rw [List.length_map, List.length_zip, dg_len, List.length_map, Nat.min_self]
theorem wyT_at {os : List (List Nat)} {w j : Nat} (h : j < os.length) (h' : j < (wyT os w).length) (h2 : j < (dg (os.map List.length) w).length) : (wyT os w)[j]'h' = (os[j]'h).getD ((dg (os.map List.length) w)[j]'h2) 0 := by
  simp only [wyT, List.getElem_map, List.getElem_zip]
/-- the w-th way chooses what may stand -/
theorem wyT_in {os : List (List Nat)} {w j : Nat} (hw : w < wyN (os.map List.length)) (h : j < os.length) (h' : j < (wyT os w).length) : (wyT os w)[j]'h' ∈ os[j]'h := by
  have h2 : j < (os.map List.length).length := by rw [List.length_map]; exact h
  have := dg_lt (os.map List.length) w hw j h2
  rw [List.getElem_map] at this
  rw [wyT_at h h' (by rw [dg_len]; exact h2), List.getD_eq_getElem?_getD, List.getElem?_eq_getElem this]
  exact List.getElem_mem this
/-- what an EVENT that receives binds -/
theorem bls_ok {σ : kS} {n b R r e t : Nat} (h : mTb σ n b) (hR : mRo σ n R) (hr : r < R) (he : e < fN (σ 247 r)) (het : σ 248 (6 * r + e) = nI t) (ht : t < n) : (∀ u, u ∈ bls σ r e ↔ u ∈ tvs (σ 233) (σ 234) (σ 235) t ∧ nbv σ r e (fN (σ 241 u))) ∧ (bls σ r e).Pairwise (fun x y => x ≠ y) ∧ (∀ u ∈ bls σ r e, u < n ∧ (∃ k, k < 6 ∧ σ 241 u = nI k) ∧ ∃ so, so ≤ 3 ∧ σ 240 u = nI so) ∧ (∀ u ∈ bls σ r e, ∀ v ∈ bls σ r e, u ≠ v → σ 241 u ≠ σ 241 v) ∧ (bls σ r e).length ≤ 6 := by
  have hn := h.1
  have hft : fN (σ 248 (6 * r + e)) = t := by rw [het]; exact fN_nI (by omega)
  obtain ⟨t', t1, t2, t3, -⟩ := hR.2.2.2.2.2 r e hr he
  obtain rfl : t = t' := nI_inj (het.symm.trans t2)
  have hvar := fun u hu => mRo_var (u := u) h hR hr ht t3 hu
  have hm : ∀ u, u ∈ bls σ r e ↔ u ∈ tvs (σ 233) (σ 234) (σ 235) t ∧ nbv σ r e (fN (σ 241 u)) := fun u => by
    unfold bls
    rw [fl_mem, ddl_mem, hft]
    exact and_congr_left (fun _ => ⟨fun q => q.elim (fun q => absurd q List.not_mem_nil) id, Or.inr⟩)
  have hp : (bls σ r e).Pairwise (fun x y => x ≠ y) := fl_nd (ddl_nd _ [] List.Pairwise.nil)
  have h1 : ∀ u ∈ bls σ r e, u < n ∧ (∃ k, k < 6 ∧ σ 241 u = nI k) ∧ ∃ so, so ≤ 3 ∧ σ 240 u = nI so := fun u hu => by
    obtain ⟨k, so, u1, k6, kv, vv, kk, -, s1, s2⟩ := hvar u ((hm u).mp hu).1
    exact ⟨u1, ⟨k, k6, kk⟩, so, s1, s2⟩
  have h2 : ∀ u ∈ bls σ r e, ∀ v ∈ bls σ r e, u ≠ v → σ 241 u ≠ σ 241 v := fun u hu v hv huv ee => by
    obtain ⟨k, so, u1, k6, kv, vv, kk, -⟩ := hvar u ((hm u).mp hu).1
    obtain ⟨k', so', u1', k6', kv', vv', kk', -⟩ := hvar v ((hm v).mp hv).1
    obtain rfl : k = k' := nI_inj (by rw [← kk, ← kk', ee])
    exact huv (nI_inj (vv.symm.trans vv'))
  exact ⟨hm, hp, h1, h2, op_len hp (fun u hu => (h1 u hu).2.1) h2⟩
/-- nothing stands for it yet -/
theorem bls_neg {σ : kS} {n b R S s r dn t u : Nat} {a : Nat → Int32} (h : mTb σ n b) (hR : mRo σ n R) (ha : cfg σ n R S (aD a) (aV a)) (hs : s < S) (r1 : r < R) (r2 : σ 255 s = nI r) (r3 : a (7 * s) = nI dn) (hdn : dn < fN (σ 247 r)) (hse : σ 249 (6 * r + dn) = 0) (ht : t < n) (het : σ 248 (6 * r + dn) = nI t) (hu : u ∈ tvs (σ 233) (σ 234) (σ 235) t) : nbv σ r dn (fN (σ 241 u)) ↔ aV a (6 * s + fN (σ 241 u)) < 0 := by
  have hn := h.1
  have hR4 := hR.1
  obtain ⟨t', t1, t2, t3, -⟩ := hR.2.2.2.2.2 r dn r1 hdn
  obtain rfl : t = t' := nI_inj (het.symm.trans t2)
  obtain ⟨k, so, u1, k6, kv, vv, kk, -⟩ := mRo_var h hR r1 ht t3 hu
  rw [kk, fN_nI (by omega)]
  obtain ⟨r', dn', a1, a2, a3, a4, a5⟩ := ha s hs
  obtain rfl : r = r' := nI_inj (r2.symm.trans a2)
  have he6 : fN (σ 247 r) ≤ 6 := by
    obtain ⟨-, e, e1, e2⟩ := hR.2.2.1 r r1
    rw [e2, fN_nI (by omega)]
    exact e1
  obtain rfl : dn = dn' := nI_inj (r3.symm.trans a3)
  refine ⟨fun q => ?_, fun q => ⟨?_, fun hb => (mVz_ne h ((a5 k k6).1 hb).1).2 q⟩⟩
  · rw [(a5 k k6).2 q.2]
    decide
  · refine bdv_ev h hR r1 (Nat.lt_succ_self dn) hdn ?_ kk k6
    rw [het, fN_nI (by omega)]
    exact hu
noncomputable def owO (σ : kS) (n r e : Nat) : List (List Nat) := (bls σ r e).map (fun u => opL σ (fN (σ 240 u)) n)
noncomputable def owP (σ : kS) (r e : Nat) : List Nat := (bls σ r e).map (fun u => fN (σ 241 u))
/-- the STATE behind the way w of an EVENT that receives -/
noncomputable def aWy (σ : kS) (n r e s : Nat) (a : Nat → Int32) (w : Nat) : Nat → Int32 := aSet (aUp a s) s ((owP σ r e).zip (wyT (owO σ n r e) w))
theorem ow_len (σ : kS) (n r e w : Nat) : (owP σ r e).length = (bls σ r e).length ∧ (owO σ n r e).length = (bls σ r e).length ∧ (wyT (owO σ n r e) w).length = (bls σ r e).length := by
  refine ⟨by unfold owP; rw [List.length_map], by unfold owO; rw [List.length_map], ?_⟩
  rw [wyT_len]
  unfold owO
  rw [List.length_map]
theorem aWy_ne {σ : kS} {n r e s w i : Nat} {a : Nat → Int32} (h : ∀ u ∈ bls σ r e, i ≠ 7 * s + 1 + fN (σ 241 u)) : aWy σ n r e s a w i = aUp a s i := aSet_ne _ _ (fun q hq => by
  have := (List.of_mem_zip hq).1
  unfold owP at this
  obtain ⟨u, u1, u2⟩ := List.mem_map.mp this
  rw [← u2]
  exact h u u1)
theorem ow_pw {σ : kS} {n b R r e t : Nat} (h : mTb σ n b) (hR : mRo σ n R) (hr : r < R) (he : e < fN (σ 247 r)) (het : σ 248 (6 * r + e) = nI t) (ht : t < n) : (owP σ r e).Pairwise (fun x y => x ≠ y) := by
  obtain ⟨-, h2, h3, h4, -⟩ := bls_ok h hR hr he het ht
  unfold owP
  rw [List.pairwise_map]
  refine List.Pairwise.imp_of_mem (fun {x y} hx hy hxy ee => ?_) h2
  obtain ⟨-, ⟨k, k1, k2⟩, -⟩ := h3 x hx
  obtain ⟨-, ⟨k', k1', k2'⟩, -⟩ := h3 y hy
  rw [k2, k2', fN_nI (by omega), fN_nI (by omega)] at ee
  exact h4 x hx y hy hxy (by rw [k2, k2', ee])
theorem zip_pw {l : List Nat} : ∀ {l' : List Nat}, l.Pairwise (fun x y => x ≠ y) → (l.zip l').Pairwise (fun x y => x.1 ≠ y.1) := by
  induction l with
  | nil => intro l' _; rw [List.zip_nil_left]; exact List.Pairwise.nil
  | cons x l ih =>
    intro l' h
    rw [List.pairwise_cons] at h
    cases l' with
    | nil => rw [List.zip_nil_right]; exact List.Pairwise.nil
    | cons y l' =>
      rw [List.zip_cons_cons, List.pairwise_cons]
      exact ⟨fun q hq => h.1 q.1 (List.of_mem_zip hq).1, ih h.2⟩
theorem aWy_at {σ : kS} {n s w r e j : Nat} {a : Nat → Int32} (hp : (owP σ r e).Pairwise (fun x y => x ≠ y)) (hj : j < (bls σ r e).length) (hj' : j < (wyT (owO σ n r e) w).length) : aWy σ n r e s a w (7 * s + 1 + fN (σ 241 ((bls σ r e)[j]'hj))) = nI ((wyT (owO σ n r e) w)[j]'hj') := by
  have l1 := ow_len σ n r e w
  have hz : j < ((owP σ r e).zip (wyT (owO σ n r e) w)).length := by rw [List.length_zip]; omega
  have := aSet_at (s := s) _ (aUp a s) (zip_pw (l' := wyT (owO σ n r e) w) hp) _ (List.getElem_mem hz)
  rw [List.getElem_zip] at this
  have e1 : (owP σ r e)[j]'(by omega) = fN (σ 241 ((bls σ r e)[j]'hj)) := by
    simp only [owP, List.getElem_map]
  rw [e1] at this
  exact this
/-- an EVENT that receives -/
theorem aOk_way {σ : kS} {n b R S s r dn t w : Nat} {a : Nat → Int32} (h : mTb σ n b) (hR : mRo σ n R) (ha : aOk σ n R S a) (hs : s < S) (r1 : r < R) (r2 : σ 255 s = nI r) (r3 : a (7 * s) = nI dn) (hdn : dn < fN (σ 247 r)) (hse : σ 249 (6 * r + dn) = 0) (ht : t < n) (het : σ 248 (6 * r + dn) = nI t) (hw : w < wyN ((owO σ n r dn).map List.length)) :
    aOk σ n R S (aWy σ n r dn s a w) ∧ stp S (aD a) (aV a) (aD (aWy σ n r dn s a w)) (aV (aWy σ n r dn s a w)) s ∧ ∀ u ∈ tvs (σ 233) (σ 234) (σ 235) t, ∃ p z, p < 6 ∧ z < n ∧ σ 241 u = nI p ∧ aV (aWy σ n r dn s a w) (6 * s + p) = nI z ∧ tgd (σ 233) (σ 234) (σ 235) z = true ∧ (σ 240 u = nI 0 → σ 233 z = nI 0) := by
  have hn := h.1
  obtain ⟨b1, b2, b3, b4, b5⟩ := bls_ok h hR r1 hdn het ht
  have hp := ow_pw h hR r1 hdn het ht
  obtain ⟨l1, l2, l3⟩ := ow_len σ n r dn w
  have hc : ∀ p (hp : p < (bls σ r dn).length), (wyT (owO σ n r dn) w).getD p 0 = (wyT (owO σ n r dn) w)[p]'(by omega) := fun p hp => by
    rw [List.getD_eq_getElem?_getD, List.getElem?_eq_getElem (by omega)]
    rfl
  have hin : ∀ p (hp : p < (bls σ r dn).length), (wyT (owO σ n r dn) w).getD p 0 < n ∧ ofs σ (bls σ r dn)[p] ((wyT (owO σ n r dn) w).getD p 0) := fun p hp => by
    have h1 := wyT_in hw (j := p) (by omega) (by omega)
    rw [← hc p hp] at h1
    have e1 : (owO σ n r dn)[p]'(by omega) = opL σ (fN (σ 240 ((bls σ r dn)[p]'hp))) n := by
      simp only [owO, List.getElem_map]
    rw [e1, opL_mem] at h1
    obtain ⟨-, -, so, s1, s2⟩ := b3 _ (List.getElem_mem hp)
    refine ⟨h1.1, h1.2.1, ?_⟩
    have h2 := h1.2.2
    rw [s2, fN_nI (by omega)] at h2
    rw [s2]
    rcases h2 with q | q
    · exact Or.inl (by rw [q])
    · exact Or.inr q
  have hfk : ∀ u ∈ bls σ r dn, fN (σ 241 u) < 6 := fun u hu => by
    obtain ⟨-, ⟨k, k1, k2⟩, -⟩ := b3 u hu
    rw [k2, fN_nI (by omega)]
    exact k1
  have hV1 : ∀ p (hp : p < (bls σ r dn).length), aV (aWy σ n r dn s a w) (6 * s + fN (σ 241 (bls σ r dn)[p])) = nI ((wyT (owO σ n r dn) w).getD p 0) := fun p hp' => by
    have := (hin p hp').1
    rw [aV_at _ (hfk _ (List.getElem_mem hp')), aWy_at hp hp' (by omega), ← hc p hp', nnI_nI (by omega)]
  have hV2 : ∀ u k, u < S → k < 6 → (∀ p (h : p < (bls σ r dn).length), 6 * u + k ≠ 6 * s + fN (σ 241 (bls σ r dn)[p])) → aV (aWy σ n r dn s a w) (6 * u + k) = aV a (6 * u + k) := fun u k hu hk hne => by
    rw [aV_at _ hk, aWy_ne (fun v hv => ?_), ← aV_at _ hk, aUp_V a s hk]
    obtain ⟨p, hp', rfl⟩ := List.getElem_of_mem hv
    have := hne p hp'
    have := hfk _ hv
    omega
  obtain ⟨c1, c2, c3⟩ := rc_cfg (c := fun p => (wyT (owO σ n r dn) w).getD p 0) (D := aD a) (W := aV a) (V := aV (aWy σ n r dn s a w)) (op := bls σ r dn) h hR ha.2.1 hs r1 r2 r3 hdn hse ht het (fun u => by
    rw [b1 u]
    exact and_congr_right (fun hu => bls_neg h hR ha.2.1 hs r1 r2 r3 hdn hse ht het hu)) hin hV1 hV2
  have hD : ∀ u, u < S → aD (aWy σ n r dn s a w) u = upd (aD a) s (nI (dn + 1)) u := fun u hu => by
    have e : aWy σ n r dn s a w (7 * u) = aUp a s (7 * u) := aWy_ne (fun v hv => by have := hfk v hv; omega)
    show aWy σ n r dn s a w (7 * u) = _
    rw [e]
    have := aUp_D a s u
    rw [r3, nI_1] at this
    exact this
  refine ⟨⟨fun i hi => ?_, cfg_ext hD (fun _ _ _ _ => rfl) c1, fun u k hu hk => ?_⟩, stp_ext (fun _ _ => rfl) (fun _ _ _ _ => rfl) hD (fun _ _ _ _ => rfl) c2, c3⟩
  · rw [aWy_ne (fun v hv => by have := hfk v hv; omega)]
    unfold aUp
    rw [pk_un (by omega)]
    exact ha.1 i hi
  · by_cases e : ∀ v ∈ bls σ r dn, 7 * u + 1 + k ≠ 7 * s + 1 + fN (σ 241 v)
    · rw [aWy_ne e]
      unfold aUp
      rw [pk_un (by omega)]
      exact ha.2.2 u k hu hk
    · obtain ⟨v, hv, e⟩ : ∃ v ∈ bls σ r dn, 7 * u + 1 + k = 7 * s + 1 + fN (σ 241 v) := Classical.byContradiction (fun q => e (fun v hv e => q ⟨v, hv, e⟩))
      obtain ⟨p, hp', rfl⟩ := List.getElem_of_mem hv
      rw [e, aWy_at hp hp' (by omega), ← hc p hp']
      exact Or.inr ⟨_, (hin p hp').1, rfl⟩
