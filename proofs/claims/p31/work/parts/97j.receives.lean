section
/-! the reference: receives, its parts -/
theorem cnt_mem2 {m : Nat} : ∀ (l : List Nat), l.Pairwise (fun x y => x ≠ y) → (∀ x ∈ l, x < m) → cnt (fun x => x ∈ l) m = l.length
  | [], _, _ => by
    have := cnt_rng (f := fun x : Nat => x ∈ ([] : List Nat)) (lo := 0) (hi := 0) (fun t ht => (by cases ht)) m
    simp at this ⊢
    omega
  | a :: l, h, hb => by
    rw [List.pairwise_cons] at h
    have := cnt_mem2 l h.2 (fun x hx => hb x (List.mem_cons_of_mem _ hx))
    rw [cnt_add (f := fun x => x ∈ l) (t := a) (fun q => h.1 a q rfl) (fun u => by rw [List.mem_cons]; exact or_comm) m (hb a List.mem_cons_self), this]
    rfl
theorem nodup_le {m : Nat} {l : List Nat} (h : l.Pairwise (fun x y => x ≠ y)) (hb : ∀ x ∈ l, x < m) : l.length ≤ m := by
  rw [← cnt_mem2 l h hb]
  exact cnt_le _ _
theorem rel_row {τ : kS} {n b b' : Nat} {l : rwT} {hd : Nat → Int32} (hq : mRq τ (mvG τ n b') l) (hj : mJd τ n b' l) (h1 : 200 ≤ b) (h2 : b ≤ b') (h3 : b' ≤ 1000) (hl : ∀ t, rwI l t → mv n b t) : mRq (mRel τ b hd) (mvG (mRel τ b hd) n b) l ∧ mJd (mRel τ b hd) n b l := by
  obtain ⟨q1, q2, q3, q4, q5⟩ := hq
  refine ⟨⟨q1, q2, fun t ht => ⟨hl t ht, (q3 t ht).2⟩, q4, q5⟩, hj.1, fun e => ?_⟩
  obtain ⟨j, j1, j2, j3, j4⟩ := hj.2 e
  have hmv : ∀ t, mv n b t → mv n b' t := fun t ht => by unfold mv at ht ⊢; omega
  have hlt : ∀ a c, a < 100000 → c < 100000 → (nI a < nI c ↔ a < c) := fun a c ha hc => by
    rw [Int32.lt_iff_toInt_lt, nI_toInt (by omega), nI_toInt (by omega)]
    omega
  by_cases e2 : j < b
  · refine ⟨j, ?_, j2, by omega, fun t ht htj => j4 t (hmv t ht) htj⟩
    show (if τ 232 49 < nI b then τ 232 49 else nI b) = nI j
    rw [j1, if_pos ((hlt j b (by omega) (by omega)).mpr e2)]
  · refine ⟨b, ?_, h1, Nat.le_refl _, fun t ht htj => j4 t (hmv t ht) (by omega)⟩
    show (if τ 232 49 < nI b then τ 232 49 else nI b) = nI b
    rw [j1, if_neg (fun q => e2 ((hlt j b (by omega) (by omega)).mp q))]
theorem mFr_rel (σ : kS) (n f : Nat) (hd : Nat → Int32) : mFr σ (mRel σ f hd) n := by
  refine ⟨fun c hc => ?_, fun j hj => ?_, fun u hu => ⟨rfl, rfl, rfl⟩⟩
  · simp only [rowC, List.mem_cons, List.not_mem_nil, or_false, not_or] at hc
    simp [mRel, va_up, hc]
  · simp only [rowJ, List.mem_cons, List.not_mem_nil, or_false, not_or] at hj
    show upd (upd (σ 232) 10 _) 49 _ j = _
    rw [pk_un hj.2.1, pk_un hj.1]
/-- the VARIABLES that stand for nothing come to stand for what was chosen -/
def opN (σ : kS) (op : List Nat) : Prop := (∀ p (h : p < op.length), op[p] < 200 ∧ ∃ k, k < 6 ∧ σ 241 op[p] = nI k) ∧ ∀ p q (h : p < op.length) (h' : q < op.length), p ≠ q → σ 241 op[p] ≠ σ 241 op[q]
/-- values V: those of W, but for what was chosen -/
def opV (σ : kS) (op : List Nat) (s : Nat) (c : Nat → Nat) (W V : Nat → Int32) (m : Nat) : Prop := (∀ p (h : p < op.length), p < m → V (6 * s + fN (σ 241 op[p])) = nI (c p)) ∧ ∀ j, (∀ p (h : p < op.length), j ≠ 6 * s + fN (σ 241 op[p])) → V j = W j
set_option maxRecDepth 100000 in
set_option maxHeartbeats 4000000 in
theorem mr_rc_set (L : Nat) (xs : Nat → Int32) (d : Nat) (σ : kS) (s : Nat) (op : List Nat) (c : Nat → Nat) (hs : s < 4) (h6 : op.length ≤ 6) (hN : opN σ op) (ho : lst (σ 292) op) (hc : ∀ p, p < op.length → σ 293 p = nI (c p)) (x t g : Int32) (my : Int64) (Q : Option Value → kS → Prop)
    (he : ∀ V, opV σ op s c (σ 265) V op.length → kX kT L xs (d + 1) 217 242 [(0, .ref 232), (1, .int x), (2, .int (nI s)), (3, .int t), (4, .int (nI op.length)), (5, .long my), (7, .int g)] [] (va_up σ 265 V) Q) :
    ∀ q : Nat × (Nat → Int32), (q.1 ≤ op.length ∧ opV σ op s c (σ 265) q.2 q.1) → kX kT L xs (d + 1) 217 200 [(8, .int (nI q.1)), (0, .ref 232), (1, .int x), (2, .int (nI s)), (3, .int t), (4, .int (nI op.length)), (5, .long my), (7, .int g)] [] (va_up σ 265 q.2) Q := by
  refine kX_while (fun q : Nat × (Nat → Int32) => [(8, .int (nI q.1)), (0, .ref 232), (1, .int x), (2, .int (nI s)), (3, .int t), (4, .int (nI op.length)), (5, .long my), (7, .int g)]) (fun q => va_up σ 265 q.2) _ (fun q => op.length - q.1) ?_
  rintro ⟨k, V⟩ ⟨i1, i2, i3⟩ ih
  dsimp only at i1 i2 i3 ih ⊢
  iterate 2 (refine kX_one rfl ?_)
  repeat refine kX_one rfl ?_
  refine kX_if (fun q => ?_) (fun q => ?_)
  · have q := qge q k op.length
    obtain rfl : k = op.length := by omega
    exact kX_lv _ rfl rfl rfl (he V ⟨i2, i3⟩)
  · have q := qgeF q k op.length
    obtain ⟨u1, z, z1, z2⟩ := hN.1 k q
    have hfz : fN (σ 241 op[k]) = z := by rw [z2]; exact fN_nI (by omega)
    iterate 10 (refine kX_one rfl ?_)
    refine kX_ialdV rfl rfl (by decide) (k) (by first | rfl | decide) (by omega) (ho k q) ?_
    refine kX_ialdV rfl rfl (by decide) (op[k]) (by first | rfl | decide) (u1) (z2) ?_
    iterate 4 (refine kX_one rfl ?_)
    refine kX_ialdV rfl rfl (by decide) (k) (by first | rfl | decide) (by omega) (hc k q) ?_
    refine kX_iastN rfl rfl (by decide) (6 * s + z) (ix6 s z) (by omega) ?_
    iterate 2 (refine kX_one rfl ?_)
    have := ih (k + 1, upd V (6 * s + z) (nI (c k))) ⟨q, fun p hp hpk => by
      simp only at hpk ⊢
      by_cases e : p = k
      · subst e
        rw [hfz, pk_us]
      · have hne := hN.2 p k hp q e
        obtain ⟨-, z', z1', z2'⟩ := hN.1 p hp
        have hfz' : fN (σ 241 op[p]) = z' := by rw [z2']; exact fN_nI (by omega)
        have : z' ≠ z := fun e2 => hne (by rw [z2, z2', e2])
        have e3 := i2 p hp (by omega)
        rw [hfz'] at e3 ⊢
        rw [pk_un (by omega)]
        exact e3, fun j hj => by
      simp only
      rw [pk_un (by have := hj k q; rw [hfz] at this; exact this)]
      exact i3 j hj⟩ (by simp only; omega)
    dsimp only at this
    rw [← nI_1] at this
    refine kX_to _ _ rfl rfl rfl ?_ this
    funext c; first
      | ((repeat (refine va_case ?_ ?_; (· (intro h; first | (subst h; rfl) | (unfold va_up; repeat' split; (all_goals first | rfl | omega | (subst_vars; rfl) | (funext j; unfold upd; repeat' split; all_goals first | rfl | omega | (subst_vars; rfl)))))); intro h)); (repeat (refine va_case2 ?_ ?_; (· (intro h; first | exact absurd h (by assumption) | (subst h; rfl) | (subst h; funext j; unfold upd; repeat' split; (all_goals first | rfl | omega | (subst_vars; rfl))))); intro h)); rfl)
      | (unfold va_up; repeat' split
         all_goals first | rfl | omega | (subst_vars; rfl) | (funext j; unfold upd; repeat' split; all_goals first | rfl | omega | (subst_vars; rfl)))
/-- what comes to stand in a STATE by an EVENT that receives -/
theorem rc_cfg {σ : kS} {n b R S s r dn t : Nat} {op : List Nat} {c : Nat → Nat} {D V W : Nat → Int32} (h : mTb σ n b) (hR : mRo σ n R) (hc : cfg σ n R S D W) (hs : s < S) (r1 : r < R) (r2 : σ 255 s = nI r) (r3 : D s = nI dn) (hdn : dn < fN (σ 247 r)) (hse : σ 249 (6 * r + dn) = 0) (ht : t < n) (het : σ 248 (6 * r + dn) = nI t)
    (hop : ∀ u, u ∈ op ↔ u ∈ tvs (σ 233) (σ 234) (σ 235) t ∧ W (6 * s + fN (σ 241 u)) < 0) (hof : ∀ p (h : p < op.length), c p < n ∧ ofs σ op[p] (c p)) (hV1 : ∀ p (h : p < op.length), V (6 * s + fN (σ 241 op[p])) = nI (c p)) (hV2 : ∀ u k, u < S → k < 6 → (∀ p (h : p < op.length), 6 * u + k ≠ 6 * s + fN (σ 241 op[p])) → V (6 * u + k) = W (6 * u + k)) :
    cfg σ n R S (upd D s (nI (dn + 1))) V ∧ stp S D W (upd D s (nI (dn + 1))) V s ∧ ∀ u ∈ tvs (σ 233) (σ 234) (σ 235) t, ∃ p z, p < 6 ∧ z < n ∧ σ 241 u = nI p ∧ V (6 * s + p) = nI z ∧ tgd (σ 233) (σ 234) (σ 235) z = true ∧ (σ 240 u = nI 0 → σ 233 z = nI 0) := by
  have hn := h.1
  have hR4 := hR.1
  obtain ⟨t', t1, t2, t3, -⟩ := hR.2.2.2.2.2 r dn r1 hdn
  obtain rfl : t = t' := nI_inj (het.symm.trans t2)
  have hvar := fun u hu => mRo_var (u := u) h hR r1 ht t3 hu
  obtain ⟨r', dn', a1, a2, a3, a4, a5⟩ := hc s hs
  obtain rfl : r = r' := nI_inj (r2.symm.trans a2)
  have he6 : fN (σ 247 r) ≤ 6 := by
    obtain ⟨-, e, e1, e2⟩ := hR.2.2.1 r r1
    rw [e2, fN_nI (by omega)]
    exact e1
  obtain rfl : dn = dn' := nI_inj (r3.symm.trans a3)
  have hm6 : (-6 : Int32) < 0 := by decide
  /- where V is as W -/
  have hout : ∀ u k, u < S → k < 6 → (u = s → bdv σ r dn k ∨ ¬ bdv σ r (dn + 1) k) → V (6 * u + k) = W (6 * u + k) := by
    intro u k hu hk hb
    refine hV2 u k hu hk (fun p hp e => ?_)
    obtain ⟨g1, g2⟩ := (hop op[p]).mp (List.getElem_mem hp)
    obtain ⟨k', so, u1, k6, kv, vv, kk, -⟩ := hvar _ g1
    rw [kk, fN_nI (by omega)] at e g2
    have e1 : u = s := by omega
    have e2 : k = k' := by omega
    subst e1 e2
    rcases hb rfl with hb | hb
    · obtain ⟨b1, -⟩ := (a5 k hk).1 hb
      exact (mVz_ne h b1).2 g2
    · refine hb ⟨kv, Or.inr ⟨dn, by omega, hse, ?_⟩⟩
      rw [vv, het, fN_nI (by omega), fN_nI (by omega)]
      exact g1
  /- what was chosen -/
  have hin : ∀ u k, u ∈ tvs (σ 233) (σ 234) (σ 235) t → σ 241 u = nI k → k < 6 → ¬ bdv σ r dn k → ∃ z, z < n ∧ V (6 * s + k) = nI z ∧ ofs σ u z := by
    intro u k hu hk hk6 hb
    have hw : W (6 * s + fN (σ 241 u)) < 0 := by
      rw [hk, fN_nI (by omega), (a5 k hk6).2 hb]
      exact hm6
    obtain ⟨p, hp, e⟩ := List.mem_iff_getElem.mp ((hop u).mpr ⟨hu, hw⟩)
    have := hV1 p hp
    obtain ⟨o1, o2⟩ := hof p hp
    rw [e] at this o2
    rw [hk, fN_nI (by omega)] at this
    exact ⟨c p, o1, this, o2⟩
  have hnew : ∀ k, k < 6 → bdv σ r (dn + 1) k → ¬ bdv σ r dn k → ∃ u, u < n ∧ u ∈ tvs (σ 233) (σ 234) (σ 235) t ∧ σ 241 u = nI k ∧ σ 245 (6 * r + k) = nI u ∧ σ 246 (6 * r + k) = nI 2 := by
    intro k hk hb hb0
    obtain ⟨v, so, as, v1, v2, v3, v4, v5, v6, v7, v8, v9, -⟩ := hR.2.2.2.1 r k r1 hb.1
    have ha : σ 246 (6 * r + k) = nI 2 := Classical.byContradiction (fun q => hb0 ⟨hb.1, Or.inl q⟩)
    rcases hb.2 with q | ⟨e, e1, e2, e3⟩
    · exact absurd ha q
    · by_cases ee : e < dn
      · exact absurd ⟨hb.1, Or.inr ⟨e, ee, e2, e3⟩⟩ hb0
      · obtain rfl : e = dn := by omega
        rw [v2, het, fN_nI (by omega), fN_nI (by omega)] at e3
        exact ⟨v, v1, e3, v5, v2, ha⟩
  refine ⟨fun u hu => ?_, ⟨hs, fun u hu => ⟨fun q => ⟨pk_un q, fun k hk => hout u k hu hk (fun e => absurd e q)⟩, fun q => ?_⟩⟩, fun u hu => ?_⟩
  · by_cases e : u = s
    · subst e
      refine ⟨r, dn + 1, r1, r2, pk_us, hdn, fun k hk => ⟨fun hb => ?_, fun hb => ?_⟩⟩
      · by_cases hb0 : bdv σ r dn k
        · rw [hout u k hu hk (fun _ => Or.inl hb0)]
          exact (a5 k hk).1 hb0
        · obtain ⟨v, v1, v2, v3, v4, v5⟩ := hnew k hk hb hb0
          obtain ⟨z, z1, z2, z3, z4⟩ := hin v k v2 v3 hk hb0
          refine ⟨⟨z, z1, z2, z3, ?_⟩, fun q => absurd v5 q⟩
          rw [v4, fN_nI (by omega)]
          rcases z4 with z4 | z4
          · exact Or.inl z4
          · exact Or.inr z4.symm
      · have hb0 : ¬ bdv σ r dn k := fun q => hb (bdv_mono (by omega) q)
        rw [hout u k hu hk (fun _ => Or.inr hb)]
        exact (a5 k hk).2 hb0
    · obtain ⟨r', dn', c1, c2, c3, c4, c5⟩ := hc u hu
      refine ⟨r', dn', c1, c2, (pk_un e).trans c3, c4, fun k hk => ?_⟩
      rw [hout u k hu hk (fun q => absurd q e)]
      exact c5 k hk
  · subst q
    refine ⟨by rw [pk_us, r3, nI_1], fun k hk hw => hout u k hu hk (fun _ => Or.inl ?_)⟩
    exact Classical.byContradiction (fun hb => hw ((a5 k hk).2 hb))
  · obtain ⟨k, so, u1, k6, kv, vv, kk, ku, so3, sov⟩ := hvar u hu
    by_cases hb : bdv σ r dn k
    · obtain ⟨⟨z, z1, z2, z3, z4⟩, -⟩ := (a5 k k6).1 hb
      refine ⟨k, z, k6, z1, kk, by rw [hout s k hs k6 (fun _ => Or.inl hb)]; exact z2, z3, fun q => ?_⟩
      rw [vv, fN_nI (by omega), q] at z4
      rcases z4 with z4 | z4
      · exact absurd z4 (by decide)
      · exact z4.symm
    · obtain ⟨z, z1, z2, z3, z4⟩ := hin u k hu kk k6 hb
      refine ⟨k, z, k6, z1, kk, z2, z3, fun q => ?_⟩
      rw [q] at z4
      rcases z4 with z4 | z4
      · exact absurd z4 (by decide)
      · exact z4
end
section
/-! the reference: receives, its loops -/
theorem ddl_nd : ∀ (l acc : List Nat), acc.Pairwise (fun x y => x ≠ y) → (ddl acc l).Pairwise (fun x y => x ≠ y)
  | [], _, h => h
  | a :: l, acc, h => by
    rw [ddl_cons]
    refine ddl_nd l _ ?_
    split
    · exact h
    · next e =>
      rw [List.pairwise_append]
      refine ⟨h, List.pairwise_singleton _ _, fun x hx y hy q => ?_⟩
      rw [List.mem_singleton] at hy
      subst hy
      exact e (q ▸ hx)
theorem op_len {σ : kS} {op : List Nat} (h : op.Pairwise (fun x y => x ≠ y)) (h1 : ∀ u ∈ op, ∃ k, k < 6 ∧ σ 241 u = nI k) (h2 : ∀ u ∈ op, ∀ v ∈ op, u ≠ v → σ 241 u ≠ σ 241 v) : op.length ≤ 6 := by
  have hp : (op.map (fun u => fN (σ 241 u))).Pairwise (fun x y => x ≠ y) := by
    rw [List.pairwise_map]
    refine List.Pairwise.imp_of_mem (fun {a b} ha hb hab e => ?_) h
    obtain ⟨k, k1, k2⟩ := h1 a ha
    obtain ⟨k', k1', k2'⟩ := h1 b hb
    rw [k2, k2', fN_nI (by omega), fN_nI (by omega)] at e
    exact h2 a ha b hb hab (by rw [k2, k2', e])
  have := nodup_le (m := 6) hp (fun x hx => by
    obtain ⟨u, hu, rfl⟩ := List.mem_map.mp hx
    obtain ⟨k, k1, k2⟩ := h1 u hu
    rw [k2, fN_nI (by omega)]
    exact k1)
  rw [List.length_map] at this
  exact this
end
section
/-! the reference: receives, what is chosen -/
theorem ofs_sf {σ τ : kS} {n b u z : Nat} (h : mTb σ n b) (hF : mSf σ τ n) (hz : z < n) : ofs τ u z ↔ ofs σ u z := by
  have hn := h.1
  have e := (mFr_all h (pat_fr hF) hz).2.1
  have e : tgd (τ 233) (τ 234) (τ 235) z = tgd (σ 233) (σ 234) (σ 235) z := e
  unfold ofs
  rw [e, hF.1 240 (by decide) (by decide), (hF.2.2 z (by omega)).1]
theorem nI_dec (k : Nat) : nI k + Int32.ofInt (-1) = nI k - 1 := by
  rw [Int32.sub_eq_add_neg]
  rfl
end
section
/-! the reference: receives, all of it -/
theorem mFr_fv (σ : kS) (n : Nat) (W ST : Nat → Int32) (m : Int32) : mFr σ (fvS σ W ST m) n := by
  refine ⟨fun c hc => ?_, fun j hj => ?_, fun u hu => ⟨rfl, rfl, rfl⟩⟩
  · simp only [rowC, List.mem_cons, List.not_mem_nil, or_false, not_or] at hc
    simp [fvS, va_up, hc]
  · simp only [rowJ, List.mem_cons, List.not_mem_nil, or_false, not_or] at hj
    show upd (σ 232) 22 m j = _
    exact pk_un (by omega)
end
section
/-! the reference: goesOn -/
/-- an EVENT that sends -/
theorem sd_cfg {σ : kS} {n b R S s r dn : Nat} {D W : Nat → Int32} (h : mTb σ n b) (hR : mRo σ n R) (hc : cfg σ n R S D W) (hs : s < S) (r1 : r < R) (r2 : σ 255 s = nI r) (r3 : D s = nI dn) (hdn : dn < fN (σ 247 r)) (hse : σ 249 (6 * r + dn) ≠ 0) :
    cfg σ n R S (upd D s (nI (dn + 1))) W ∧ stp S D W (upd D s (nI (dn + 1))) W s := by
  have hR4 := hR.1
  have he6 : fN (σ 247 r) ≤ 6 := by
    obtain ⟨-, e, e1, e2⟩ := hR.2.2.1 r r1
    rw [e2, fN_nI (by omega)]
    exact e1
  refine ⟨fun u hu => ?_, hs, fun u hu => ⟨fun q => ⟨pk_un q, fun _ _ => rfl⟩, fun q => ⟨?_, fun _ _ _ => rfl⟩⟩⟩
  · obtain ⟨r', dn', a1, a2, a3, a4, a5⟩ := hc u hu
    by_cases e : u = s
    · subst e
      obtain rfl : r = r' := nI_inj (r2.symm.trans a2)
      obtain rfl : dn = dn' := nI_inj (r3.symm.trans a3)
      have hb : ∀ k, bdv σ r (dn + 1) k ↔ bdv σ r dn k := fun k => ⟨fun q => ⟨q.1, q.2.elim Or.inl (fun ⟨e, e1, e2, e3⟩ => Or.inr ⟨e, by
        have : e ≠ dn := fun q => hse (q ▸ e2)
        omega, e2, e3⟩)⟩, bdv_mono (by omega)⟩
      refine ⟨r, dn + 1, r1, r2, pk_us, hdn, fun k hk => ?_⟩
      rw [hb k]
      exact a5 k hk
    · exact ⟨r', dn', a1, a2, (pk_un e).trans a3, a4, a5⟩
  · subst q
    rw [pk_us, r3, nI_1]
end
section
/-! the reference: noteAttack -/
/-- the way from the STATE i back to the first: movers and STATES -/
def pthR (σ : kS) : Nat → List (Nat × Nat) → Prop
  | i, [] => i = 0
  | i, (m, i') :: l => i' = i ∧ 0 < i ∧ σ 287 i = nI m ∧ ∃ j, j < i ∧ σ 286 i = nI j ∧ pthR σ j l
def pthB (σ : kS) (S N i : Nat) (l : List (Nat × Nat)) : Prop := l.length ≤ i ∧ (∀ s, s < S → stD σ i s = nI ((l.map Prod.fst).count s)) ∧ ∀ l1 q l2, l = l1 ++ q :: l2 → q.1 < S ∧ q.2 < N ∧ stD σ q.2 q.1 = nI ((l2.map Prod.fst).count q.1 + 1) ∧ ∀ k, k < 6 → stV σ q.2 (6 * q.1 + k) ≠ -6 → stV σ i (6 * q.1 + k) = stV σ q.2 (6 * q.1 + k)
theorem pth_ex {σ : kS} {n R S N : Nat} (hS : mSs σ n R S N) : ∀ i, i < N → ∃ l, pthR σ i l ∧ pthB σ S N i l := by
  intro i
  induction i using Nat.strongRecOn with
  | _ i ih =>
    intro hi
    obtain ⟨-, g2, g3⟩ := hS.2.2 i hi
    rcases Nat.eq_zero_or_pos i with rfl | hp
    · refine ⟨[], rfl, Nat.zero_le _, fun s hs => g2 rfl s hs, fun l1 q l2 e => ?_⟩
      cases l1 <;> cases e
    · obtain ⟨j, m, j1, j2, j3, m1, m2⟩ := g3 hp
      obtain ⟨l, h1, h0, h2, h3⟩ := ih j j1 (by omega)
      have hD : ∀ s, s < S → stD σ i s = nI ((((m, i) :: l).map Prod.fst).count s) := fun s hs => by
        rw [List.map_cons, List.count_cons]
        by_cases e : s = m
        · rw [((m2 s hs).2 e).1, h2 s hs, nI_1]
          simp [e]
        · rw [((m2 s hs).1 e).1, h2 s hs]
          have : ¬ ((m == s) = true) := by
            rw [beq_iff_eq]
            exact fun q => e q.symm
          simp [this]
      refine ⟨(m, i) :: l, ⟨rfl, hp, j3, j, j1, j2, h1⟩, (by rw [List.length_cons]; omega), hD, fun l1 q l2 e => ?_⟩
      cases l1 with
      | nil =>
        rw [List.nil_append] at e
        obtain ⟨rfl, rfl⟩ := List.cons.inj e
        refine ⟨m1, hi, ?_, fun _ _ _ => rfl⟩
        have := hD m m1
        rw [List.map_cons, List.count_cons_self] at this
        exact this
      | cons a l1 =>
        rw [List.cons_append] at e
        obtain ⟨rfl, e2⟩ := List.cons.inj e
        obtain ⟨q1, q2, q3, q4⟩ := h3 l1 q l2 e2
        refine ⟨q1, q2, q3, fun k hk hne => ?_⟩
        have hj := q4 k hk hne
        by_cases e : q.1 = m
        · rw [((m2 q.1 q1).2 e).2 k hk (by rw [hj]; exact hne), hj]
        · rw [((m2 q.1 q1).1 e).2 k hk, hj]
theorem len_24 {l : List Nat} (h4 : ∀ s ∈ l, s < 4) (hc : ∀ s, l.count s ≤ 6) : l.length ≤ 24 := by
  have key : ∀ (l : List Nat), (∀ s ∈ l, s < 4) → l.length = l.count 0 + l.count 1 + l.count 2 + l.count 3 := by
    intro l
    induction l with
    | nil => intro _; rfl
    | cons a l ih =>
      intro hl
      have h1 := ih (fun s hs => hl s (List.mem_cons_of_mem _ hs))
      have ha := hl a List.mem_cons_self
      rw [List.length_cons, h1, List.count_cons, List.count_cons, List.count_cons, List.count_cons]
      obtain rfl | rfl | rfl | rfl : a = 0 ∨ a = 1 ∨ a = 2 ∨ a = 3 := by omega
      all_goals simp
      all_goals omega
  rw [key l h4]
  have := hc 0
  have := hc 1
  have := hc 2
  have := hc 3
  omega
def naS (σ : kS) (AS AT : Nat → Int32) (m : Int32) : kS := va_up (va_up (va_up σ 288 AS) 289 AT) 232 (upd (σ 232) 72 m)
theorem naS_Ak {σ : kS} {n b R S N : Nat} {l : List (Nat × Nat)} {AS AT : Nat → Int32} (h : mTb σ n b) (hR : mRo σ n R) (hS4 : S ≤ 4) (hS : mSs σ n R S N) (hN : 0 < N) (hP : pthB σ S N (N - 1) l) (h24 : l.length ≤ 24) (hA : ∀ p q, l.reverse[p]? = some q → AS p = nI q.1 ∧ AT p = nI q.2) : mAk (naS σ AS AT (nI l.length)) n R S := by
  have hR4 := hR.1
  have hN6 := hS.1
  obtain ⟨p1, p2, p3⟩ := hP
  have hcnt : ∀ s, (l.map Prod.fst).count s < 2147483648 := fun s => by
    have := List.count_le_length (a := s) (l := l.map Prod.fst)
    rw [List.length_map] at this
    omega
  have hev : ∀ r, r < R → fN (σ 247 r) ≤ 6 := fun r hr => by
    obtain ⟨-, e, e1, e2⟩ := hR.2.2.1 r hr
    rw [e2, fN_nI (by omega)]
    exact e1
  have hel : (l.reverse.map Prod.fst).length = l.length := by simp
  refine Or.inr ⟨l.reverse.map Prod.fst, fun s k => stV σ (N - 1) (6 * s + k), by omega, ?_, fun i hi => ?_, fun s hs => ?_, fun i hi => ?_⟩
  · show nI l.length = _
    rw [hel]
  · have hi' : i < l.reverse.length := by simpa using hi
    have := (hA i l.reverse[i] (List.getElem?_eq_getElem hi')).1
    rw [List.getElem_map]
    exact this
  · have hs' : s ∈ l.map Prod.fst := by
      rw [List.map_reverse] at hs
      exact List.mem_reverse.mp hs
    obtain ⟨q, hq, e⟩ := List.mem_map.mp hs'
    obtain ⟨l1, l2, e2⟩ := List.append_of_mem hq
    have hsS : s < S := by
      rw [← e]
      exact (p3 l1 q l2 e2).1
    obtain ⟨r, dn, a1, a2, a3, a4, a5⟩ := (hS.2.2 (N - 1) (by omega)).1 s hsS
    have he := hev r a1
    have hdn : (l.map Prod.fst).count s = dn := nI_inj ((p2 s hsS).symm.trans a3) (hcnt s)
    have hcr : (l.reverse.map Prod.fst).count s = dn := by
      rw [List.map_reverse, List.count_reverse, hdn]
    have hfr : fN (σ 255 s) = r := by rw [a2]; exact fN_nI (by omega)
    refine ⟨hsS, ?_, fun k hk hb => ?_⟩
    · show (l.reverse.map Prod.fst).count s ≤ fN (σ 247 (fN (σ 255 s)))
      rw [hcr, hfr]
      exact a4
    · have hb : bdv σ (fN (σ 255 s)) ((l.reverse.map Prod.fst).count s) k := hb
      rw [hcr, hfr] at hb
      have := (a5 k hk).1 hb
      show mVz σ n (fN (σ 255 s)) k _ ∧ (σ 246 (6 * fN (σ 255 s) + k) ≠ nI 2 → _)
      rw [hfr]
      exact this
  · have hi' : i < l.reverse.length := by simpa using hi
    obtain ⟨q, hq⟩ : ∃ q, l.reverse[i] = q := ⟨_, rfl⟩
    have hA2 := (hA i q (by rw [List.getElem?_eq_getElem hi', hq])).2
    have hsplit : l.reverse = l.reverse.take i ++ q :: l.reverse.drop (i + 1) := by
      rw [← hq, ← List.drop_eq_getElem_cons hi', List.take_append_drop]
    have hl : l = (l.reverse.drop (i + 1)).reverse ++ q :: (l.reverse.take i).reverse := by
      have := congrArg List.reverse hsplit
      rw [List.reverse_reverse, List.reverse_append, List.reverse_cons, List.append_assoc] at this
      exact this
    obtain ⟨q1, q2, q3, q4⟩ := p3 _ q _ hl
    have hasi : (l.reverse.map Prod.fst)[i] = q.1 := by rw [List.getElem_map, hq]
    have htk : ((l.reverse.map Prod.fst).take i).count q.1 = (((l.reverse.take i).reverse).map Prod.fst).count q.1 := by
      rw [List.map_reverse (l := l.reverse.take i), List.count_reverse, List.map_take]
    obtain ⟨r, dn, a1, a2, a3, a4, a5⟩ := (hS.2.2 q.2 q2).1 q.1 q1
    have he := hev r a1
    have hle : ((l.reverse.map Prod.fst).take i).count q.1 ≤ 600 := by
      have := List.count_le_length (a := q.1) (l := (l.reverse.map Prod.fst).take i)
      rw [List.length_take] at this
      omega
    have hdn : ((l.reverse.map Prod.fst).take i).count q.1 + 1 = dn := by
      rw [← htk] at q3
      exact nI_inj (q3.symm.trans a3)
    have hfr : fN (σ 255 q.1) = r := by rw [a2]; exact fN_nI (by omega)
    refine ⟨q.2, by omega, hA2, fun k hk => ?_⟩
    rw [hasi]
    show σ 285 (24 * q.2 + 6 * q.1 + k) = cit (bdv σ (fN (σ 255 q.1)) (((l.reverse.map Prod.fst).take i).count q.1 + 1) k) (stV σ (N - 1) (6 * q.1 + k)) (-6)
    rw [hfr, hdn, show σ 285 (24 * q.2 + 6 * q.1 + k) = stV σ q.2 (6 * q.1 + k) by unfold stV; rw [show 24 * q.2 + (6 * q.1 + k) = 24 * q.2 + 6 * q.1 + k by omega]]
    by_cases hb : bdv σ r dn k
    · rw [cit_T hb, q4 k hk]
      exact (mVz_ne h ((a5 k hk).1 hb).1).1
    · rw [cit_F hb]
      exact (a5 k hk).2 hb
theorem pth_24 {σ : kS} {n R S N : Nat} {l : List (Nat × Nat)} (hR : mRo σ n R) (hS4 : S ≤ 4) (hS : mSs σ n R S N) (hN : 0 < N) (hP : pthB σ S N (N - 1) l) : l.length ≤ 24 := by
  have hN6 := hS.1
  obtain ⟨p1, p2, p3⟩ := hP
  have hm : ∀ s ∈ l.map Prod.fst, s < S := fun s hs => by
    obtain ⟨q, hq, rfl⟩ := List.mem_map.mp hs
    obtain ⟨l1, l2, e⟩ := List.append_of_mem hq
    exact (p3 l1 q l2 e).1
  have := len_24 (l := l.map Prod.fst) (fun s hs => by have := hm s hs; omega) (fun s => by
    by_cases hs : s < S
    · obtain ⟨r, dn, a1, a2, a3, a4, -⟩ := (hS.2.2 (N - 1) (by omega)).1 s hs
      obtain ⟨-, e, e1, e2⟩ := hR.2.2.1 r a1
      rw [e2, fN_nI (by omega)] at a4
      have hc := List.count_le_length (a := s) (l := l.map Prod.fst)
      rw [List.length_map] at hc
      have : (l.map Prod.fst).count s = dn := nI_inj ((p2 s hs).symm.trans a3)
      omega
    · have : (l.map Prod.fst).count s = 0 := List.count_eq_zero.mpr (fun q => hs (hm s q))
      omega)
  rw [List.length_map] at this
  exact this
end
section
/-! the reference: search -/
set_option maxRecDepth 100000 in
set_option maxHeartbeats 4000000 in
theorem mr_se_k1 (L : Nat) (xs : Nat → Int32) (d : Nat) (σ : kS) (Q : Option Value → kS → Prop) (he : ∀ KD, (∀ j, j < 4 → KD j = σ 264 j) → kX kT L xs (d + 1) 220 25 [(0, .ref 232)] [] (va_up σ 290 KD) Q) :
    ∀ q : Nat × (Nat → Int32), (q.1 ≤ 4 ∧ ∀ j, j < q.1 → q.2 j = σ 264 j) → kX kT L xs (d + 1) 220 2 [(1, .int (nI q.1)), (0, .ref 232)] [] (va_up σ 290 q.2) Q := by
  refine kX_while (fun q : Nat × (Nat → Int32) => [(1, .int (nI q.1)), (0, .ref 232)]) (fun q => va_up σ 290 q.2) _ (fun q => 4 - q.1) ?_
  rintro ⟨k, A⟩ ⟨i1, i2⟩ ih
  dsimp only at i1 i2 ih ⊢
  iterate 2 (refine kX_one rfl ?_)
  repeat refine kX_one rfl ?_
  refine kX_if (fun q => ?_) (fun q => ?_)
  · have q := qge q k 4
    obtain rfl : k = 4 := by omega
    exact kX_lv _ rfl rfl rfl (he A i2)
  · have q := qgeF q k 4
    iterate 6 (refine kX_one rfl ?_)
    refine kX_ialdN rfl rfl (by decide) (k) (by first | rfl | decide) (q) ?_
    refine kX_iastN rfl rfl (by decide) (k) (by first | rfl | decide) (q) ?_
    iterate 2 (refine kX_one rfl ?_)
    have := ih (k + 1, upd A k (σ 264 k)) ⟨q, fun j hj => by
      simp only at hj ⊢
      by_cases e : j = k
      · subst e
        exact pk_us
      · rw [pk_un e]
        exact i2 j (by omega)⟩ (by simp only; omega)
    dsimp only at this
    rw [← nI_1] at this
    refine kX_to _ _ rfl rfl rfl ?_ this
    funext c; first
      | ((repeat (refine va_case ?_ ?_; (· (intro h; first | (subst h; rfl) | (unfold va_up; repeat' split; (all_goals first | rfl | omega | (subst_vars; rfl) | (funext j; unfold upd; repeat' split; all_goals first | rfl | omega | (subst_vars; rfl)))))); intro h)); (repeat (refine va_case2 ?_ ?_; (· (intro h; first | exact absurd h (by assumption) | (subst h; rfl) | (subst h; funext j; unfold upd; repeat' split; (all_goals first | rfl | omega | (subst_vars; rfl))))); intro h)); rfl)
      | (unfold va_up; repeat' split
         all_goals first | rfl | omega | (subst_vars; rfl) | (funext j; unfold upd; repeat' split; all_goals first | rfl | omega | (subst_vars; rfl)))
set_option maxRecDepth 100000 in
set_option maxHeartbeats 4000000 in
theorem mr_se_k2 (L : Nat) (xs : Nat → Int32) (d : Nat) (σ : kS) (Q : Option Value → kS → Prop) (he : ∀ KD, (∀ j, j < 24 → KD j = σ 265 j) → kX kT L xs (d + 1) 220 51 [(0, .ref 232)] [] (va_up σ 291 KD) Q) :
    ∀ q : Nat × (Nat → Int32), (q.1 ≤ 24 ∧ ∀ j, j < q.1 → q.2 j = σ 265 j) → kX kT L xs (d + 1) 220 27 [(1, .int (nI q.1)), (0, .ref 232)] [] (va_up σ 291 q.2) Q := by
  refine kX_while (fun q : Nat × (Nat → Int32) => [(1, .int (nI q.1)), (0, .ref 232)]) (fun q => va_up σ 291 q.2) _ (fun q => 24 - q.1) ?_
  rintro ⟨k, A⟩ ⟨i1, i2⟩ ih
  dsimp only at i1 i2 ih ⊢
  iterate 2 (refine kX_one rfl ?_)
  repeat refine kX_one rfl ?_
  refine kX_if (fun q => ?_) (fun q => ?_)
  · have q := qge q k 24
    obtain rfl : k = 24 := by omega
    exact kX_lv _ rfl rfl rfl (he A i2)
  · have q := qgeF q k 24
    iterate 6 (refine kX_one rfl ?_)
    refine kX_ialdN rfl rfl (by decide) (k) (by first | rfl | decide) (q) ?_
    refine kX_iastN rfl rfl (by decide) (k) (by first | rfl | decide) (q) ?_
    iterate 2 (refine kX_one rfl ?_)
    have := ih (k + 1, upd A k (σ 265 k)) ⟨q, fun j hj => by
      simp only at hj ⊢
      by_cases e : j = k
      · subst e
        exact pk_us
      · rw [pk_un e]
        exact i2 j (by omega)⟩ (by simp only; omega)
    dsimp only at this
    rw [← nI_1] at this
    refine kX_to _ _ rfl rfl rfl ?_ this
    funext c; first
      | ((repeat (refine va_case ?_ ?_; (· (intro h; first | (subst h; rfl) | (unfold va_up; repeat' split; (all_goals first | rfl | omega | (subst_vars; rfl) | (funext j; unfold upd; repeat' split; all_goals first | rfl | omega | (subst_vars; rfl)))))); intro h)); (repeat (refine va_case2 ?_ ?_; (· (intro h; first | exact absurd h (by assumption) | (subst h; rfl) | (subst h; funext j; unfold upd; repeat' split; (all_goals first | rfl | omega | (subst_vars; rfl))))); intro h)); rfl)
      | (unfold va_up; repeat' split
         all_goals first | rfl | omega | (subst_vars; rfl) | (funext j; unfold upd; repeat' split; all_goals first | rfl | omega | (subst_vars; rfl)))
set_option maxRecDepth 100000 in
set_option maxHeartbeats 4000000 in
theorem mr_se_r1 (L : Nat) (xs : Nat → Int32) (d : Nat) (σ : kS) (v : Int32) (Q : Option Value → kS → Prop) (he : ∀ KD, (∀ j, j < 4 → KD j = σ 290 j) → kX kT L xs (d + 1) 220 127 [(0, .ref 232), (1, .int v)] [] (va_up σ 264 KD) Q) :
    ∀ q : Nat × (Nat → Int32), (q.1 ≤ 4 ∧ ∀ j, j < q.1 → q.2 j = σ 290 j) → kX kT L xs (d + 1) 220 104 [(2, .int (nI q.1)), (0, .ref 232), (1, .int v)] [] (va_up σ 264 q.2) Q := by
  refine kX_while (fun q : Nat × (Nat → Int32) => [(2, .int (nI q.1)), (0, .ref 232), (1, .int v)]) (fun q => va_up σ 264 q.2) _ (fun q => 4 - q.1) ?_
  rintro ⟨k, A⟩ ⟨i1, i2⟩ ih
  dsimp only at i1 i2 ih ⊢
  iterate 2 (refine kX_one rfl ?_)
  repeat refine kX_one rfl ?_
  refine kX_if (fun q => ?_) (fun q => ?_)
  · have q := qge q k 4
    obtain rfl : k = 4 := by omega
    exact kX_lv _ rfl rfl rfl (he A i2)
  · have q := qgeF q k 4
    iterate 6 (refine kX_one rfl ?_)
    refine kX_ialdN rfl rfl (by decide) (k) (by first | rfl | decide) (q) ?_
    refine kX_iastN rfl rfl (by decide) (k) (by first | rfl | decide) (q) ?_
    iterate 2 (refine kX_one rfl ?_)
    have := ih (k + 1, upd A k (σ 290 k)) ⟨q, fun j hj => by
      simp only at hj ⊢
      by_cases e : j = k
      · subst e
        exact pk_us
      · rw [pk_un e]
        exact i2 j (by omega)⟩ (by simp only; omega)
    dsimp only at this
    rw [← nI_1] at this
    refine kX_to _ _ rfl rfl rfl ?_ this
    funext c; first
      | ((repeat (refine va_case ?_ ?_; (· (intro h; first | (subst h; rfl) | (unfold va_up; repeat' split; (all_goals first | rfl | omega | (subst_vars; rfl) | (funext j; unfold upd; repeat' split; all_goals first | rfl | omega | (subst_vars; rfl)))))); intro h)); (repeat (refine va_case2 ?_ ?_; (· (intro h; first | exact absurd h (by assumption) | (subst h; rfl) | (subst h; funext j; unfold upd; repeat' split; (all_goals first | rfl | omega | (subst_vars; rfl))))); intro h)); rfl)
      | (unfold va_up; repeat' split
         all_goals first | rfl | omega | (subst_vars; rfl) | (funext j; unfold upd; repeat' split; all_goals first | rfl | omega | (subst_vars; rfl)))
set_option maxRecDepth 100000 in
set_option maxHeartbeats 4000000 in
theorem mr_se_r2 (L : Nat) (xs : Nat → Int32) (d : Nat) (σ : kS) (v : Int32) (Q : Option Value → kS → Prop) (he : ∀ KD, (∀ j, j < 24 → KD j = σ 291 j) → kX kT L xs (d + 1) 220 153 [(0, .ref 232), (1, .int v)] [] (va_up σ 265 KD) Q) :
    ∀ q : Nat × (Nat → Int32), (q.1 ≤ 24 ∧ ∀ j, j < q.1 → q.2 j = σ 291 j) → kX kT L xs (d + 1) 220 129 [(2, .int (nI q.1)), (0, .ref 232), (1, .int v)] [] (va_up σ 265 q.2) Q := by
  refine kX_while (fun q : Nat × (Nat → Int32) => [(2, .int (nI q.1)), (0, .ref 232), (1, .int v)]) (fun q => va_up σ 265 q.2) _ (fun q => 24 - q.1) ?_
  rintro ⟨k, A⟩ ⟨i1, i2⟩ ih
  dsimp only at i1 i2 ih ⊢
  iterate 2 (refine kX_one rfl ?_)
  repeat refine kX_one rfl ?_
  refine kX_if (fun q => ?_) (fun q => ?_)
  · have q := qge q k 24
    obtain rfl : k = 24 := by omega
    exact kX_lv _ rfl rfl rfl (he A i2)
  · have q := qgeF q k 24
    iterate 6 (refine kX_one rfl ?_)
    refine kX_ialdN rfl rfl (by decide) (k) (by first | rfl | decide) (q) ?_
    refine kX_iastN rfl rfl (by decide) (k) (by first | rfl | decide) (q) ?_
    iterate 2 (refine kX_one rfl ?_)
    have := ih (k + 1, upd A k (σ 291 k)) ⟨q, fun j hj => by
      simp only at hj ⊢
      by_cases e : j = k
      · subst e
        exact pk_us
      · rw [pk_un e]
        exact i2 j (by omega)⟩ (by simp only; omega)
    dsimp only at this
    rw [← nI_1] at this
    refine kX_to _ _ rfl rfl rfl ?_ this
    funext c; first
      | ((repeat (refine va_case ?_ ?_; (· (intro h; first | (subst h; rfl) | (unfold va_up; repeat' split; (all_goals first | rfl | omega | (subst_vars; rfl) | (funext j; unfold upd; repeat' split; all_goals first | rfl | omega | (subst_vars; rfl)))))); intro h)); (repeat (refine va_case2 ?_ ?_; (· (intro h; first | exact absurd h (by assumption) | (subst h; rfl) | (subst h; funext j; unfold upd; repeat' split; (all_goals first | rfl | omega | (subst_vars; rfl))))); intro h)); rfl)
      | (unfold va_up; repeat' split
         all_goals first | rfl | omega | (subst_vars; rfl) | (funext j; unfold upd; repeat' split; all_goals first | rfl | omega | (subst_vars; rfl)))
theorem se_Rn {σ τ : kS} {n b b' R S : Nat} {ds : List Nat} {RD RV : Nat → Int32} (h : mTb σ n b) (hR : mRo σ n R) (hF : mSf σ τ n) (hS4 : S ≤ 4) (hS : mRn σ n R S ds) (hT : mTb τ n b') (hd : ∀ j, j < 4 → RD j = σ 264 j) (hv : ∀ j, j < 24 → RV j = σ 265 j) : mRn (va_up (va_up τ 264 RD) 265 RV) n R S ds := by
  have g := mFr_Rn (τ := pat σ τ) h hR (pat_fr hF) hS
  have hR1 : mRo (pat σ τ) n R := mFr_Ro (τ := pat σ τ) h (pat_fr hF) hR
  have hT1 : mTb (pat σ τ) n b' := hT
  have hR2 : mRo (va_up (va_up τ 264 RD) 265 RV) n R := hR1
  have hT2 : mTb (va_up (va_up τ 264 RD) 265 RV) n b' := hT
  refine ⟨g.1, g.2.1, g.2.2.1, fun s hs => ?_⟩
  have gs := g.2.2.2 s hs
  obtain ⟨r, r1, r2, -⟩ := gs
  obtain ⟨a1, a2, a3⟩ := mSn_iff hT1 hR1 (g.2.2.2 s hs) r2 r1
  refine mSn_of (r := r) hT2 hR2 r1 r2 ?_ a2 (fun k hk => ?_)
  · show RD s = _
    rw [hd s (by omega)]
    exact a1
  · have e : RV (6 * s + k) = σ 265 (6 * s + k) := hv _ (by omega)
    have := a3 k hk
    show (bdv τ r _ k → mVz τ n r k (RV (6 * s + k))) ∧ (¬ bdv τ r _ k → RV (6 * s + k) = -6)
    rw [e]
    exact this
/-- the first STATE -/
theorem se_cfg {σ : kS} {n b R S : Nat} {D V : Nat → Int32} (h : mTb σ n b) (hR : mRo σ n R) (hS : mSe σ n R S) (hD : ∀ s, s < S → D s = 0) (hV : ∀ s k, s < S → k < 6 → V (6 * s + k) = if k < fN (σ 244 (fN (σ 255 s))) then σ 256 (6 * s + k) else -6) : cfg (va_up (va_up σ 264 D) 265 V) n R S D V := by
  have hR4 := hR.1
  intro s hs
  obtain ⟨r, r1, r2, -⟩ := hS.2.2 s hs
  have hm := mSn_begin h hR hS hD hV s hs
  have hT2 : mTb (va_up (va_up σ 264 D) 265 V) n b := h
  have hR2 : mRo (va_up (va_up σ 264 D) 265 V) n R := hR
  obtain ⟨a1, a2, a3⟩ := mSn_iff hT2 hR2 hm r2 r1
  refine ⟨r, 0, r1, r2, hD s hs, a2, fun k hk => ⟨fun hb => ⟨(a3 k hk).1 hb, fun _ => ?_⟩, (a3 k hk).2⟩⟩
  have hb1 : k < fN (σ 244 r) := hb.1
  show V (6 * s + k) = σ 256 (6 * s + k)
  rw [hV s k hs hk, r2, fN_nI (by omega), if_pos hb1]
end
section
/-! the reference: search, all of it -/
/-- what is kept -/
def seQ (σ : kS) (KD KV : Nat → Int32) : kS := va_up (va_up (va_up σ 290 KD) 291 KV) 232 (fgO (σ 232))
end
section
/-! the reference: play -/
set_option maxRecDepth 100000 in
set_option maxHeartbeats 4000000 in
theorem mr_pl_in (L : Nat) (xs : Nat → Int32) (d : Nat) (σ : kS) (s k st : Nat) (hs : s < 4) (hk : k < 24) (hst : st < 600) (hat : σ 289 k = nI st) (x y : Int32) (Q : Option Value → kS → Prop)
    (he : ∀ m V, m < 64 → (∀ p, p < 6 → (m / 2 ^ p % 2 = 1 ↔ σ 285 (24 * st + 6 * s + p) ≠ σ 265 (6 * s + p))) → (∀ p, p < 6 → V (6 * s + p) = σ 285 (24 * st + 6 * s + p)) → (∀ j, (∀ p, p < 6 → j ≠ 6 * s + p) → V j = σ 265 j) → kX kT L xs (d + 1) 223 142 [(4, .int (nI s)), (5, .int (nI m)), (0, .ref 232), (1, .int x), (2, .int y), (3, .int (nI k))] [] (va_up σ 265 V) Q) :
    ∀ q : Nat × Nat × (Nat → Int32), (q.1 ≤ 6 ∧ q.2.1 < 64 ∧ (∀ p, p < 6 → (q.2.1 / 2 ^ p % 2 = 1 ↔ p < q.1 ∧ σ 285 (24 * st + 6 * s + p) ≠ σ 265 (6 * s + p))) ∧ (∀ p, p < q.1 → q.2.2 (6 * s + p) = σ 285 (24 * st + 6 * s + p)) ∧ ∀ j, (∀ p, p < q.1 → j ≠ 6 * s + p) → q.2.2 j = σ 265 j) → kX kT L xs (d + 1) 223 57 [(6, .int (nI q.1)), (5, .int (nI q.2.1)), (4, .int (nI s)), (0, .ref 232), (1, .int x), (2, .int y), (3, .int (nI k))] [] (va_up σ 265 q.2.2) Q := by
  refine kX_while (fun q : Nat × Nat × (Nat → Int32) => [(6, .int (nI q.1)), (5, .int (nI q.2.1)), (4, .int (nI s)), (0, .ref 232), (1, .int x), (2, .int y), (3, .int (nI k))]) (fun q => va_up σ 265 q.2.2) _ (fun q => 6 - q.1) ?_
  rintro ⟨v, m, V⟩ ⟨i1, i2, i3, i4, i5⟩ ih
  dsimp only at i1 i2 i3 i4 i5 ih ⊢
  repeat refine kX_one rfl ?_
  refine kX_if (fun q => ?_) (fun q => ?_)
  · have q := qge q v 6
    obtain rfl : v = 6 := by omega
    exact kX_lv _ rfl rfl rfl (he m V i2 (fun p hp => by rw [i3 p hp]; exact ⟨fun z => z.2, fun z => ⟨hp, z⟩⟩) i4 i5)
  · have q := qgeF q v 6
    have hold : V (6 * s + v) = σ 265 (6 * s + v) := i5 _ (fun p hp => by omega)
    have k119 : ∀ m', m' < 64 → (∀ p, p < 6 → (m' / 2 ^ p % 2 = 1 ↔ p < v + 1 ∧ σ 285 (24 * st + 6 * s + p) ≠ σ 265 (6 * s + p))) → kX kT L xs (d + 1) 223 119 [(7, .int (σ 285 (24 * st + 6 * s + v))), (6, .int (nI v)), (5, .int (nI m)), (4, .int (nI s)), (0, .ref 232), (1, .int x), (2, .int y), (3, .int (nI k))] [.int (nI m')] (va_up σ 265 V) Q := by
      intro m' hm' hb
      iterate 9 (refine kX_one rfl ?_)
      refine kX_iastN rfl rfl (by decide) (6 * s + v) (ix6 s v) (by omega) ?_
      iterate 2 (refine kX_one rfl ?_)
      have := ih (v + 1, m', upd V (6 * s + v) (σ 285 (24 * st + 6 * s + v))) ⟨q, hm', hb, fun p hp => by
        simp only at hp ⊢
        by_cases e : p = v
        · subst e
          exact pk_us
        · rw [pk_un (by omega)]
          exact i4 p (by omega), fun j hj => by
        simp only at hj ⊢
        rw [pk_un (hj v (by omega))]
        exact i5 j (fun p hp => hj p (by omega))⟩ (by simp only; omega)
      dsimp only at this
      rw [← nI_1] at this
      refine kX_to _ _ rfl rfl rfl ?_ this
      funext c; first
        | ((repeat (refine va_case ?_ ?_; (· (intro h; first | (subst h; rfl) | (unfold va_up; repeat' split; (all_goals first | rfl | omega | (subst_vars; rfl) | (funext j; unfold upd; repeat' split; all_goals first | rfl | omega | (subst_vars; rfl)))))); intro h)); (repeat (refine va_case2 ?_ ?_; (· (intro h; first | exact absurd h (by assumption) | (subst h; rfl) | (subst h; funext j; unfold upd; repeat' split; (all_goals first | rfl | omega | (subst_vars; rfl))))); intro h)); rfl)
        | (unfold va_up; repeat' split
           all_goals first | rfl | omega | (subst_vars; rfl) | (funext j; unfold upd; repeat' split; all_goals first | rfl | omega | (subst_vars; rfl)))
    iterate 6 (refine kX_one rfl ?_)
    refine kX_ialdV rfl rfl (by decide) (k) (by first | rfl | decide) (hk) (hat) ?_
    iterate 7 (refine kX_one rfl ?_)
    refine kX_ialdN rfl rfl (by decide) (24 * st + 6 * s + v) (ix24 st s v) (by omega) ?_
    iterate 9 (refine kX_one rfl ?_)
    refine kX_ialdV rfl rfl (by decide) (6 * s + v) (ix6 s v) (by omega) (hold) ?_
    repeat refine kX_one rfl ?_
    refine kX_if (fun q2 => ?_) (fun q2 => ?_)
    · have q2 : σ 285 (24 * st + 6 * s + v) ≠ σ 265 (6 * s + v) := qne q2
      obtain ⟨o1, o2⟩ := bm_lt m i2 v q
      iterate 5 (refine kX_one rfl ?_)
      refine kX_top (bm_or m i2 v q) ?_
      refine kX_lv _ rfl rfl rfl (k119 (orb m v) o1 (fun p hp => ?_))
      rw [o2 p hp, i3 p hp]
      constructor
      · rintro (rfl | ⟨z1, z2⟩)
        · exact ⟨by omega, q2⟩
        · exact ⟨by omega, z2⟩
      · rintro ⟨z1, z2⟩
        by_cases e : p = v
        · exact Or.inl e
        · exact Or.inr ⟨by omega, z2⟩
    · have q2 : σ 285 (24 * st + 6 * s + v) = σ 265 (6 * s + v) := qneF q2
      iterate 2 (refine kX_one rfl ?_)
      refine kX_lv _ rfl rfl rfl (k119 m i2 (fun p hp => ?_))
      rw [i3 p hp]
      constructor
      · rintro ⟨z1, z2⟩
        exact ⟨by omega, z2⟩
      · rintro ⟨z1, z2⟩
        refine ⟨?_, z2⟩
        have : p ≠ v := fun e => z2 (by rw [e]; exact q2)
        omega
/-- the ATTACK as it was noted -/
def akD (σ : kS) (n S : Nat) (as : List Nat) (fin : Nat → Nat → Int32) : Prop := lst (σ 288) as ∧
  (∀ s ∈ as, s < S ∧ as.count s ≤ fN (σ 247 (fN (σ 255 s))) ∧ ∀ k, k < 6 → bdv σ (fN (σ 255 s)) (as.count s) k → mVz σ n (fN (σ 255 s)) k (fin s k) ∧ (σ 246 (6 * fN (σ 255 s) + k) ≠ nI 2 → fin s k = σ 256 (6 * s + k))) ∧
  ∀ i (h : i < as.length), ∃ st, st < 600 ∧ σ 289 i = nI st ∧ ∀ k, k < 6 → σ 285 (24 * st + 6 * (as[i]'h) + k) = cit (bdv σ (fN (σ 255 (as[i]'h))) ((as.take i).count (as[i]'h) + 1) k) (fin (as[i]'h) k) (-6)
/-- the RUN is as far as k EVENTS of it -/
def plI (σ τ : kS) (n b R S C : Nat) (kl as : List Nat) (fin : Nat → Nat → Int32) (k : Nat) : Prop := (mTb τ n b ∧ mRo τ n R ∧ mSe τ n R S ∧ mKn τ n kl ∧ mCl τ R C) ∧ τ 232 52 = 1 ∧ τ 232 47 = 0 ∧ τ 232 72 = nI as.length ∧ akD τ n S as fin ∧ mRn τ n R S (as.take k) ∧ mBi τ (as.take k) ∧ (∀ s ∈ as, ∀ v, v < 6 → τ 265 (6 * s + v) = cit (bdv τ (fN (τ 255 s)) ((as.take k).count s) v) (fin s v) (-6)) ∧ mLow σ τ
theorem count_take_succ {as : List Nat} {k : Nat} (hk : k < as.length) : (as.take (k + 1)).count as[k] = (as.take k).count as[k] + 1 := by
  rw [List.take_succ_eq_append_getElem hk, List.count_append]
  simp
theorem pl_step {σ τ : kS} {n b R S C k st m : Nat} {kl as : List Nat} {fin : Nat → Nat → Int32} {V : Nat → Int32} (h : plI σ τ n b R S C kl as fin k) (hk : k < as.length) (h24 : as.length ≤ 24) (hst : τ 289 k = nI st) (hst6 : st < 600) (hm : m < 64) (hmb : ∀ p, p < 6 → (m / 2 ^ p % 2 = 1 ↔ τ 285 (24 * st + 6 * as[k] + p) ≠ τ 265 (6 * as[k] + p))) (hV : ∀ p, p < 6 → V (6 * as[k] + p) = τ 285 (24 * st + 6 * as[k] + p)) (hVo : ∀ j, (∀ p, p < 6 → j ≠ 6 * as[k] + p) → V j = τ 265 j) : plI σ (stS τ V as[k] k ((as.take k).count as[k]) (nI m)) n b R S C kl as fin (k + 1) := by
  obtain ⟨⟨h1, h2, h3, h4, h5⟩, h6, h7, h8, h9, h10, h11, h12, h13⟩ := h
  have hR4 := h2.1
  have hS4 := h3.1
  have hmem : as[k] ∈ as := List.getElem_mem hk
  have hlen : (as.take k).length = k := by rw [List.length_take]; omega
  have hcs := count_take_succ hk
  obtain ⟨s1, s2, s3⟩ := h9.2.1 _ hmem
  obtain ⟨st', t1, t2, t3⟩ := h9.2.2 k hk
  obtain rfl : st = st' := nI_inj (hst.symm.trans t2)
  obtain ⟨r, r1, r2, -⟩ := h3.2.2 _ s1
  have hfr : fN (τ 255 as[k]) = r := by rw [r2]; exact fN_nI (by omega)
  have hcle : (as.take k).count as[k] + 1 ≤ as.count as[k] := by
    rw [← hcs]
    exact count_take_le _ _ _
  rw [hfr] at s2 s3 t3
  have hz : ∀ p, p < 6 → bdv τ r ((as.take k).count as[k] + 1) p → mVz τ n r p (fin as[k] p) := fun p hp hb => (s3 p hp (bdv_mono hcle hb)).1
  have hval : ∀ p, p < 6 → V (6 * as[k] + p) = cit (bdv τ r ((as.take k).count as[k] + 1) p) (fin as[k] p) (-6) := fun p hp => (hV p hp).trans (t3 p hp)
  have hold : ∀ p, p < 6 → τ 265 (6 * as[k] + p) = cit (bdv τ r ((as.take k).count as[k]) p) (fin as[k] p) (-6) := fun p hp => by
    have := h12 _ hmem p hp
    rw [hfr] at this
    exact this
  have hp := mRn_push (V := V) (m := m) (bd := nI m) (s := as[k]) (r := r) h1 h2 hS4 h10 h11 s1 r1 r2 (by omega) hVo (fun p hp => ⟨fun hb => by
      rw [hval p hp, cit_T hb]
      exact hz p hp hb, fun hb => by
      rw [hval p hp, cit_F hb]⟩) hm rfl (fun p hp => by
      rw [hmb p hp, ← hV p hp, hval p hp, hold p hp]
      by_cases hb : bdv τ r ((as.take k).count as[k]) p
      · rw [cit_T hb, cit_T (bdv_mono (by omega) hb)]
        exact ⟨fun z => absurd rfl z, fun z => absurd hb z.2⟩
      · rw [cit_F hb]
        by_cases hb2 : bdv τ r ((as.take k).count as[k] + 1) p
        · rw [cit_T hb2]
          exact ⟨fun _ => ⟨hb2, hb⟩, fun _ => (mVz_ne h1 (hz p hp hb2)).1⟩
        · rw [cit_F hb2]
          exact ⟨fun z => absurd rfl z, fun z => absurd z.1 hb2⟩)
  rw [hlen] at hp
  have htk : as.take k ++ [as[k]] = as.take (k + 1) := (List.take_succ_eq_append_getElem hk).symm
  rw [htk] at hp
  refine ⟨⟨h1, h2, h3, h4, h5⟩, h6, h7, h8, h9, hp.1, hp.2, fun s hs v hv => ?_, fun c hc => ?_⟩
  · show V (6 * s + v) = cit (bdv τ (fN (τ 255 s)) ((as.take (k + 1)).count s) v) (fin s v) (-6)
    by_cases e : s = as[k]
    · rw [e, hfr, hcs]
      exact hval v hv
    · have ec : (as.take (k + 1)).count s = (as.take k).count s := by
        rw [← htk, List.count_append]
        simp [Ne.symm e]
      rw [ec, hVo _ (fun p hp => by omega)]
      exact h12 s hs v hv
  · have := h13 c hc
    rw [← this]
    unfold stS va_up
    rw [if_neg (by omega), if_neg (by omega), if_neg (by omega), if_neg (by omega), if_neg (by omega)]
end
section
/-! the class: TERMS -/
/-- where a TERM's chain begins -/
def cSl (w x y : Int32) : Int32 := ((x * 37 + y) * 11 + w) &&& 255
theorem cSl_lt (w x y : Int32) : ∃ k, k < 256 ∧ cSl w x y = nI k := pk_andE _ (m := 255) 8 (by decide)
theorem rF {P : Prop} (h : ¬ P) : some (Value.int (Int32.ofInt 0)) = some (Value.int (isB P)) := by rw [isB_F h]; rfl
theorem rT {P : Prop} (h : P) : some (Value.int (Int32.ofInt 1)) = some (Value.int (isB P)) := by rw [isB_T h]; rfl
set_option maxRecDepth 100000 in
set_option maxHeartbeats 4000000 in
theorem mc_slot (L : Nat) (xs : Nat → Int32) (d : Nat) (σ : kS) (w x y : Int32) : kXM kT L xs (d + 1) 94 [.int w, .int x, .int y] σ (fun r σ' => r = some (.int (cSl w x y)) ∧ σ = σ') := by
  unfold kXM
  repeat refine kX_one rfl ?_
  refine kX_ret (i := .ireturn) (len := 1) rfl (Or.inr rfl) rfl (⟨rfl, rfl⟩)
set_option maxRecDepth 100000 in
set_option maxHeartbeats 4000000 in
theorem mc_has (L : Nat) (xs : Nat → Int32) (d : Nat) (σ : kS) (n : Nat) (x : Int32) (hn : n ≤ 200) (h : σ 1 11 = nI n) : kXM kT L xs (d + 1) 95 [.ref 1, .int x] σ (fun r σ' => r = some (.int (isB (isN x n))) ∧ σ = σ') := by
  unfold kXM
  repeat refine kX_one rfl ?_
  refine kX_if (fun q => ?_) (fun q => ?_)
  · have q : x < 0 := of_decide_eq_true q
    repeat refine kX_one rfl ?_
    refine kX_ret (i := .ireturn) (len := 1) rfl (Or.inr rfl) rfl ⟨rF (fun z => ?_), rfl⟩
    obtain ⟨j, j1, rfl⟩ := z
    exact nI_pos (by omega) q
  · have q : ¬ x < 0 := of_decide_eq_false q
    obtain ⟨j, hj, rfl⟩ := nI_of q
    iterate 3 (refine kX_one rfl ?_)
    refine kX_top (h) ?_
    repeat refine kX_one rfl ?_
    refine kX_if (fun q2 => ?_) (fun q2 => ?_)
    · have q2 := qge q2 j n
      repeat refine kX_one rfl ?_
      refine kX_ret (i := .ireturn) (len := 1) rfl (Or.inr rfl) rfl ⟨rF (fun z => ?_), rfl⟩
      obtain ⟨j', j1, e⟩ := z
      have := nI_inj e
      omega
    · have q2 := qgeF q2 j n
      repeat refine kX_one rfl ?_
      refine kX_ret (i := .ireturn) (len := 1) rfl (Or.inr rfl) rfl (⟨rT (⟨j, q2, rfl⟩), rfl⟩)
set_option maxRecDepth 100000 in
set_option maxHeartbeats 4000000 in
theorem mc_isFull (L : Nat) (xs : Nat → Int32) (d : Nat) (σ : kS) (n : Nat) (hn : n ≤ 200) (h : σ 1 11 = nI n) : kXM kT L xs (d + 1) 96 [.ref 1] σ (fun r σ' => r = some (.int (isB (n = 200))) ∧ σ = σ') := by
  unfold kXM
  iterate 2 (refine kX_one rfl ?_)
  refine kX_top (h) ?_
  repeat refine kX_one rfl ?_
  refine kX_if (fun q => ?_) (fun q => ?_)
  · have q := qlt q n 200
    repeat refine kX_one rfl ?_
    refine kX_ret (i := .ireturn) (len := 1) rfl (Or.inr rfl) rfl (⟨rF ((fun z => by omega)), rfl⟩)
  · have q := qltF q n 200
    repeat refine kX_one rfl ?_
    refine kX_ret (i := .ireturn) (len := 1) rfl (Or.inr rfl) rfl (⟨rT ((by omega)), rfl⟩)
set_option maxRecDepth 100000 in
set_option maxHeartbeats 4000000 in
theorem mc_isAgent (L : Nat) (xs : Nat → Int32) (d : Nat) (σ : kS) (n : Nat) (x : Int32) (hn : n ≤ 200) (h : σ 1 11 = nI n) : kXM kT L xs (d + 2) 97 [.ref 1, .int x] σ (fun r σ' => r = some (.int (isB (∃ t, t < n ∧ x = nI t ∧ σ 2 t = 0))) ∧ σ = σ') := by
  unfold kXM
  iterate 2 (refine kX_one rfl ?_)
  refine kX_cal (mc_has L xs d σ n x hn h) rfl (Or.inr rfl) rfl rfl rfl (fun r1 σ1 q1 => ?_)
  obtain ⟨rfl, rfl⟩ := q1
  repeat refine kX_one rfl ?_
  refine kX_if (fun q => ?_) (fun q => ?_)
  · have q : ¬ isN x n := fun z => isB_ne.mpr z (qeq q)
    repeat refine kX_one rfl ?_
    refine kX_ret (i := .ireturn) (len := 1) rfl (Or.inr rfl) rfl (⟨rF ((fun z => q (by obtain ⟨t, t1, t2, -⟩ := z; exact ⟨t, t1, t2⟩))), rfl⟩)
  · obtain ⟨t, t1, rfl⟩ := isB_ne.mp (qeqF q)
    iterate 3 (refine kX_one rfl ?_)
    refine kX_ialdN rfl rfl (by decide) (t) (by first | rfl | decide) (by omega) ?_
    repeat refine kX_one rfl ?_
    refine kX_if (fun q2 => ?_) (fun q2 => ?_)
    · have q2 : σ 2 t ≠ 0 := qne q2
      repeat refine kX_one rfl ?_
      refine kX_ret (i := .ireturn) (len := 1) rfl (Or.inr rfl) rfl ⟨rF (fun z => ?_), rfl⟩
      obtain ⟨u, u1, u2, u3⟩ := z
      obtain rfl : t = u := nI_inj u2
      exact q2 u3
    · have q2 : σ 2 t = 0 := qneF q2
      repeat refine kX_one rfl ?_
      refine kX_ret (i := .ireturn) (len := 1) rfl (Or.inr rfl) rfl (⟨rT (⟨t, t1, rfl, q2⟩), rfl⟩)
set_option maxRecDepth 100000 in
set_option maxHeartbeats 4000000 in
theorem mc_isHonest (L : Nat) (xs : Nat → Int32) (d : Nat) (σ : kS) (n : Nat) (x : Int32) (hn : n ≤ 200) (h : σ 1 11 = nI n) : kXM kT L xs (d + 3) 98 [.ref 1, .int x] σ (fun r σ' => r = some (.int (isB (∃ t, t < n ∧ x = nI t ∧ σ 2 t = 0 ∧ σ 9 t ≠ 0))) ∧ σ = σ') := by
  unfold kXM
  iterate 2 (refine kX_one rfl ?_)
  refine kX_cal (mc_isAgent L xs d σ n x hn h) rfl (Or.inr rfl) rfl rfl rfl (fun r1 σ1 q1 => ?_)
  obtain ⟨rfl, rfl⟩ := q1
  repeat refine kX_one rfl ?_
  refine kX_if (fun q => ?_) (fun q => ?_)
  · have q : ¬ ∃ t, t < n ∧ x = nI t ∧ σ 2 t = 0 := fun z => isB_ne.mpr z (qeq q)
    repeat refine kX_one rfl ?_
    refine kX_ret (i := .ireturn) (len := 1) rfl (Or.inr rfl) rfl (⟨rF ((fun z => q (by obtain ⟨t, t1, t2, t3, -⟩ := z; exact ⟨t, t1, t2, t3⟩))), rfl⟩)
  · obtain ⟨t, t1, rfl, t3⟩ := isB_ne.mp (qeqF q)
    iterate 3 (refine kX_one rfl ?_)
    refine kX_baldN rfl rfl (by decide) (t) (by first | rfl | decide) (by omega) ?_
    repeat refine kX_one rfl ?_
    refine kX_if (fun q2 => ?_) (fun q2 => ?_)
    · have q2 : σ 9 t = 0 := qeq q2
      repeat refine kX_one rfl ?_
      refine kX_ret (i := .ireturn) (len := 1) rfl (Or.inr rfl) rfl ⟨rF (fun z => ?_), rfl⟩
      obtain ⟨u, u1, u2, u3, u4⟩ := z
      obtain rfl : t = u := nI_inj u2
      exact u4 q2
    · have q2 : σ 9 t ≠ 0 := qeqF q2
      repeat refine kX_one rfl ?_
      refine kX_ret (i := .ireturn) (len := 1) rfl (Or.inr rfl) rfl (⟨rT (⟨t, t1, rfl, t3, q2⟩), rfl⟩)
set_option maxRecDepth 100000 in
set_option maxHeartbeats 4000000 in
theorem mc_mayBeAgent (L : Nat) (xs : Nat → Int32) (d : Nat) (σ : kS) (n t : Nat) (hn : n ≤ 200) (h : σ 1 11 = nI n) (ht : t < n) : kXM kT L xs (d + 3) 99 [.ref 1, .int (nI t)] σ (fun r σ' => r = some (.int (isB (σ 2 t = 0 ∨ (σ 2 t = 3 ∧ σ 11 t = 0)))) ∧ σ = σ') := by
  unfold kXM
  iterate 2 (refine kX_one rfl ?_)
  refine kX_cal (mc_isAgent L xs d σ n (nI t) hn h) rfl (Or.inr rfl) rfl rfl rfl (fun r1 σ1 q1 => ?_)
  obtain ⟨rfl, rfl⟩ := q1
  repeat refine kX_one rfl ?_
  refine kX_if (fun q => ?_) (fun q => ?_)
  · obtain ⟨u, u1, u2, u3⟩ := isB_ne.mp (qne q)
    obtain rfl : t = u := nI_inj u2
    repeat refine kX_one rfl ?_
    refine kX_ret (i := .ireturn) (len := 1) rfl (Or.inr rfl) rfl (⟨rT ((Or.inl u3)), rfl⟩)
  · have q : σ 2 t ≠ 0 := fun z => isB_ne.mpr ⟨t, ht, rfl, z⟩ (qneF q)
    iterate 2 (refine kX_one rfl ?_)
    refine kX_cal (mc_has L xs (d + 1) σ n (nI t) hn h) rfl (Or.inr rfl) rfl rfl rfl (fun r1 σ1 q1 => ?_)
    obtain ⟨rfl, rfl⟩ := q1
    repeat refine kX_one rfl ?_
    refine kX_ifF (by rw [isB_T ⟨t, ht, rfl⟩]; rfl) ?_
    iterate 3 (refine kX_one rfl ?_)
    refine kX_ialdN rfl rfl (by decide) (t) (by first | rfl | decide) (by omega) ?_
    iterate 1 (refine kX_one rfl ?_)
    repeat refine kX_one rfl ?_
    refine kX_if (fun q2 => ?_) (fun q2 => ?_)
    · have q2 : σ 2 t ≠ 3 := qne q2
      repeat refine kX_one rfl ?_
      refine kX_ret (i := .ireturn) (len := 1) rfl (Or.inr rfl) rfl (⟨rF ((fun z => z.elim q (fun z => q2 z.1))), rfl⟩)
    · have q2 : σ 2 t = 3 := qneF q2
      iterate 3 (refine kX_one rfl ?_)
      refine kX_ialdN rfl rfl (by decide) (t) (by first | rfl | decide) (by omega) ?_
      repeat refine kX_one rfl ?_
      refine kX_if (fun q3 => ?_) (fun q3 => ?_)
      · have q3 : σ 11 t ≠ 0 := qne q3
        repeat refine kX_one rfl ?_
        refine kX_ret (i := .ireturn) (len := 1) rfl (Or.inr rfl) rfl (⟨rF ((fun z => z.elim q (fun z => q3 z.2))), rfl⟩)
      · have q3 : σ 11 t = 0 := qneF q3
        repeat refine kX_one rfl ?_
        refine kX_ret (i := .ireturn) (len := 1) rfl (Or.inr rfl) rfl (⟨rT ((Or.inr ⟨q2, q3⟩)), rfl⟩)
set_option maxRecDepth 100000 in
set_option maxHeartbeats 4000000 in
theorem mc_isOpen (L : Nat) (xs : Nat → Int32) (d : Nat) (σ : kS) (n : Nat) (x : Int32) (hn : n ≤ 200) (h : σ 1 11 = nI n) : kXM kT L xs (d + 2) 100 [.ref 1, .int x] σ (fun r σ' => r = some (.int (isB (∃ t, t < n ∧ x = nI t ∧ σ 8 t = 0 ∧ σ 2 t ≠ 3))) ∧ σ = σ') := by
  unfold kXM
  iterate 2 (refine kX_one rfl ?_)
  refine kX_cal (mc_has L xs d σ n x hn h) rfl (Or.inr rfl) rfl rfl rfl (fun r1 σ1 q1 => ?_)
  obtain ⟨rfl, rfl⟩ := q1
  repeat refine kX_one rfl ?_
  refine kX_if (fun q => ?_) (fun q => ?_)
  · have q : ¬ isN x n := fun z => isB_ne.mpr z (qeq q)
    repeat refine kX_one rfl ?_
    refine kX_ret (i := .ireturn) (len := 1) rfl (Or.inr rfl) rfl (⟨rF ((fun z => q (by obtain ⟨t, t1, t2, -⟩ := z; exact ⟨t, t1, t2⟩))), rfl⟩)
  · obtain ⟨t, t1, rfl⟩ := isB_ne.mp (qeqF q)
    iterate 3 (refine kX_one rfl ?_)
    refine kX_baldN rfl rfl (by decide) (t) (by first | rfl | decide) (by omega) ?_
    repeat refine kX_one rfl ?_
    refine kX_if (fun q2 => ?_) (fun q2 => ?_)
    · have q2 : σ 8 t ≠ 0 := qne q2
      repeat refine kX_one rfl ?_
      refine kX_ret (i := .ireturn) (len := 1) rfl (Or.inr rfl) rfl ⟨rF (fun z => ?_), rfl⟩
      obtain ⟨u, u1, u2, u3, -⟩ := z
      obtain rfl : t = u := nI_inj u2
      exact q2 u3
    · have q2 : σ 8 t = 0 := qneF q2
      iterate 3 (refine kX_one rfl ?_)
      refine kX_ialdN rfl rfl (by decide) (t) (by first | rfl | decide) (by omega) ?_
      iterate 1 (refine kX_one rfl ?_)
      repeat refine kX_one rfl ?_
      refine kX_if (fun q3 => ?_) (fun q3 => ?_)
      · have q3 : σ 2 t = 3 := qeq q3
        repeat refine kX_one rfl ?_
        refine kX_ret (i := .ireturn) (len := 1) rfl (Or.inr rfl) rfl ⟨rF (fun z => ?_), rfl⟩
        obtain ⟨u, u1, u2, u3, u4⟩ := z
        obtain rfl : t = u := nI_inj u2
        exact u4 q3
      · have q3 : σ 2 t ≠ 3 := qeqF q3
        repeat refine kX_one rfl ?_
        refine kX_ret (i := .ireturn) (len := 1) rfl (Or.inr rfl) rfl (⟨rT (⟨t, t1, rfl, q2, q3⟩), rfl⟩)
set_option maxRecDepth 100000 in
set_option maxHeartbeats 4000000 in
theorem mc_sizeOf (L : Nat) (xs : Nat → Int32) (d : Nat) (σ : kS) (n : Nat) (x : Int32) (hn : n ≤ 200) (h : σ 1 11 = nI n) : kXM kT L xs (d + 2) 101 [.ref 1, .int x] σ (fun r σ' => (∃ y, r = some (.int y) ∧ (∀ t, t < n → x = nI t → y = σ 5 t) ∧ (¬ isN x n → y = 0)) ∧ σ = σ') := by
  unfold kXM
  iterate 2 (refine kX_one rfl ?_)
  refine kX_cal (mc_has L xs d σ n x hn h) rfl (Or.inr rfl) rfl rfl rfl (fun r1 σ1 q1 => ?_)
  obtain ⟨rfl, rfl⟩ := q1
  repeat refine kX_one rfl ?_
  refine kX_if (fun q => ?_) (fun q => ?_)
  · have q : ¬ isN x n := fun z => isB_ne.mpr z (qeq q)
    repeat refine kX_one rfl ?_
    refine kX_ret (i := .ireturn) (len := 1) rfl (Or.inr rfl) rfl (⟨⟨_, rfl, fun t t1 t2 => absurd ⟨t, t1, t2⟩ q, fun _ => rfl⟩, rfl⟩)
  · obtain ⟨t, t1, rfl⟩ := isB_ne.mp (qeqF q)
    iterate 3 (refine kX_one rfl ?_)
    refine kX_ialdN rfl rfl (by decide) (t) (by first | rfl | decide) (by omega) ?_
    repeat refine kX_one rfl ?_
    refine kX_ret (i := .ireturn) (len := 1) rfl (Or.inr rfl) rfl (⟨⟨_, rfl, fun u u1 u2 => by rw [nI_inj u2], fun z => absurd ⟨t, t1, rfl⟩ z⟩, rfl⟩)
end
section
/-! the class: its table of TERMS -/
/-- of what a TERM may be: nothing, an older TERM, or one without number -/
def cCh (t : Nat) (c : Int32) : Prop := c = -1 ∨ ∃ z, z < 2000 ∧ c = nI z ∧ (z < t ∨ 200 ≤ z)
def cG (σ : kS) (t : Nat) (c : Int32) : Prop := ∀ z, z < t → c = nI z → σ 8 z = 1
def cTt (σ : kS) (t : Nat) : Prop :=
  (∃ k, k ≤ 9 ∧ σ 2 t = nI k) ∧ cCh t (σ 3 t) ∧ cCh t (σ 4 t) ∧ (σ 8 t = 0 ∨ σ 8 t = 1) ∧
  (σ 2 t = nI 3 → σ 8 t = 0 ∧ ∃ p, p < 6 ∧ σ 12 t = nI p) ∧
  (σ 2 t ≠ nI 3 → (σ 8 t = 1 ↔ cG σ t (σ 3 t) ∧ cG σ t (σ 4 t))) ∧
  (fN (σ 2 t) ≤ 3 → σ 3 t = -1 ∧ σ 4 t = -1) ∧
  (4 ≤ fN (σ 2 t) → σ 8 t = 0 → ∃ x, x < t ∧ σ 3 t = nI x ∧ ((∃ y, y < t ∧ σ 4 t = nI y) ∨ (σ 4 t = -1 ∧ (σ 2 t = nI 7 ∨ σ 2 t = nI 9)))) ∧
  (4 ≤ fN (σ 2 t) → σ 6 t = -1 ∨ ∃ u, u < t ∧ σ 6 t = nI u ∧ 4 ≤ fN (σ 2 u))
/-- the class's table holds together: n TERMS -/
def cT (σ : kS) (n : Nat) : Prop := n ≤ 200 ∧ σ 1 11 = nI n ∧ (∀ s, s < 256 → σ 7 s = -1 ∨ ∃ t, t < n ∧ σ 7 s = nI t ∧ 4 ≤ fN (σ 2 t)) ∧ ∀ t, t < n → cTt σ t
theorem cTt_eq {σ τ : kS} {t : Nat} (h : ∀ u, u ≤ t → τ 2 u = σ 2 u ∧ τ 3 u = σ 3 u ∧ τ 4 u = σ 4 u ∧ τ 8 u = σ 8 u ∧ τ 12 u = σ 12 u ∧ τ 6 u = σ 6 u) (hT : cTt σ t) : cTt τ t := by
  obtain ⟨e1, e2, e3, e4, e5, e6⟩ := h t (Nat.le_refl _)
  have hG : ∀ c, cG τ t c ↔ cG σ t c := fun c => ⟨fun q z z1 z2 => by rw [← (h z (by omega)).2.2.2.1]; exact q z z1 z2, fun q z z1 z2 => by rw [(h z (by omega)).2.2.2.1]; exact q z z1 z2⟩
  unfold cTt
  rw [e1, e2, e3, e4, e5, e6, hG, hG]
  obtain ⟨a1, a2, a3, a4, a5, a6, a7, a8, a9⟩ := hT
  refine ⟨a1, a2, a3, a4, a5, a6, a7, a8, fun q => ?_⟩
  rcases a9 q with z | ⟨u, u1, u2, u3⟩
  · exact Or.inl z
  · exact Or.inr ⟨u, u1, u2, by rw [(h u (by omega)).1]; exact u3⟩
theorem cG_eq {σ τ : kS} {t : Nat} {c : Int32} (h : ∀ u, u < t → τ 8 u = σ 8 u) : cG τ t c ↔ cG σ t c := ⟨fun q z z1 z2 => by rw [← h z z1]; exact q z z1 z2, fun q z z1 z2 => by rw [h z z1]; exact q z z1 z2⟩
def cP3 (σ : kS) (n : Nat) (w x y : Int32) : kS := va_up (va_up (va_up σ 2 (upd (σ 2) n w)) 3 (upd (σ 3) n x)) 4 (upd (σ 4) n y)
def cPut (σ : kS) (n : Nat) (w x y z g : Int32) : kS := va_up (va_up (va_up (va_up (va_up (va_up (va_up σ 2 (upd (σ 2) n w)) 3 (upd (σ 3) n x)) 4 (upd (σ 4) n y)) 5 (upd (σ 5) n z)) 8 (upd (σ 8) n g)) 9 (upd (σ 9) n 0)) 1 (upd (σ 1) 11 (nI (n + 1)))
/-- a TERM more; V: the new TERM's own rows -/
theorem cT_push {σ τ : kS} {n : Nat} (h : cT σ n) (hn : n < 200) (hc : τ 1 11 = nI (n + 1)) (ho : ∀ u, u < n → τ 2 u = σ 2 u ∧ τ 3 u = σ 3 u ∧ τ 4 u = σ 4 u ∧ τ 8 u = σ 8 u ∧ τ 12 u = σ 12 u ∧ τ 6 u = σ 6 u) (hh : ∀ s, s < 256 → τ 7 s = σ 7 s ∨ (τ 7 s = nI n ∧ 4 ≤ fN (τ 2 n))) (ht : cTt τ n) : cT τ (n + 1) := by
  obtain ⟨h1, h2, h3, h4⟩ := h
  refine ⟨by omega, hc, fun s hs => ?_, fun t htn => ?_⟩
  · rcases hh s hs with e | ⟨e1, e2⟩
    · rw [e]
      rcases h3 s hs with q | ⟨t, t1, t2, t3⟩
      · exact Or.inl q
      · exact Or.inr ⟨t, by omega, t2, by rw [(ho t t1).1]; exact t3⟩
    · exact Or.inr ⟨n, by omega, e1, e2⟩
  · by_cases e : t = n
    · subst e
      exact ht
    · exact cTt_eq (fun u hu => ho u (by omega)) (h4 t (by omega))
theorem cT_01 {σ : kS} {n : Nat} (h : cT σ n) : ∀ z, z < n → σ 8 z = 0 ∨ σ 8 z = 1 := fun z hz => (h.2.2.2 z hz).2.2.2.1
theorem cG_m1 (σ : kS) (t : Nat) (ht : t ≤ 200) : cG σ t (-1) := fun z z1 z2 => absurd z2.symm (nI_m1 (by omega))
end
section
/-! the class: its invariant -/
/-- rows of values: nothing, or a GROUND TERM -/
def cV (σ : kS) (n S : Nat) (A : Nat → Int32) (base : Nat) : Prop := ∀ s k, s < S → k < 6 → A (base + 7 * s + 1 + k) = -1 ∨ ∃ z, z < n ∧ A (base + 7 * s + 1 + k) = nI z ∧ σ 8 z = 1
/-- an EVENT in the cells from a on -/
def cE (σ : kS) (n a : Nat) : Prop := ∃ t m q, t < n ∧ m ≤ 6 ∧ q ≤ 24 ∧ σ a 1 = nI t ∧ σ a 4 = nI m ∧ σ a 7 = nI q ∧ (∀ j, j < m → (∃ p, p < 6 ∧ σ (a + 1) j = nI p) ∧ (∃ so, so ≤ 3 ∧ σ (a + 2) j = nI so) ∧ ∃ f, f ≤ 24 ∧ σ (a + 4) (j + 1) = nI f) ∧ ∀ i, i < q → ∃ t', t' < n ∧ σ (a + 3) i = nI t'
def cR1 (σ : kS) (n r : Nat) : Prop := ∃ v e, v ≤ 6 ∧ e ≤ 6 ∧ σ (23 + 35 * r) 3 = nI v ∧ σ (23 + 35 * r) 5 = nI e ∧ (∀ k, k < v → ∃ so, so ≤ 3 ∧ σ (25 + 35 * r) k = nI so ∧ (σ (24 + 35 * r) k = 1 → so ≤ 2)) ∧ ∀ k, k < e → cE σ n (28 + 35 * r + 5 * k)
def cRo (σ : kS) (n R : Nat) : Prop := R ≤ 4 ∧ σ 13 2 = nI R ∧ ∀ r, r < R → cR1 σ n r
def cSe (σ : kS) (n R S : Nat) : Prop := S ≤ 4 ∧ σ 13 6 = nI S ∧ (∀ s, s < S → ∃ r, r < R ∧ σ 15 s = nI r) ∧ cV σ n S (σ 17) 0
def cCl (σ : kS) (C : Nat) : Prop := C ≤ 6 ∧ σ 13 8 = nI C ∧ ∀ c, c < C → (σ (163 + 3 * c) 0 ≠ 0 → ∃ v, v < 6 ∧ σ (163 + 3 * c) 3 = nI v) ∧ ∃ j, j ≤ 4 ∧ σ (163 + 3 * c) 6 = nI j ∧ ∀ i, i < j → (∃ x, x < 6 ∧ σ (164 + 3 * c) i = nI x) ∧ ∃ y, y < 6 ∧ σ (165 + 3 * c) i = nI y
def cKn (σ : kS) : Prop := ∃ k, k ≤ 20 ∧ σ 13 10 = nI k
/-- what an intruder has, in the cells from K on; its stretch begins at st -/
def cKe (σ : kS) (K st u : Nat) : Prop := (∀ s, s < 256 → σ (K + 1) s = -1 ∨ ∃ g, st ≤ g ∧ g < st + u ∧ σ (K + 1) s = nI g ∧ cSl (σ 2 g) (σ 3 g) (σ 4 g) = nI s) ∧ ∀ g, st ≤ g → g < st + u → (σ 6 g = -1 ∨ ∃ g', st ≤ g' ∧ g' < st + u ∧ σ 6 g = nI g') ∧ ∃ k, 4 ≤ k ∧ k ≤ 9 ∧ σ 2 g = nI k
def cKw (σ : kS) (K st : Nat) : Prop := σ K 1 = nI st ∧ ∃ u ln, u ≤ 576 ∧ ln ≤ 776 ∧ σ K 3 = nI u ∧ σ K 7 = nI ln ∧ (∀ i, i < ln → ∃ g, g < 1928 ∧ σ (K + 2) i = nI g) ∧ cKe σ K st u
/-- .. and what these are of is GROUND -/
def cKc (σ : kS) (n : Nat) (c : Int32) : Prop := c = -1 ∨ (∃ z, z < n ∧ c = nI z ∧ σ 8 z = 1) ∨ ∃ z, 200 ≤ z ∧ z < 2000 ∧ c = nI z
def cKg (σ : kS) (n st u : Nat) : Prop := ∀ g, st ≤ g → g < st + u → cKc σ n (σ 3 g) ∧ cKc σ n (σ 4 g)
def cRu (σ : kS) (n S : Nat) : Prop := σ 181 8 = 0 ∨ (σ 181 8 = 1 ∧ (∃ c, c ≤ 24 ∧ σ 181 7 = nI c ∧ ∀ i, i < c → ∃ s, s < S ∧ σ 183 i = nI s) ∧ cV σ n S (σ 182) 0 ∧ (σ 181 9 = -1 ∨ ∃ g, g ≤ n ∧ σ 181 9 = nI g ∧ (g = n → ∃ u, u ≤ 576 ∧ σ 186 3 = nI u ∧ cKg σ n 200 u)))
def cSr (σ : kS) (n S : Nat) : Prop := ∃ N, N ≤ 600 ∧ σ 196 5 = nI N ∧ (∀ i, i < N → cV σ n S (σ 197) (28 * i)) ∧ (∀ i, 0 < i → i < N → (∃ j, j < i ∧ σ 198 i = nI j) ∧ ∃ s, s < S ∧ σ 199 i = nI s) ∧ (σ 195 9 = -1 ∨ (0 < N ∧ ∃ ln, ln ≤ 24 ∧ σ 195 9 = nI ln ∧ ∀ k, k < ln → ∃ s, s < S ∧ σ 203 k = nI s))
def cQ (σ : kS) : Prop := (∀ j, j < 200 → σ 231 j = 0 ∨ σ 231 j = 1) ∧ ∃ v, v ≤ 22 ∧ σ 222 3 = nI v
/-- all of the class: n TERMS, R ROLES, S SESSIONS, C CLAIMS -/
def cJ (σ : kS) (n R S C : Nat) : Prop := cT σ n ∧ cRo σ n R ∧ cSe σ n R S ∧ cCl σ C ∧ cKn σ ∧ cKw σ 186 200 ∧ cKw σ 204 776 ∧ cKw σ 213 1352 ∧ cRu σ n S ∧ cSr σ n S ∧ cQ σ
/-- the reference's cells are as they were -/
def cHi (σ τ : kS) : Prop := ∀ c, 232 ≤ c → τ c = σ c
def tC : List Nat := [1, 2, 3, 4, 5, 6, 7, 8, 9, 10, 11, 12]
/-- TERMS may have come: n of them stay GROUND or not; nothing else has changed -/
def cGr (σ τ : kS) (n : Nat) : Prop := (∀ c, c ∉ tC → τ c = σ c) ∧ (∀ u, u < n → τ 8 u = σ 8 u) ∧ ∀ g, 200 ≤ g → τ 2 g = σ 2 g ∧ τ 3 g = σ 3 g ∧ τ 4 g = σ 4 g ∧ τ 6 g = σ 6 g
theorem cGr_refl (σ : kS) (n : Nat) : cGr σ σ n := ⟨fun _ _ => rfl, fun _ _ => rfl, fun _ _ => ⟨rfl, rfl, rfl, rfl⟩⟩
theorem cGr_trans {σ τ ρ : kS} {n m : Nat} (h1 : cGr σ τ n) (h2 : cGr τ ρ m) (hm : n ≤ m) : cGr σ ρ n := ⟨fun c hc => (h2.1 c hc).trans (h1.1 c hc), fun u hu => (h2.2.1 u (by omega)).trans (h1.2.1 u hu), fun g hg => ⟨(h2.2.2 g hg).1.trans (h1.2.2 g hg).1, (h2.2.2 g hg).2.1.trans (h1.2.2 g hg).2.1, (h2.2.2 g hg).2.2.1.trans (h1.2.2 g hg).2.2.1, (h2.2.2 g hg).2.2.2.trans (h1.2.2 g hg).2.2.2⟩⟩
theorem cGr_hi {σ τ : kS} {n : Nat} (h : cGr σ τ n) : cHi σ τ := fun c hc => h.1 c (fun q => by
  simp only [tC, List.mem_cons, List.not_mem_nil, or_false] at q
  omega)
theorem cV_gr {σ τ : kS} {n m S base : Nat} {A : Nat → Int32} (h : cGr σ τ n) (hm : n ≤ m) (hv : cV σ n S A base) : cV τ m S A base := fun s k hs hk => by
  rcases hv s k hs hk with q | ⟨z, z1, z2, z3⟩
  · exact Or.inl q
  · exact Or.inr ⟨z, by omega, z2, by rw [h.2.1 z z1]; exact z3⟩
theorem cE_up {σ τ : kS} {n m a : Nat} (hm : n ≤ m) (e : ∀ i, i < 5 → τ (a + i) = σ (a + i)) (h : cE σ n a) : cE τ m a := by
  obtain ⟨t, mm, q, h1, h2, h3, h4, h5, h6, h7, h8⟩ := h
  have e0 : τ a = σ a := e 0 (by omega)
  refine ⟨t, mm, q, by omega, h2, h3, by rw [e0]; exact h4, by rw [e0]; exact h5, by rw [e0]; exact h6, ?_, ?_⟩
  · rw [e 1 (by omega), e 2 (by omega), e 4 (by omega)]
    exact h7
  · rw [e 3 (by omega)]
    intro i hi
    obtain ⟨t', t1, t2⟩ := h8 i hi
    exact ⟨t', by omega, t2⟩
theorem tC_lt {c : Nat} (h : c ∈ tC) : c < 13 := by
  simp only [tC, List.mem_cons, List.not_mem_nil, or_false] at h
  omega
theorem cRo_gr {σ τ : kS} {n m R : Nat} (hm : n ≤ m) (e : ∀ c, 13 ≤ c → c < 163 → τ c = σ c) (h : cRo σ n R) : cRo τ m R := by
  obtain ⟨h1, h2, h3⟩ := h
  refine ⟨h1, by rw [e 13 (by omega) (by omega)]; exact h2, fun r hr => ?_⟩
  obtain ⟨v, ev, a1, a2, a3, a4, a5, a6⟩ := h3 r hr
  refine ⟨v, ev, a1, a2, by rw [e _ (by omega) (by omega)]; exact a3, by rw [e _ (by omega) (by omega)]; exact a4, by rw [e (25 + 35 * r) (by omega) (by omega), e (24 + 35 * r) (by omega) (by omega)]; exact a5, fun k hk => cE_up hm (fun i hi => e _ (by omega) (by omega)) (a6 k hk)⟩
theorem cKe_eq {σ τ : kS} {K st u : Nat} (hst : 200 ≤ st) (e1 : τ (K + 1) = σ (K + 1)) (e : ∀ g, 200 ≤ g → τ 2 g = σ 2 g ∧ τ 3 g = σ 3 g ∧ τ 4 g = σ 4 g ∧ τ 6 g = σ 6 g) (h : cKe σ K st u) : cKe τ K st u := by
  obtain ⟨h1, h2⟩ := h
  refine ⟨fun s hs => ?_, fun g g1 g2 => ?_⟩
  · rw [e1]
    rcases h1 s hs with q | ⟨g, q1, q2, q3, q4⟩
    · exact Or.inl q
    · refine Or.inr ⟨g, q1, q2, q3, ?_⟩
      rw [(e g (by omega)).1, (e g (by omega)).2.1, (e g (by omega)).2.2.1]
      exact q4
  · rw [(e g (by omega)).2.2.2, (e g (by omega)).1]
    exact h2 g g1 g2
theorem cKw_eq {σ τ : kS} {K st : Nat} (hst : 200 ≤ st) (e0 : τ K = σ K) (e1 : τ (K + 1) = σ (K + 1)) (e2 : τ (K + 2) = σ (K + 2)) (e : ∀ g, 200 ≤ g → τ 2 g = σ 2 g ∧ τ 3 g = σ 3 g ∧ τ 4 g = σ 4 g ∧ τ 6 g = σ 6 g) (h : cKw σ K st) : cKw τ K st := by
  obtain ⟨h1, u, ln, h2, h3, h4, h5, h6, h7⟩ := h
  exact ⟨by rw [e0]; exact h1, u, ln, h2, h3, by rw [e0]; exact h4, by rw [e0]; exact h5, by rw [e2]; exact h6, cKe_eq hst e1 e h7⟩
theorem cKg_gr {σ τ : kS} {n st u : Nat} (hst : 200 ≤ st) (h : cGr σ τ n) (hg : cKg σ n st u) : cKg τ n st u := fun g g1 g2 => by
  rw [(h.2.2 g (by omega)).2.1, (h.2.2 g (by omega)).2.2.1]
  have key : ∀ c, cKc σ n c → cKc τ n c := fun c hc => by
    rcases hc with q | ⟨z, z1, z2, z3⟩ | q
    · exact Or.inl q
    · exact Or.inr (Or.inl ⟨z, z1, z2, by rw [h.2.1 z z1]; exact z3⟩)
    · exact Or.inr (Or.inr q)
  exact ⟨key _ (hg g g1 g2).1, key _ (hg g g1 g2).2⟩
/-- TERMS may have come: all stays -/
theorem cJ_gr {σ τ : kS} {n m R S C : Nat} (h : cJ σ n R S C) (hG : cGr σ τ n) (hm : n ≤ m) (hT : cT τ m) : cJ τ m R S C := by
  obtain ⟨h1, h2, h3, h4, h5, h6, h7, h8, h9, h10, h11⟩ := h
  have e : ∀ c, 13 ≤ c → τ c = σ c := fun c hc => hG.1 c (fun q => by have := tC_lt q; omega)
  refine ⟨hT, cRo_gr hm (fun c c1 _ => e c c1) h2, ?_, ?_, ?_, cKw_eq (by decide) (e _ (by decide)) (e _ (by decide)) (e _ (by decide)) hG.2.2 h6, cKw_eq (by decide) (e _ (by decide)) (e _ (by decide)) (e _ (by decide)) hG.2.2 h7, cKw_eq (by decide) (e _ (by decide)) (e _ (by decide)) (e _ (by decide)) hG.2.2 h8, ?_, ?_, ?_⟩
  · obtain ⟨a1, a2, a3, a4⟩ := h3
    refine ⟨a1, by rw [e 13 (by decide)]; exact a2, by rw [e 15 (by decide)]; exact a3, ?_⟩
    rw [e 17 (by decide)]
    exact cV_gr hG hm a4
  · obtain ⟨a1, a2, a3⟩ := h4
    refine ⟨a1, by rw [e 13 (by decide)]; exact a2, fun c hc => ?_⟩
    rw [e (163 + 3 * c) (by omega), e (164 + 3 * c) (by omega), e (165 + 3 * c) (by omega)]
    exact a3 c hc
  · unfold cKn
    rw [e 13 (by decide)]
    exact h5
  · unfold cRu
    rw [e 181 (by decide), e 183 (by decide), e 182 (by decide), e 186 (by decide)]
    rcases h9 with q | ⟨q1, q2, q3, q4⟩
    · exact Or.inl q
    · refine Or.inr ⟨q1, q2, cV_gr hG hm q3, ?_⟩
      rcases q4 with q4 | ⟨g, g1, g2, g3⟩
      · exact Or.inl q4
      · refine Or.inr ⟨g, by omega, g2, fun hg => ?_⟩
        have hmn : m = n := by omega
        subst hmn
        obtain ⟨u, u1, u2, u3⟩ := g3 hg
        exact ⟨u, u1, u2, cKg_gr (by decide) hG u3⟩
  · obtain ⟨N, a1, a2, a3, a4, a5⟩ := h10
    refine ⟨N, a1, by rw [e 196 (by decide)]; exact a2, fun i hi => ?_, ?_, ?_⟩
    · rw [e 197 (by decide)]
      exact cV_gr hG hm (a3 i hi)
    · rw [e 198 (by decide), e 199 (by decide)]
      exact a4
    · rw [e 195 (by decide), e 203 (by decide)]
      exact a5
  · unfold cQ
    rw [e 231 (by decide), e 222 (by decide)]
    exact h11
end
section
/-! the class: new TERMS -/
theorem cGr_put (σ : kS) (n : Nat) (w x y z g : Int32) (hn : n < 200) : cGr σ (cPut σ n w x y z g) n := by
  refine ⟨fun c hc => ?_, fun u hu => pk_un (by omega), fun g hg => ⟨pk_un (by omega), pk_un (by omega), pk_un (by omega), rfl⟩⟩
  simp only [tC, List.mem_cons, List.not_mem_nil, or_false, not_or] at hc
  simp [cPut, va_up, hc]
theorem cGr_up {σ : kS} {n c : Nat} {f : Nat → Int32} (hc : c = 9 ∨ c = 10 ∨ c = 11 ∨ c = 12 ∨ c = 7) : cGr σ (va_up σ c f) n := by
  rcases hc with rfl | rfl | rfl | rfl | rfl
  all_goals
    refine ⟨fun e he => ?_, fun u hu => rfl, fun g hg => ⟨rfl, rfl, rfl, rfl⟩⟩
    simp only [tC, List.mem_cons, List.not_mem_nil, or_false, not_or] at he
    simp [va_up, he]
/-- the new TERM's own word, by its rows -/
theorem cTt_new {τ : kS} {n k : Nat} {x y g : Int32} (e1 : τ 2 n = nI k) (e2 : τ 3 n = x) (e3 : τ 4 n = y) (e4 : τ 8 n = g) (hk : k ≤ 9) (hx : cCh n x) (hy : cCh n y) (hg : g = 0 ∨ g = 1) (h3 : k = 3 → g = 0 ∧ ∃ p, p < 6 ∧ τ 12 n = nI p) (hgc : k ≠ 3 → (g = 1 ↔ cG τ n x ∧ cG τ n y)) (hl : k ≤ 3 → x = -1 ∧ y = -1) (ho : 4 ≤ k → g = 0 → ∃ x', x' < n ∧ x = nI x' ∧ ((∃ y', y' < n ∧ y = nI y') ∨ (y = -1 ∧ (k = 7 ∨ k = 9)))) (hnx : 4 ≤ k → τ 6 n = -1 ∨ ∃ u, u < n ∧ τ 6 n = nI u ∧ 4 ≤ fN (τ 2 u)) : cTt τ n := by
  have hf : fN (nI k) = k := fN_nI (by omega)
  have h3' : nI k = nI 3 ↔ k = 3 := ⟨fun q => nI_inj q, fun q => by rw [q]⟩
  unfold cTt
  rw [e1, e2, e3, e4, hf]
  refine ⟨⟨k, hk, rfl⟩, hx, hy, hg, fun q => h3 (h3'.mp q), fun q => hgc (fun z => q (h3'.mpr z)), hl, fun q q2 => ?_, hnx⟩
  obtain ⟨x', x1, x2, x3⟩ := ho q q2
  refine ⟨x', x1, x2, ?_⟩
  rcases x3 with x3 | ⟨x3, x4⟩
  · exact Or.inl x3
  · exact Or.inr ⟨x3, x4.elim (fun z => Or.inl (by rw [z])) (fun z => Or.inr (by rw [z]))⟩
end
section
/-! the class: calls about TERMS -/
set_option maxRecDepth 100000 in
set_option maxHeartbeats 4000000 in
theorem mc_asNumber (L : Nat) (xs : Nat → Int32) (d : Nat) (σ : kS) (x : Int32) : kXM kT L xs (d + 1) 139 [.int x] σ (fun r σ' => r = some (.int (isB (x ≠ 0))) ∧ σ = σ') := by
  unfold kXM
  repeat refine kX_one rfl ?_
  refine kX_if (fun q => ?_) (fun q => ?_)
  · have q : x = 0 := qeq q
    repeat refine kX_one rfl ?_
    refine kX_ret (i := .ireturn) (len := 1) rfl (Or.inr rfl) rfl (⟨rF (fun z => z q), rfl⟩)
  · have q : x ≠ 0 := qeqF q
    repeat refine kX_one rfl ?_
    refine kX_ret (i := .ireturn) (len := 1) rfl (Or.inr rfl) rfl (⟨rT q, rfl⟩)
set_option maxRecDepth 100000 in
set_option maxHeartbeats 4000000 in
theorem mc_orNone (L : Nat) (xs : Nat → Int32) (d : Nat) (σ : kS) (x : Int32) : kXM kT L xs (d + 1) 140 [.int x] σ (fun r σ' => r = some (.int (if x = -1 then -6 else x)) ∧ σ = σ') := by
  unfold kXM
  repeat refine kX_one rfl ?_
  refine kX_if (fun q => ?_) (fun q => ?_)
  · have q : x ≠ -1 := qne q
    repeat refine kX_one rfl ?_
    refine kX_ret (i := .ireturn) (len := 1) rfl (Or.inr rfl) rfl (⟨by rw [if_neg q], rfl⟩)
  · have q : x = -1 := qneF q
    repeat refine kX_one rfl ?_
    refine kX_ret (i := .ireturn) (len := 1) rfl (Or.inr rfl) rfl (⟨by rw [if_pos q]; rfl, rfl⟩)
end
section
/-! the class: symbolic cells; ROLES -/
theorem jcall_v {k idx kd y n : Nat} {st rest : List Value} {T : List jC} {a ci : Nat} {ts : List Value} (hm : jm_mth k idx = some (kd, y, n)) (hk : decide ((kd = 0 ∨ kd = 3) ∧ n ≤ st.length) = true) (hd : st.drop n = .ref a :: rest) (ha : T[a]? = some (.inr (ci, ts))) (ho : decide (jm_own y = ci ∧ (rest.map fun v => v.category).sum ≤ 8) = true) {as : List Value} (hs : .ref a :: (st.take n).reverse = as) : jcall k st T (.invokevirtual idx) = some (y, as, rest) := by
  subst hs
  unfold jcall
  dsimp only
  rw [hm]
  dsimp only
  rw [if_pos (of_decide_eq_true hk), hd]
  dsimp only
  rw [ha]
  dsimp only
  rw [if_pos (of_decide_eq_true ho)]
theorem kT_ro {r : Nat} (h : r < 4) : kT[23 + 35 * r]? = some (.inr (5, [.ref (24 + 35 * r), .ref (25 + 35 * r), .ref (26 + 35 * r), .int 0, .ref (27 + 35 * r), .int 0, .int 0])) := by
  obtain rfl | rfl | rfl | rfl : r = 0 ∨ r = 1 ∨ r = 2 ∨ r = 3 := by omega
  all_goals rfl
theorem kT_ra {r : Nat} (h : r < 4) : kT[24 + 35 * r]? = some (.inl (0, 6, .inl (fun _ => 0))) := by
  obtain rfl | rfl | rfl | rfl : r = 0 ∨ r = 1 ∨ r = 2 ∨ r = 3 := by omega
  all_goals rfl
theorem kT_rs {r : Nat} (h : r < 4) : kT[25 + 35 * r]? = some (.inl (0, 6, .inl (fun _ => 0))) := by
  obtain rfl | rfl | rfl | rfl : r = 0 ∨ r = 1 ∨ r = 2 ∨ r = 3 := by omega
  all_goals rfl
theorem kT_rr {r : Nat} (h : r < 4) : kT[26 + 35 * r]? = some (.inl (1, 6, .inl (fun _ => 0))) := by
  obtain rfl | rfl | rfl | rfl : r = 0 ∨ r = 1 ∨ r = 2 ∨ r = 3 := by omega
  all_goals rfl
theorem kT_re {r : Nat} (h : r < 4) : kT[27 + 35 * r]? = some (.inl (4, 6, .inr (.inr (.inr (.inr (fun i => ([28 + 35 * r, 33 + 35 * r, 38 + 35 * r, 43 + 35 * r, 48 + 35 * r, 53 + 35 * r] : List Nat)[i]?)))))) := by
  obtain rfl | rfl | rfl | rfl : r = 0 ∨ r = 1 ∨ r = 2 ∨ r = 3 := by omega
  all_goals rfl
theorem ev_at {r k : Nat} (hk : k < 6) : (fun i => ([28 + 35 * r, 33 + 35 * r, 38 + 35 * r, 43 + 35 * r, 48 + 35 * r, 53 + 35 * r] : List Nat)[i]?) k = some (28 + 35 * r + 5 * k) := by
  obtain rfl | rfl | rfl | rfl | rfl | rfl : k = 0 ∨ k = 1 ∨ k = 2 ∨ k = 3 ∨ k = 4 ∨ k = 5 := by omega
  all_goals (show some _ = some _; congr 1 <;> omega)
theorem kT_ev {r k : Nat} (hr : r < 4) (hk : k < 6) : kT[28 + 35 * r + 5 * k]? = some (.inr (3, [.int 0, .int 0, .ref (28 + 35 * r + 5 * k + 1), .ref (28 + 35 * r + 5 * k + 2), .int 0, .ref (28 + 35 * r + 5 * k + 3), .ref (28 + 35 * r + 5 * k + 4), .int 0])) := by
  obtain rfl | rfl | rfl | rfl : r = 0 ∨ r = 1 ∨ r = 2 ∨ r = 3 := by omega
  all_goals
    obtain rfl | rfl | rfl | rfl | rfl | rfl : k = 0 ∨ k = 1 ∨ k = 2 ∨ k = 3 ∨ k = 4 ∨ k = 5 := by omega
    all_goals rfl
theorem kT_e1 {r k i : Nat} (hr : r < 4) (hk : k < 6) (hi : i = 1 ∨ i = 2) : kT[28 + 35 * r + 5 * k + i]? = some (.inl (0, 6, .inl (fun _ => 0))) := by
  obtain rfl | rfl | rfl | rfl : r = 0 ∨ r = 1 ∨ r = 2 ∨ r = 3 := by omega
  all_goals
    obtain rfl | rfl | rfl | rfl | rfl | rfl : k = 0 ∨ k = 1 ∨ k = 2 ∨ k = 3 ∨ k = 4 ∨ k = 5 := by omega
    all_goals
      rcases hi with rfl | rfl
      all_goals rfl
theorem kT_e3 {r k : Nat} (hr : r < 4) (hk : k < 6) : kT[28 + 35 * r + 5 * k + 3]? = some (.inl (0, 24, .inl (fun _ => 0))) ∧ kT[28 + 35 * r + 5 * k + 4]? = some (.inl (0, 7, .inl (fun _ => 0))) := by
  obtain rfl | rfl | rfl | rfl : r = 0 ∨ r = 1 ∨ r = 2 ∨ r = 3 := by omega
  all_goals
    obtain rfl | rfl | rfl | rfl | rfl | rfl : k = 0 ∨ k = 1 ∨ k = 2 ∨ k = 3 ∨ k = 4 ∨ k = 5 := by omega
    all_goals exact ⟨rfl, rfl⟩
theorem ro_at {r : Nat} (h : r < 4) : (fun i => ([23, 58, 93, 128] : List Nat)[i]?) r = some (23 + 35 * r) := by
  obtain rfl | rfl | rfl | rfl : r = 0 ∨ r = 1 ∨ r = 2 ∨ r = 3 := by omega
  all_goals rfl
theorem cl_at {c : Nat} (h : c < 6) : (fun i => ([163, 166, 169, 172, 175, 178] : List Nat)[i]?) c = some (163 + 3 * c) := by
  obtain rfl | rfl | rfl | rfl | rfl | rfl : c = 0 ∨ c = 1 ∨ c = 2 ∨ c = 3 ∨ c = 4 ∨ c = 5 := by omega
  all_goals rfl
theorem kT_cl {c : Nat} (h : c < 6) : kT[163 + 3 * c]? = some (.inr (2, [.int 0, .int 0, .int 0, .int 0, .ref (164 + 3 * c), .ref (165 + 3 * c), .int 0])) := by
  obtain rfl | rfl | rfl | rfl | rfl | rfl : c = 0 ∨ c = 1 ∨ c = 2 ∨ c = 3 ∨ c = 4 ∨ c = 5 := by omega
  all_goals rfl
theorem kT_c1 {c : Nat} (h : c < 6) : kT[164 + 3 * c]? = some (.inl (0, 4, .inl (fun _ => 0))) ∧ kT[165 + 3 * c]? = some (.inl (0, 4, .inl (fun _ => 0))) := by
  obtain rfl | rfl | rfl | rfl | rfl | rfl : c = 0 ∨ c = 1 ∨ c = 2 ∨ c = 3 ∨ c = 4 ∨ c = 5 := by omega
  all_goals exact ⟨rfl, rfl⟩
set_option maxRecDepth 100000 in
set_option maxHeartbeats 4000000 in
theorem mc_hasRole (L : Nat) (xs : Nat → Int32) (d : Nat) (σ : kS) (n : Nat) (x : Int32) (hn : n ≤ 4) (h : σ 13 2 = nI n) : kXM kT L xs (d + 1) 3 [.ref 13, .int x] σ (fun r σ' => r = some (.int (isB (isN x n))) ∧ σ = σ') := by
  unfold kXM
  repeat refine kX_one rfl ?_
  refine kX_if (fun q => ?_) (fun q => ?_)
  · have q : x < 0 := of_decide_eq_true q
    repeat refine kX_one rfl ?_
    refine kX_ret (i := .ireturn) (len := 1) rfl (Or.inr rfl) rfl ⟨rF (fun z => ?_), rfl⟩
    obtain ⟨j, j1, rfl⟩ := z
    exact nI_pos (by omega) q
  · have q : ¬ x < 0 := of_decide_eq_false q
    obtain ⟨j, hj, rfl⟩ := nI_of q
    iterate 3 (refine kX_one rfl ?_)
    refine kX_top (h) ?_
    repeat refine kX_one rfl ?_
    refine kX_if (fun q2 => ?_) (fun q2 => ?_)
    · have q2 := qge q2 j n
      repeat refine kX_one rfl ?_
      refine kX_ret (i := .ireturn) (len := 1) rfl (Or.inr rfl) rfl ⟨rF (fun z => ?_), rfl⟩
      obtain ⟨j', j1, e⟩ := z
      have := nI_inj e
      omega
    · have q2 := qgeF q2 j n
      repeat refine kX_one rfl ?_
      refine kX_ret (i := .ireturn) (len := 1) rfl (Or.inr rfl) rfl (⟨rT (⟨j, q2, rfl⟩), rfl⟩)
set_option maxRecDepth 100000 in
set_option maxHeartbeats 4000000 in
theorem mc_hasSession (L : Nat) (xs : Nat → Int32) (d : Nat) (σ : kS) (n : Nat) (x : Int32) (hn : n ≤ 4) (h : σ 13 6 = nI n) : kXM kT L xs (d + 1) 4 [.ref 13, .int x] σ (fun r σ' => r = some (.int (isB (isN x n))) ∧ σ = σ') := by
  unfold kXM
  repeat refine kX_one rfl ?_
  refine kX_if (fun q => ?_) (fun q => ?_)
  · have q : x < 0 := of_decide_eq_true q
    repeat refine kX_one rfl ?_
    refine kX_ret (i := .ireturn) (len := 1) rfl (Or.inr rfl) rfl ⟨rF (fun z => ?_), rfl⟩
    obtain ⟨j, j1, rfl⟩ := z
    exact nI_pos (by omega) q
  · have q : ¬ x < 0 := of_decide_eq_false q
    obtain ⟨j, hj, rfl⟩ := nI_of q
    iterate 3 (refine kX_one rfl ?_)
    refine kX_top (h) ?_
    repeat refine kX_one rfl ?_
    refine kX_if (fun q2 => ?_) (fun q2 => ?_)
    · have q2 := qge q2 j n
      repeat refine kX_one rfl ?_
      refine kX_ret (i := .ireturn) (len := 1) rfl (Or.inr rfl) rfl ⟨rF (fun z => ?_), rfl⟩
      obtain ⟨j', j1, e⟩ := z
      have := nI_inj e
      omega
    · have q2 := qgeF q2 j n
      repeat refine kX_one rfl ?_
      refine kX_ret (i := .ireturn) (len := 1) rfl (Or.inr rfl) rfl (⟨rT (⟨j, q2, rfl⟩), rfl⟩)
set_option maxRecDepth 100000 in
set_option maxHeartbeats 4000000 in
theorem mc_hasClaim (L : Nat) (xs : Nat → Int32) (d : Nat) (σ : kS) (n : Nat) (x : Int32) (hn : n ≤ 6) (h : σ 13 8 = nI n) : kXM kT L xs (d + 1) 5 [.ref 13, .int x] σ (fun r σ' => r = some (.int (isB (isN x n))) ∧ σ = σ') := by
  unfold kXM
  repeat refine kX_one rfl ?_
  refine kX_if (fun q => ?_) (fun q => ?_)
  · have q : x < 0 := of_decide_eq_true q
    repeat refine kX_one rfl ?_
    refine kX_ret (i := .ireturn) (len := 1) rfl (Or.inr rfl) rfl ⟨rF (fun z => ?_), rfl⟩
    obtain ⟨j, j1, rfl⟩ := z
    exact nI_pos (by omega) q
  · have q : ¬ x < 0 := of_decide_eq_false q
    obtain ⟨j, hj, rfl⟩ := nI_of q
    iterate 3 (refine kX_one rfl ?_)
    refine kX_top (h) ?_
    repeat refine kX_one rfl ?_
    refine kX_if (fun q2 => ?_) (fun q2 => ?_)
    · have q2 := qge q2 j n
      repeat refine kX_one rfl ?_
      refine kX_ret (i := .ireturn) (len := 1) rfl (Or.inr rfl) rfl ⟨rF (fun z => ?_), rfl⟩
      obtain ⟨j', j1, e⟩ := z
      have := nI_inj e
      omega
    · have q2 := qgeF q2 j n
      repeat refine kX_one rfl ?_
      refine kX_ret (i := .ireturn) (len := 1) rfl (Or.inr rfl) rfl (⟨rT (⟨j, q2, rfl⟩), rfl⟩)
set_option maxRecDepth 100000 in
set_option maxHeartbeats 4000000 in
theorem mc_roHas (L : Nat) (xs : Nat → Int32) (d : Nat) (σ : kS) (ro n : Nat) (x : Int32) (hr : ro < 4) (hn : n ≤ 6) (h : σ (23 + 35 * ro) 3 = nI n) : kXM kT L xs (d + 1) 62 [.ref (23 + 35 * ro), .int x] σ (fun r σ' => r = some (.int (isB (isN x n))) ∧ σ = σ') := by
  unfold kXM
  repeat refine kX_one rfl ?_
  refine kX_if (fun q => ?_) (fun q => ?_)
  · have q : x < 0 := of_decide_eq_true q
    repeat refine kX_one rfl ?_
    refine kX_ret (i := .ireturn) (len := 1) rfl (Or.inr rfl) rfl ⟨rF (fun z => ?_), rfl⟩
    obtain ⟨j, j1, rfl⟩ := z
    exact nI_pos (by omega) q
  · have q : ¬ x < 0 := of_decide_eq_false q
    obtain ⟨j, hj, rfl⟩ := nI_of q
    iterate 2 (refine kX_one rfl ?_)
    refine kX_getN rfl rfl (kT_ro hr) rfl ?_
    refine kX_top (h) ?_
    repeat refine kX_one rfl ?_
    refine kX_if (fun q2 => ?_) (fun q2 => ?_)
    · have q2 := qge q2 j n
      repeat refine kX_one rfl ?_
      refine kX_ret (i := .ireturn) (len := 1) rfl (Or.inr rfl) rfl ⟨rF (fun z => ?_), rfl⟩
      obtain ⟨j', j1, e⟩ := z
      have := nI_inj e
      omega
    · have q2 := qgeF q2 j n
      repeat refine kX_one rfl ?_
      refine kX_ret (i := .ireturn) (len := 1) rfl (Or.inr rfl) rfl (⟨rT (⟨j, q2, rfl⟩), rfl⟩)
set_option maxRecDepth 100000 in
set_option maxHeartbeats 4000000 in
theorem mc_hasVariable (L : Nat) (xs : Nat → Int32) (d : Nat) (σ : kS) (n R : Nat) (x y : Int32) (h : cRo σ n R) : kXM kT L xs (d + 2) 6 [.ref 13, .int x, .int y] σ (fun r σ' => r = some (.int (isB (∃ ro v, ro < R ∧ x = nI ro ∧ v < 6 ∧ y = nI v ∧ v < fN (σ (23 + 35 * ro) 3)))) ∧ σ = σ') := by
  have hR := h.1
  unfold kXM
  iterate 2 (refine kX_one rfl ?_)
  refine kX_cal (mc_hasRole L xs d σ R x hR h.2.1) rfl (Or.inr rfl) rfl rfl rfl (fun r1 σ1 q1 => ?_)
  obtain ⟨rfl, rfl⟩ := q1
  repeat refine kX_one rfl ?_
  refine kX_if (fun q => ?_) (fun q => ?_)
  · have q : ¬ isN x R := fun z => isB_ne.mpr z (qeq q)
    repeat refine kX_one rfl ?_
    refine kX_ret (i := .ireturn) (len := 1) rfl (Or.inr rfl) rfl (⟨rF (fun z => q (by obtain ⟨ro, v, r1, r2, -⟩ := z; exact ⟨ro, r1, r2⟩)), rfl⟩)
  · obtain ⟨ro, r1, rfl⟩ := isB_ne.mp (qeqF q)
    obtain ⟨v, e, v1, e1, v2, e2, -⟩ := h.2.2 ro r1
    iterate 3 (refine kX_one rfl ?_)
    refine kX_aaldN rfl (rfl) (by decide) (by decide) (by decide) (ro) (by first | rfl | decide) (by omega) (ro_at (by omega)) ?_
    iterate 1 (refine kX_one rfl ?_)
    refine kX_cal (mc_roHas L xs d σ ro v y (by omega) v1 v2) rfl (Or.inr rfl) rfl (jcall_v rfl rfl rfl (kT_ro (r := ro) (by omega)) rfl rfl) rfl (fun r1 σ1 q1 => ?_)
    obtain ⟨rfl, rfl⟩ := q1
    repeat refine kX_one rfl ?_
    refine kX_if (fun q => ?_) (fun q => ?_)
    · have q : ¬ isN y v := fun z => isB_ne.mpr z (qeq q)
      repeat refine kX_one rfl ?_
      refine kX_ret (i := .ireturn) (len := 1) rfl (Or.inr rfl) rfl ⟨rF (fun z => q ?_), rfl⟩
      obtain ⟨ro', v', a1, a2, a3, a4, a5⟩ := z
      obtain rfl : ro = ro' := nI_inj a2
      rw [v2, fN_nI (by omega)] at a5
      exact ⟨v', a5, a4⟩
    · obtain ⟨v', a1, rfl⟩ := isB_ne.mp (qeqF q)
      repeat refine kX_one rfl ?_
      refine kX_ret (i := .ireturn) (len := 1) rfl (Or.inr rfl) rfl (⟨rT ⟨ro, v', r1, rfl, by omega, rfl, by rw [v2, fN_nI (by omega)]; exact a1⟩, rfl⟩)
/-- a ROLE has changed -/
theorem cR1_eq {σ τ : kS} {n r : Nat} (e : ∀ c, 23 + 35 * r ≤ c → c < 58 + 35 * r → τ c = σ c) (h : cR1 σ n r) : cR1 τ n r := by
  obtain ⟨v, ev, a1, a2, a3, a4, a5, a6⟩ := h
  refine ⟨v, ev, a1, a2, by rw [e _ (by omega) (by omega)]; exact a3, by rw [e _ (by omega) (by omega)]; exact a4, by rw [e (25 + 35 * r) (by omega) (by omega), e (24 + 35 * r) (by omega) (by omega)]; exact a5, fun k hk => cE_up (Nat.le_refl _) (fun i hi => e _ (by omega) (by omega)) (a6 k hk)⟩
theorem cJ_lo {σ τ : kS} {n R R' S C : Nat} (h : cJ σ n R S C) (e : ∀ c, c < 13 ∨ 163 ≤ c ∨ (c = 15 ∨ c = 17) → τ c = σ c) (e13 : ∀ j, j ≠ 2 → τ 13 j = σ 13 j) (hR : cRo τ n R') (hRR : R ≤ R') : cJ τ n R' S C := by
  obtain ⟨h1, h2, h3, h4, h5, h6, h7, h8, h9, h10, h11⟩ := h
  have et : ∀ c, c < 13 → τ c = σ c := fun c hc => e c (Or.inl hc)
  have eh : ∀ c, 163 ≤ c → τ c = σ c := fun c hc => e c (Or.inr (Or.inl hc))
  have hgr : τ 8 = σ 8 := et _ (by decide)
  have hcv : ∀ A base, cV σ n S A base → cV τ n S A base := fun A base q => by
    unfold cV
    rw [hgr]
    exact q
  have hgt : ∀ g, 200 ≤ g → τ 2 g = σ 2 g ∧ τ 3 g = σ 3 g ∧ τ 4 g = σ 4 g ∧ τ 6 g = σ 6 g := fun g _ => by
    rw [et 2 (by decide), et 3 (by decide), et 4 (by decide), et 6 (by decide)]
    exact ⟨rfl, rfl, rfl, rfl⟩
  refine ⟨?_, hR, ?_, ?_, ?_, cKw_eq (by decide) (eh _ (by decide)) (eh _ (by decide)) (eh _ (by decide)) hgt h6, cKw_eq (by decide) (eh _ (by decide)) (eh _ (by decide)) (eh _ (by decide)) hgt h7, cKw_eq (by decide) (eh _ (by decide)) (eh _ (by decide)) (eh _ (by decide)) hgt h8, ?_, ?_, ?_⟩
  · obtain ⟨a1, a2, a3, a4⟩ := h1
    refine ⟨a1, by rw [et 1 (by decide)]; exact a2, ?_, fun t ht => cTt_eq (fun u hu => ?_) (a4 t ht)⟩
    · rw [et 7 (by decide), et 2 (by decide)]
      exact a3
    · rw [et 2 (by decide), et 3 (by decide), et 4 (by decide), et 8 (by decide), et 12 (by decide), et 6 (by decide)]
      exact ⟨rfl, rfl, rfl, rfl, rfl, rfl⟩
  · obtain ⟨a1, a2, a3, a4⟩ := h3
    refine ⟨a1, by rw [e13 _ (by decide)]; exact a2, ?_, ?_⟩
    · rw [e 15 (Or.inr (Or.inr (by decide)))]
      intro s hs
      obtain ⟨r, r1, r2⟩ := a3 s hs
      exact ⟨r, by omega, r2⟩
    · rw [e 17 (Or.inr (Or.inr (by decide)))]
      exact hcv _ _ a4
  · obtain ⟨a1, a2, a3⟩ := h4
    refine ⟨a1, by rw [e13 _ (by decide)]; exact a2, fun c hc => ?_⟩
    rw [eh (163 + 3 * c) (by omega), eh (164 + 3 * c) (by omega), eh (165 + 3 * c) (by omega)]
    exact a3 c hc
  · unfold cKn
    rw [e13 _ (by decide)]
    exact h5
  · unfold cRu
    rw [eh 181 (by decide), eh 183 (by decide), eh 182 (by decide), eh 186 (by decide)]
    rcases h9 with q | ⟨q1, q2, q3, q4⟩
    · exact Or.inl q
    · refine Or.inr ⟨q1, q2, hcv _ _ q3, ?_⟩
      rcases q4 with q4 | ⟨g, g1, g2, g3⟩
      · exact Or.inl q4
      · refine Or.inr ⟨g, g1, g2, fun hg => ?_⟩
        obtain ⟨u, u1, u2, u3⟩ := g3 hg
        refine ⟨u, u1, u2, ?_⟩
        unfold cKg cKc
        rw [hgr, et 3 (by decide), et 4 (by decide)]
        exact u3
  · obtain ⟨N, a1, a2, a3, a4, a5⟩ := h10
    refine ⟨N, a1, by rw [eh 196 (by decide)]; exact a2, fun i hi => ?_, ?_, ?_⟩
    · rw [eh 197 (by decide)]
      exact hcv _ _ (a3 i hi)
    · rw [eh 198 (by decide), eh 199 (by decide)]
      exact a4
    · rw [eh 195 (by decide), eh 203 (by decide)]
      exact a5
  · unfold cQ
    rw [eh 231 (by decide), eh 222 (by decide)]
    exact h11
theorem cJ_ro {σ τ : kS} {n R S C r : Nat} (h : cJ σ n R S C) (hr : r < R) (e : ∀ c, c < 23 + 35 * r ∨ 58 + 35 * r ≤ c → τ c = σ c) (h1 : cR1 τ n r) : cJ τ n R S C := by
  have hR4 := h.2.1.1
  refine cJ_lo h (fun c hc => e c (by omega)) (fun j _ => by rw [e 13 (by omega)]) ⟨hR4, by rw [e 13 (by omega)]; exact h.2.1.2.1, fun r' hr' => ?_⟩ (Nat.le_refl _)
  by_cases q : r' = r
  · subst q
    exact h1
  · exact cR1_eq (fun c c1 c2 => e c (by omega)) (h.2.1.2.2 r' hr')
end
section
/-! the class: what hangs on which cells; simple calls -/
theorem cT_eq {σ τ : kS} {n : Nat} (e0 : τ 1 11 = σ 1 11) (e1 : τ 7 = σ 7) (e : ∀ u, u < n → τ 2 u = σ 2 u ∧ τ 3 u = σ 3 u ∧ τ 4 u = σ 4 u ∧ τ 8 u = σ 8 u ∧ τ 12 u = σ 12 u ∧ τ 6 u = σ 6 u) (h : cT σ n) : cT τ n := by
  obtain ⟨a1, a2, a3, a4⟩ := h
  refine ⟨a1, e0.trans a2, fun s hs => ?_, fun t ht => cTt_eq (fun u hu => e u (by omega)) (a4 t ht)⟩
  rw [e1]
  rcases a3 s hs with q | ⟨t, t1, t2, t3⟩
  · exact Or.inl q
  · exact Or.inr ⟨t, t1, t2, by rw [(e t t1).1]; exact t3⟩
theorem cV_eq {σ τ : kS} {n S base : Nat} {A : Nat → Int32} (e : ∀ z, z < n → τ 8 z = σ 8 z) (h : cV σ n S A base) : cV τ n S A base := fun s k hs hk => by
  rcases h s k hs hk with q | ⟨z, z1, z2, z3⟩
  · exact Or.inl q
  · exact Or.inr ⟨z, z1, z2, by rw [e z z1]; exact z3⟩
theorem cSe_eq {σ τ : kS} {n R S : Nat} (e : ∀ z, z < n → τ 8 z = σ 8 z) (e1 : τ 13 6 = σ 13 6) (e2 : τ 15 = σ 15) (e3 : τ 17 = σ 17) (h : cSe σ n R S) : cSe τ n R S := by
  obtain ⟨a1, a2, a3, a4⟩ := h
  refine ⟨a1, e1.trans a2, by rw [e2]; exact a3, ?_⟩
  rw [e3]
  exact cV_eq e a4
theorem cCl_eq {σ τ : kS} {C : Nat} (e1 : τ 13 8 = σ 13 8) (e : ∀ c, 163 ≤ c → c < 181 → τ c = σ c) (h : cCl σ C) : cCl τ C := by
  obtain ⟨a1, a2, a3⟩ := h
  refine ⟨a1, e1.trans a2, fun c hc => ?_⟩
  rw [e (163 + 3 * c) (by omega) (by omega), e (164 + 3 * c) (by omega) (by omega), e (165 + 3 * c) (by omega) (by omega)]
  exact a3 c hc
theorem cKn_eq {σ τ : kS} (e1 : τ 13 10 = σ 13 10) (h : cKn σ) : cKn τ := by
  obtain ⟨k, k1, k2⟩ := h
  exact ⟨k, k1, e1.trans k2⟩
theorem cKg_eq {σ τ : kS} {n st u : Nat} (e : ∀ z, z < n → τ 8 z = σ 8 z) (e2 : ∀ g, st ≤ g → g < st + u → τ 3 g = σ 3 g ∧ τ 4 g = σ 4 g) (h : cKg σ n st u) : cKg τ n st u := fun g g1 g2 => by
  rw [(e2 g g1 g2).1, (e2 g g1 g2).2]
  have key : ∀ c, cKc σ n c → cKc τ n c := fun c hc => by
    rcases hc with q | ⟨z, z1, z2, z3⟩ | q
    · exact Or.inl q
    · exact Or.inr (Or.inl ⟨z, z1, z2, by rw [e z z1]; exact z3⟩)
    · exact Or.inr (Or.inr q)
  exact ⟨key _ (h g g1 g2).1, key _ (h g g1 g2).2⟩
theorem cRu_eq {σ τ : kS} {n S : Nat} (e : ∀ z, z < n → τ 8 z = σ 8 z) (e1 : τ 181 = σ 181) (e2 : τ 183 = σ 183) (e3 : τ 182 = σ 182) (e4 : τ 186 3 = σ 186 3) (e5 : ∀ g, 200 ≤ g → g < 776 → τ 3 g = σ 3 g ∧ τ 4 g = σ 4 g) (h : cRu σ n S) : cRu τ n S := by
  unfold cRu
  rw [e1, e2, e3, e4]
  rcases h with q | ⟨q1, q2, q3, q4⟩
  · exact Or.inl q
  · refine Or.inr ⟨q1, q2, cV_eq e q3, ?_⟩
    rcases q4 with q4 | ⟨g, g1, g2, g3⟩
    · exact Or.inl q4
    · refine Or.inr ⟨g, g1, g2, fun hg => ?_⟩
      obtain ⟨u, u1, u2, u3⟩ := g3 hg
      exact ⟨u, u1, u2, cKg_eq e (fun g x1 x2 => e5 g x1 (by omega)) u3⟩
theorem cSr_eq {σ τ : kS} {n S : Nat} (e : ∀ z, z < n → τ 8 z = σ 8 z) (e1 : τ 196 5 = σ 196 5) (e2 : τ 197 = σ 197) (e3 : τ 198 = σ 198) (e4 : τ 199 = σ 199) (e5 : τ 195 9 = σ 195 9) (e6 : τ 203 = σ 203) (h : cSr σ n S) : cSr τ n S := by
  obtain ⟨N, a1, a2, a3, a4, a5⟩ := h
  refine ⟨N, a1, e1.trans a2, fun i hi => ?_, by rw [e3, e4]; exact a4, by rw [e5, e6]; exact a5⟩
  rw [e2]
  exact cV_eq e (a3 i hi)
theorem cQ_eq {σ τ : kS} (e1 : τ 231 = σ 231) (e2 : τ 222 = σ 222) (h : cQ σ) : cQ τ := by
  unfold cQ
  rw [e1, e2]
  exact h
/-- cells above all that the TERMS, ROLES .. have: the run's -/
theorem cJ_run {σ τ : kS} {n R S C : Nat} (h : cJ σ n R S C) (e : ∀ c, c < 181 ∨ 186 ≤ c → τ c = σ c) (hr : cRu τ n S) : cJ τ n R S C := by
  obtain ⟨h1, h2, h3, h4, h5, h6, h7, h8, h9, h10, h11⟩ := h
  have el : ∀ c, c < 181 → τ c = σ c := fun c hc => e c (Or.inl hc)
  have eh : ∀ c, 186 ≤ c → τ c = σ c := fun c hc => e c (Or.inr hc)
  have hg : ∀ z, z < n → τ 8 z = σ 8 z := fun z _ => by rw [el _ (by decide)]
  have hgt : ∀ g, 200 ≤ g → τ 2 g = σ 2 g ∧ τ 3 g = σ 3 g ∧ τ 4 g = σ 4 g ∧ τ 6 g = σ 6 g := fun g _ => by
    rw [el 2 (by decide), el 3 (by decide), el 4 (by decide), el 6 (by decide)]
    exact ⟨rfl, rfl, rfl, rfl⟩
  refine ⟨cT_eq (by rw [el 1 (by decide)]) (el _ (by decide)) (fun u _ => ?_) h1, cRo_gr (Nat.le_refl _) (fun c c1 c2 => el c (by omega)) h2, cSe_eq hg (by rw [el 13 (by decide)]) (el _ (by decide)) (el _ (by decide)) h3, cCl_eq (by rw [el 13 (by decide)]) (fun c c1 c2 => el c (by omega)) h4, cKn_eq (by rw [el 13 (by decide)]) h5, cKw_eq (by decide) (eh _ (by decide)) (eh _ (by decide)) (eh _ (by decide)) hgt h6, cKw_eq (by decide) (eh _ (by decide)) (eh _ (by decide)) (eh _ (by decide)) hgt h7, cKw_eq (by decide) (eh _ (by decide)) (eh _ (by decide)) (eh _ (by decide)) hgt h8, hr, cSr_eq hg (by rw [eh 196 (by decide)]) (eh _ (by decide)) (eh _ (by decide)) (eh _ (by decide)) (by rw [eh 195 (by decide)]) (eh _ (by decide)) h10, cQ_eq (eh _ (by decide)) (eh _ (by decide)) h11⟩
  rw [el 2 (by decide), el 3 (by decide), el 4 (by decide), el 8 (by decide), el 12 (by decide), el 6 (by decide)]
  exact ⟨rfl, rfl, rfl, rfl, rfl, rfl⟩
set_option maxRecDepth 100000 in
set_option maxHeartbeats 4000000 in
theorem mc_hasAttack (L : Nat) (xs : Nat → Int32) (d : Nat) (σ : kS) : kXM kT L xs (d + 1) 77 [.ref 195] σ (fun r σ' => r = some (.int (isB (σ 195 9 ≠ -1))) ∧ σ = σ') := by
  unfold kXM
  repeat refine kX_one rfl ?_
  refine kX_if (fun q => ?_) (fun q => ?_)
  · have q : σ 195 9 = -1 := qeq q
    repeat refine kX_one rfl ?_
    refine kX_ret (i := .ireturn) (len := 1) rfl (Or.inr rfl) rfl (⟨rF (fun z => z q), rfl⟩)
  · have q : σ 195 9 ≠ -1 := qeqF q
    repeat refine kX_one rfl ?_
    refine kX_ret (i := .ireturn) (len := 1) rfl (Or.inr rfl) rfl (⟨rT q, rfl⟩)
theorem ix7 (base s : Nat) : nI base + nI s * (Int8.ofInt 7).toInt32 = nI (base + s * 7) := by
  rw [show (Int8.ofInt 7).toInt32 = nI 7 from rfl, pk_mul, nI_add]
theorem ix7v (base s k : Nat) : nI base + nI s * (Int8.ofInt 7).toInt32 + Int32.ofInt 1 + nI k = nI (base + 7 * s + 1 + k) := by
  rw [ix7, show Int32.ofInt 1 = nI 1 from rfl, nI_add, nI_add, Nat.mul_comm s 7]
set_option maxRecDepth 100000 in
set_option maxHeartbeats 4000000 in
theorem mc_doneBy (L : Nat) (xs : Nat → Int32) (d : Nat) (σ : kS) (a m base s : Nat) (g0 : Nat → Int32) (ha : kT[a]? = some (.inl (0, m, .inl g0))) (hm : m ≤ 100000) (hb : base + 7 * s < m) : kXM kT L xs (d + 1) 16 [.ref 13, .ref a, .int (nI base), .int (nI s)] σ (fun r σ' => r = some (.int (σ a (base + 7 * s))) ∧ σ = σ') := by
  unfold kXM
  iterate 6 (refine kX_one rfl ?_)
  refine kX_ialdN rfl ha hm (base + s * 7) (ix7 base s) (by omega) ?_
  refine kX_ret (i := .ireturn) (len := 1) rfl (Or.inr rfl) rfl (⟨by rw [Nat.mul_comm s 7], rfl⟩)
set_option maxRecDepth 100000 in
set_option maxHeartbeats 4000000 in
theorem mc_valueOf (L : Nat) (xs : Nat → Int32) (d : Nat) (σ : kS) (a m base s k : Nat) (g0 : Nat → Int32) (ha : kT[a]? = some (.inl (0, m, .inl g0))) (hm : m ≤ 100000) (hb : base + 7 * s + 1 + k < m) : kXM kT L xs (d + 1) 17 [.ref 13, .ref a, .int (nI base), .int (nI s), .int (nI k)] σ (fun r σ' => r = some (.int (σ a (base + 7 * s + 1 + k))) ∧ σ = σ') := by
  unfold kXM
  iterate 10 (refine kX_one rfl ?_)
  refine kX_ialdN rfl ha hm (base + 7 * s + 1 + k) (ix7v base s k) hb ?_
  refine kX_ret (i := .ireturn) (len := 1) rfl (Or.inr rfl) rfl (⟨rfl, rfl⟩)
end
section
/-! the class: forget, clear, VARIABLES, CLAIMS -/
/-- cells of the search -/
theorem cJ_sr {σ τ : kS} {n R S C : Nat} (h : cJ σ n R S C) (e : ∀ c, c ≠ 195 → c ≠ 196 → c ≠ 201 → τ c = σ c) (hr : cSr τ n S) : cJ τ n R S C := by
  obtain ⟨h1, h2, h3, h4, h5, h6, h7, h8, h9, h10, h11⟩ := h
  have hg : ∀ z, z < n → τ 8 z = σ 8 z := fun z _ => by rw [e _ (by decide) (by decide) (by decide)]
  have hgt : ∀ g, 200 ≤ g → τ 2 g = σ 2 g ∧ τ 3 g = σ 3 g ∧ τ 4 g = σ 4 g ∧ τ 6 g = σ 6 g := fun g _ => by
    rw [e 2 (by decide) (by decide) (by decide), e 3 (by decide) (by decide) (by decide), e 4 (by decide) (by decide) (by decide), e 6 (by decide) (by decide) (by decide)]
    exact ⟨rfl, rfl, rfl, rfl⟩
  refine ⟨cT_eq (by rw [e 1 (by decide) (by decide) (by decide)]) (e _ (by decide) (by decide) (by decide)) (fun u _ => ?_) h1, cRo_gr (Nat.le_refl _) (fun c c1 c2 => e c (by omega) (by omega) (by omega)) h2, cSe_eq hg (by rw [e 13 (by decide) (by decide) (by decide)]) (e _ (by decide) (by decide) (by decide)) (e _ (by decide) (by decide) (by decide)) h3, cCl_eq (by rw [e 13 (by decide) (by decide) (by decide)]) (fun c c1 c2 => e c (by omega) (by omega) (by omega)) h4, cKn_eq (by rw [e 13 (by decide) (by decide) (by decide)]) h5, cKw_eq (by decide) (e _ (by decide) (by decide) (by decide)) (e _ (by decide) (by decide) (by decide)) (e _ (by decide) (by decide) (by decide)) hgt h6, cKw_eq (by decide) (e _ (by decide) (by decide) (by decide)) (e _ (by decide) (by decide) (by decide)) (e _ (by decide) (by decide) (by decide)) hgt h7, cKw_eq (by decide) (e _ (by decide) (by decide) (by decide)) (e _ (by decide) (by decide) (by decide)) (e _ (by decide) (by decide) (by decide)) hgt h8, cRu_eq hg (e _ (by decide) (by decide) (by decide)) (e _ (by decide) (by decide) (by decide)) (e _ (by decide) (by decide) (by decide)) (by rw [e 186 (by decide) (by decide) (by decide)]) (fun g g1 _ => ⟨(hgt g g1).2.1, (hgt g g1).2.2.1⟩) h9, hr, cQ_eq (e _ (by decide) (by decide) (by decide)) (e _ (by decide) (by decide) (by decide)) h11⟩
  rw [e 2 (by decide) (by decide) (by decide), e 3 (by decide) (by decide) (by decide), e 4 (by decide) (by decide) (by decide), e 8 (by decide) (by decide) (by decide), e 12 (by decide) (by decide) (by decide), e 6 (by decide) (by decide) (by decide)]
  exact ⟨rfl, rfl, rfl, rfl, rfl, rfl⟩
theorem cSr_0 {τ : kS} {n S : Nat} (h1 : τ 196 5 = 0) (h2 : τ 195 9 = -1) : cSr τ n S := ⟨0, by omega, h1, fun i hi => absurd hi (Nat.not_lt_zero i), fun i _ hi => absurd hi (Nat.not_lt_zero i), Or.inl h2⟩
end
