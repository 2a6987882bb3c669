/-! the reference: receives, its parts -/
theorem cnt_mem2 {m : Nat} : ∀ (l : List Nat), l.Pairwise (fun x y => x ≠ y) → (∀ x ∈ l, x < m) → cnt (fun x => x ∈ l) m = l.length
  | [], _, _ => by
    have := cnt_rng (f := fun x : Nat => x ∈ ([] : List Nat)) (lo := 0) (hi := 0) (fun t ht => (by cases ht)) m
    simp at this ⊢
    omega
  | a :: l, h, hb => by
    rw [List.pairwise_cons] at h
    have := cnt_mem2 l h.2 (fun x hx => hb x (List.mem_cons_of_mem _ hx))
    rw [cnt_add (f := fun x => x ∈ l) (t := a) (fun q => h.1 a q rfl) (fun u => by rw [List.mem_cons]; exact or_comm) m (hb a List.mem_cons_self), this]
    rfl
theorem nodup_le {m : Nat} {l : List Nat} (h : l.Pairwise (fun x y => x ≠ y)) (hb : ∀ x ∈ l, x < m) : l.length ≤ m := by
  rw [← cnt_mem2 l h hb]
  exact cnt_le _ _
theorem rel_row {τ : kS} {n b b' : Nat} {l : rwT} {hd : Nat → Int32} (hq : mRq τ (mvG τ n b') l) (hj : mJd τ n b' l) (h1 : 200 ≤ b) (h2 : b ≤ b') (h3 : b' ≤ 1000) (hl : ∀ t, rwI l t → mv n b t) : mRq (mRel τ b hd) (mvG (mRel τ b hd) n b) l ∧ mJd (mRel τ b hd) n b l := by
  obtain ⟨q1, q2, q3, q4, q5⟩ := hq
  refine ⟨⟨q1, q2, fun t ht => ⟨hl t ht, (q3 t ht).2⟩, q4, q5⟩, hj.1, fun e => ?_⟩
  obtain ⟨j, j1, j2, j3, j4⟩ := hj.2 e
  have hmv : ∀ t, mv n b t → mv n b' t := fun t ht => by unfold mv at ht ⊢; omega
  have hlt : ∀ a c, a < 100000 → c < 100000 → (nI a < nI c ↔ a < c) := fun a c ha hc => by
    rw [Int32.lt_iff_toInt_lt, nI_toInt (by omega), nI_toInt (by omega)]
    omega
  by_cases e2 : j < b
  · refine ⟨j, ?_, j2, by omega, fun t ht htj => j4 t (hmv t ht) htj⟩
    show (if τ 232 49 < nI b then τ 232 49 else nI b) = nI j
    rw [j1, if_pos ((hlt j b (by omega) (by omega)).mpr e2)]
  · refine ⟨b, ?_, h1, Nat.le_refl _, fun t ht htj => j4 t (hmv t ht) (by omega)⟩
    show (if τ 232 49 < nI b then τ 232 49 else nI b) = nI b
    rw [j1, if_neg (fun q => e2 ((hlt j b (by omega) (by omega)).mp q))]
theorem mFr_rel (σ : kS) (n f : Nat) (hd : Nat → Int32) : mFr σ (mRel σ f hd) n := by
  refine ⟨fun c hc => ?_, fun j hj => ?_, fun u hu => ⟨rfl, rfl, rfl⟩⟩
  · simp only [rowC, List.mem_cons, List.not_mem_nil, or_false, not_or] at hc
    simp [mRel, va_up, hc]
  · simp only [rowJ, List.mem_cons, List.not_mem_nil, or_false, not_or] at hj
    show upd (upd (σ 232) 10 _) 49 _ j = _
    rw [pk_un hj.2.1, pk_un hj.1]
set_option maxRecDepth 100000 in
set_option maxHeartbeats 4000000 in
theorem mr_rc_try (L : Nat) (xs : Nat → Int32) (d : Nat) (σ : kS) (n b s t : Nat) (l : rwT) (h : mTb σ n b) (hb : b ≤ 776) (hq : mRq σ (mvG σ n b) l) (hj : mJd σ n b l) (hs : s < 4) (ht : t < n) (hst : mSt σ n s t) (x m g : Int32) (my : Int64) (Q : Option Value → kS → Prop)
    (he : ∀ ρ (P : Prop), mFr σ ρ n → mTb ρ n b → mRq ρ (mvG ρ n b) l → mJd ρ n b l → kX kT L xs (d + 6) 217 266 [(9, .int (isB P)), (0, .ref 232), (1, .int x), (2, .int (nI s)), (3, .int (nI t)), (4, .int m), (5, .long my), (7, .int g)] [] ρ Q) :
    kX kT L xs (d + 6) 217 242 [(0, .ref 232), (1, .int x), (2, .int (nI s)), (3, .int (nI t)), (4, .int m), (5, .long my), (7, .int g)] [] σ Q := by
  have hb2 := h.2.1
  iterate 2 (refine kX_one rfl ?_)
  refine kX_top (h.2.2.2.2.1) ?_
  iterate 5 (refine kX_one rfl ?_)
  refine kX_cal (mr_standsFor L xs d σ n b s t h (by omega) hs ht hst) rfl (Or.inr rfl) rfl rfl rfl (fun r1 ρ q1 => ?_)
  obtain ⟨u, b', rfl, hE, hb', hu, hu2, hu3⟩ := q1
  obtain ⟨hq2, -⟩ := mRq_ex h hE hq
  have hj2 := mJd_ex h hE (fun t ht => hq.2.2.1 t ht) hj
  have hbb := hE.2.1
  refine kX_cal (mr_canMake L xs (d + 1) ρ n b' l u hE.1 hq2 hj2 hu) rfl (Or.inr rfl) rfl rfl rfl (fun r1 ρ2 q1 => ?_)
  obtain ⟨rfl, M, rfl, hj3⟩ := q1
  have hF := rwF_cmS (σ := ρ) (M := M) (x := nI b') (y := nI l.length)
  have hT3 := rwF_Tb hF hE.1
  have hq3 : mRq (cmS ρ M (upd (upd (ρ 232) 49 (nI b')) 50 (nI l.length))) (mvG (cmS ρ M (upd (upd (ρ 232) 49 (nI b')) 50 (nI l.length))) n b') l := hq2
  have hFr : mFr σ (cmS ρ M (upd (upd (ρ 232) 49 (nI b')) 50 (nI l.length))) n := mFr_trans (mFr_ex hE h.2.1) (mFr_rwF hF)
  generalize cmS ρ M (upd (upd (ρ 232) 49 (nI b')) 50 (nI l.length)) = ρ3 at *
  iterate 3 (refine kX_one rfl ?_)
  refine kX_cal (mr_release L xs (d + 4) ρ3 n b' b hT3 hb2 hbb) rfl (Or.inr rfl) rfl rfl rfl (fun r1 ρ4 q1 => ?_)
  obtain ⟨rfl, hd, rfl, hT4⟩ := q1
  obtain ⟨hq4, hj4⟩ := rel_row (hd := hd) hq3 hj3 hb2 hbb (by omega) (fun t ht => (hq.2.2.1 t ht).1)
  exact kX_lv _ rfl rfl rfl (he _ _ (mFr_trans hFr (mFr_rel ρ3 n b hd)) hT4 hq4 hj4)
/-- the VARIABLES that stand for nothing come to stand for what was chosen -/
def opN (σ : kS) (op : List Nat) : Prop := (∀ p (h : p < op.length), op[p] < 200 ∧ ∃ k, k < 6 ∧ σ 241 op[p] = nI k) ∧ ∀ p q (h : p < op.length) (h' : q < op.length), p ≠ q → σ 241 op[p] ≠ σ 241 op[q]
/-- values V: those of W, but for what was chosen -/
def opV (σ : kS) (op : List Nat) (s : Nat) (c : Nat → Nat) (W V : Nat → Int32) (m : Nat) : Prop := (∀ p (h : p < op.length), p < m → V (6 * s + fN (σ 241 op[p])) = nI (c p)) ∧ ∀ j, (∀ p (h : p < op.length), j ≠ 6 * s + fN (σ 241 op[p])) → V j = W j
set_option maxRecDepth 100000 in
set_option maxHeartbeats 4000000 in
theorem mr_rc_set (L : Nat) (xs : Nat → Int32) (d : Nat) (σ : kS) (s : Nat) (op : List Nat) (c : Nat → Nat) (hs : s < 4) (h6 : op.length ≤ 6) (hN : opN σ op) (ho : lst (σ 292) op) (hc : ∀ p, p < op.length → σ 293 p = nI (c p)) (x t g : Int32) (my : Int64) (Q : Option Value → kS → Prop)
    (he : ∀ V, opV σ op s c (σ 265) V op.length → kX kT L xs (d + 1) 217 242 [(0, .ref 232), (1, .int x), (2, .int (nI s)), (3, .int t), (4, .int (nI op.length)), (5, .long my), (7, .int g)] [] (va_up σ 265 V) Q) :
    ∀ q : Nat × (Nat → Int32), (q.1 ≤ op.length ∧ opV σ op s c (σ 265) q.2 q.1) → kX kT L xs (d + 1) 217 200 [(8, .int (nI q.1)), (0, .ref 232), (1, .int x), (2, .int (nI s)), (3, .int t), (4, .int (nI op.length)), (5, .long my), (7, .int g)] [] (va_up σ 265 q.2) Q := by
  refine kX_while (fun q : Nat × (Nat → Int32) => [(8, .int (nI q.1)), (0, .ref 232), (1, .int x), (2, .int (nI s)), (3, .int t), (4, .int (nI op.length)), (5, .long my), (7, .int g)]) (fun q => va_up σ 265 q.2) _ (fun q => op.length - q.1) ?_
  rintro ⟨k, V⟩ ⟨i1, i2, i3⟩ ih
  dsimp only at i1 i2 i3 ih ⊢
  iterate 2 (refine kX_one rfl ?_)
  repeat refine kX_one rfl ?_
  refine kX_if (fun q => ?_) (fun q => ?_)
  · have q := qge q k op.length
    obtain rfl : k = op.length := by omega
    exact kX_lv _ rfl rfl rfl (he V ⟨i2, i3⟩)
  · have q := qgeF q k op.length
    obtain ⟨u1, z, z1, z2⟩ := hN.1 k q
    have hfz : fN (σ 241 op[k]) = z := by rw [z2]; exact fN_nI (by omega)
    iterate 10 (refine kX_one rfl ?_)
    refine kX_ialdV rfl rfl (by decide) (k) (by first | rfl | decide) (by omega) (ho k q) ?_
    refine kX_ialdV rfl rfl (by decide) (op[k]) (by first | rfl | decide) (u1) (z2) ?_
    iterate 4 (refine kX_one rfl ?_)
    refine kX_ialdV rfl rfl (by decide) (k) (by first | rfl | decide) (by omega) (hc k q) ?_
    refine kX_iastN rfl rfl (by decide) (6 * s + z) (ix6 s z) (by omega) ?_
    iterate 2 (refine kX_one rfl ?_)
    have := ih (k + 1, upd V (6 * s + z) (nI (c k))) ⟨q, fun p hp hpk => by
      simp only at hpk ⊢
      by_cases e : p = k
      · subst e
        rw [hfz, pk_us]
      · have hne := hN.2 p k hp q e
        obtain ⟨-, z', z1', z2'⟩ := hN.1 p hp
        have hfz' : fN (σ 241 op[p]) = z' := by rw [z2']; exact fN_nI (by omega)
        have : z' ≠ z := fun e2 => hne (by rw [z2, z2', e2])
        have e3 := i2 p hp (by omega)
        rw [hfz'] at e3 ⊢
        rw [pk_un (by omega)]
        exact e3, fun j hj => by
      simp only
      rw [pk_un (by have := hj k q; rw [hfz] at this; exact this)]
      exact i3 j hj⟩ (by simp only; omega)
    dsimp only at this
    rw [← nI_1] at this
    refine kX_to _ _ rfl rfl rfl ?_ this
    funext c; unfold  va_up; repeat' split
    all_goals first | rfl | omega | (subst_vars; rfl) | (funext j; unfold upd; repeat' split; all_goals first | rfl | omega | (subst_vars; rfl))
/-- what comes to stand in a STATE by an EVENT that receives -/
theorem rc_cfg {σ : kS} {n b R S s r dn t : Nat} {op : List Nat} {c : Nat → Nat} {D V W : Nat → Int32} (h : mTb σ n b) (hR : mRo σ n R) (hc : cfg σ n R S D W) (hs : s < S) (r1 : r < R) (r2 : σ 255 s = nI r) (r3 : D s = nI dn) (hdn : dn < fN (σ 247 r)) (hse : σ 249 (6 * r + dn) = 0) (ht : t < n) (het : σ 248 (6 * r + dn) = nI t)
    (hop : ∀ u, u ∈ op ↔ u ∈ tvs (σ 233) (σ 234) (σ 235) t ∧ W (6 * s + fN (σ 241 u)) < 0) (hof : ∀ p (h : p < op.length), c p < n ∧ ofs σ op[p] (c p)) (hV1 : ∀ p (h : p < op.length), V (6 * s + fN (σ 241 op[p])) = nI (c p)) (hV2 : ∀ u k, u < S → k < 6 → (∀ p (h : p < op.length), 6 * u + k ≠ 6 * s + fN (σ 241 op[p])) → V (6 * u + k) = W (6 * u + k)) :
    cfg σ n R S (upd D s (nI (dn + 1))) V ∧ stp S D W (upd D s (nI (dn + 1))) V s ∧ ∀ u ∈ tvs (σ 233) (σ 234) (σ 235) t, ∃ p z, p < 6 ∧ z < n ∧ σ 241 u = nI p ∧ V (6 * s + p) = nI z ∧ tgd (σ 233) (σ 234) (σ 235) z = true ∧ (σ 240 u = nI 0 → σ 233 z = nI 0) := by
  have hn := h.1
  have hR4 := hR.1
  obtain ⟨t', t1, t2, t3, -⟩ := hR.2.2.2.2.2 r dn r1 hdn
  obtain rfl : t = t' := nI_inj (het.symm.trans t2)
  have hvar := fun u hu => mRo_var (u := u) h hR r1 ht t3 hu
  obtain ⟨r', dn', a1, a2, a3, a4, a5⟩ := hc s hs
  obtain rfl : r = r' := nI_inj (r2.symm.trans a2)
  have he6 : fN (σ 247 r) ≤ 6 := by
    obtain ⟨-, e, e1, e2⟩ := hR.2.2.1 r r1
    rw [e2, fN_nI (by omega)]
    exact e1
  obtain rfl : dn = dn' := nI_inj (r3.symm.trans a3)
  have hm6 : (-6 : Int32) < 0 := by decide
  /- where V is as W -/
  have hout : ∀ u k, u < S → k < 6 → (u = s → bdv σ r dn k ∨ ¬ bdv σ r (dn + 1) k) → V (6 * u + k) = W (6 * u + k) := by
    intro u k hu hk hb
    refine hV2 u k hu hk (fun p hp e => ?_)
    obtain ⟨g1, g2⟩ := (hop op[p]).mp (List.getElem_mem hp)
    obtain ⟨k', so, u1, k6, kv, vv, kk, -⟩ := hvar _ g1
    rw [kk, fN_nI (by omega)] at e g2
    have e1 : u = s := by omega
    have e2 : k = k' := by omega
    subst e1 e2
    rcases hb rfl with hb | hb
    · obtain ⟨b1, -⟩ := (a5 k hk).1 hb
      exact (mVz_ne h b1).2 g2
    · refine hb ⟨kv, Or.inr ⟨dn, by omega, hse, ?_⟩⟩
      rw [vv, het, fN_nI (by omega), fN_nI (by omega)]
      exact g1
  /- what was chosen -/
  have hin : ∀ u k, u ∈ tvs (σ 233) (σ 234) (σ 235) t → σ 241 u = nI k → k < 6 → ¬ bdv σ r dn k → ∃ z, z < n ∧ V (6 * s + k) = nI z ∧ ofs σ u z := by
    intro u k hu hk hk6 hb
    have hw : W (6 * s + fN (σ 241 u)) < 0 := by
      rw [hk, fN_nI (by omega), (a5 k hk6).2 hb]
      exact hm6
    obtain ⟨p, hp, e⟩ := List.mem_iff_getElem.mp ((hop u).mpr ⟨hu, hw⟩)
    have := hV1 p hp
    obtain ⟨o1, o2⟩ := hof p hp
    rw [e] at this o2
    rw [hk, fN_nI (by omega)] at this
    exact ⟨c p, o1, this, o2⟩
  have hnew : ∀ k, k < 6 → bdv σ r (dn + 1) k → ¬ bdv σ r dn k → ∃ u, u < n ∧ u ∈ tvs (σ 233) (σ 234) (σ 235) t ∧ σ 241 u = nI k ∧ σ 245 (6 * r + k) = nI u ∧ σ 246 (6 * r + k) = nI 2 := by
    intro k hk hb hb0
    obtain ⟨v, so, as, v1, v2, v3, v4, v5, v6, v7, v8, v9, -⟩ := hR.2.2.2.1 r k r1 hb.1
    have ha : σ 246 (6 * r + k) = nI 2 := Classical.byContradiction (fun q => hb0 ⟨hb.1, Or.inl q⟩)
    rcases hb.2 with q | ⟨e, e1, e2, e3⟩
    · exact absurd ha q
    · by_cases ee : e < dn
      · exact absurd ⟨hb.1, Or.inr ⟨e, ee, e2, e3⟩⟩ hb0
      · obtain rfl : e = dn := by omega
        rw [v2, het, fN_nI (by omega), fN_nI (by omega)] at e3
        exact ⟨v, v1, e3, v5, v2, ha⟩
  refine ⟨fun u hu => ?_, ⟨hs, fun u hu => ⟨fun q => ⟨pk_un q, fun k hk => hout u k hu hk (fun e => absurd e q)⟩, fun q => ?_⟩⟩, fun u hu => ?_⟩
  · by_cases e : u = s
    · subst e
      refine ⟨r, dn + 1, r1, r2, pk_us, hdn, fun k hk => ⟨fun hb => ?_, fun hb => ?_⟩⟩
      · by_cases hb0 : bdv σ r dn k
        · rw [hout u k hu hk (fun _ => Or.inl hb0)]
          exact (a5 k hk).1 hb0
        · obtain ⟨v, v1, v2, v3, v4, v5⟩ := hnew k hk hb hb0
          obtain ⟨z, z1, z2, z3, z4⟩ := hin v k v2 v3 hk hb0
          refine ⟨⟨z, z1, z2, z3, ?_⟩, fun q => absurd v5 q⟩
          rw [v4, fN_nI (by omega)]
          rcases z4 with z4 | z4
          · exact Or.inl z4
          · exact Or.inr z4.symm
      · have hb0 : ¬ bdv σ r dn k := fun q => hb (bdv_mono (by omega) q)
        rw [hout u k hu hk (fun _ => Or.inr hb)]
        exact (a5 k hk).2 hb0
    · obtain ⟨r', dn', c1, c2, c3, c4, c5⟩ := hc u hu
      refine ⟨r', dn', c1, c2, (pk_un e).trans c3, c4, fun k hk => ?_⟩
      rw [hout u k hu hk (fun q => absurd q e)]
      exact c5 k hk
  · subst q
    refine ⟨by rw [pk_us, r3, nI_1], fun k hk hw => hout u k hu hk (fun _ => Or.inl ?_)⟩
    exact Classical.byContradiction (fun hb => hw ((a5 k hk).2 hb))
  · obtain ⟨k, so, u1, k6, kv, vv, kk, ku, so3, sov⟩ := hvar u hu
    by_cases hb : bdv σ r dn k
    · obtain ⟨⟨z, z1, z2, z3, z4⟩, -⟩ := (a5 k k6).1 hb
      refine ⟨k, z, k6, z1, kk, by rw [hout s k hs k6 (fun _ => Or.inl hb)]; exact z2, z3, fun q => ?_⟩
      rw [vv, fN_nI (by omega), q] at z4
      rcases z4 with z4 | z4
      · exact absurd z4 (by decide)
      · exact z4.symm
    · obtain ⟨z, z1, z2, z3, z4⟩ := hin u k hu kk k6 hb
      refine ⟨k, z, k6, z1, kk, z2, z3, fun q => ?_⟩
      rw [q] at z4
      rcases z4 with z4 | z4
      · exact absurd z4 (by decide)
      · exact z4
