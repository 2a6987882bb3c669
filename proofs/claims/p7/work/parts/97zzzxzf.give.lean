/-! alike: giveNumber -/
/-- while numbers are given: acc has got one -/
def gnQ (σ τ : kS) (n : Nat) (acc : List Jvm.Term) : Prop := cT τ (n + acc.length) ∧ cCn τ (n + acc.length) ∧ cGr σ τ n ∧ (∀ t, t < n → τ 2 t = σ 2 t ∧ τ 3 t = σ 3 t ∧ τ 4 t = σ 4 t ∧ τ 5 t = σ 5 t ∧ τ 8 t = σ 8 t ∧ τ 9 t = σ 9 t ∧ τ 10 t = σ 10 t ∧ τ 11 t = σ 11 t ∧ τ 12 t = σ 12 t) ∧ tbW (fun t => t < n + acc.length) (kAG σ n) (τ 2) (τ 3) (τ 4) (τ 5) ∧ gR τ (n + acc.length) ∧ (∀ j (h : j < acc.length), kTv τ (n + j) = acc[j]'h) ∧ ∀ t, n ≤ t → t < n + acc.length → 3 < fN (τ 2 t) ∧ kGd τ t
section GN
variable {σ τ : kS} {n u m : Nat} {l : rwT} {acc : List Jvm.Term}
theorem iE_num (h : iE σ 186 200 n u m l) : ∀ t, t < n → t < 100000 ∧ tOk (fun u => u < n) (kAG σ n) (σ 2) (σ 3) (σ 4) t := fun t ht => by
  have hn := h.2.1
  obtain ⟨a, b⟩ := iE_V h t (Or.inl ht)
  exact ⟨a, tOk_mono (fun x hx hv => by unfold kV at hv; omega) (fun _ _ q => q) rfl rfl rfl b⟩
theorem gn_0 (h : iE σ 186 200 n u m l) (hT : cT σ n) (hC : cCn σ n) (hG : gR σ n) : gnQ σ σ n [] := by
  have hn := h.2.1
  refine ⟨hT, hC, cGr_refl σ n, fun _ _ => ⟨rfl, rfl, rfl, rfl, rfl, rfl, rfl, rfl, rfl⟩, tbW_sub h.2.2.2.2.1.2.2.2.1 (fun t ht => Or.inl ht) (fun t x ht hx hv => ?_), hG, fun j hj => absurd hj (Nat.not_lt_zero j), fun t h1 h2 => by simp only [List.length_nil] at h2; omega⟩
  have ht : t < n := ht
  show x < n
  unfold kV at hv
  omega
theorem gn_A {α : Type} {lf lf' : Nat → α} {nd : Nat → α → Option α → α} (h : iE σ 186 200 n u m l) (hq : gnQ σ τ n acc) (hl : ∀ t, kV n 200 u t → lf' t = lf t) {g : Nat} (hg : kV n 200 u g) : tA lf' nd (τ 2) (τ 3) (τ 4) g = tA lf nd (σ 2) (σ 3) (σ 4) g :=
  tA_congr (iE_V h) (fun t ht => by
    have : τ 2 t = σ 2 t ∧ τ 3 t = σ 3 t ∧ τ 4 t = σ 4 t := by
      rcases ht with q | q
      · obtain ⟨a, b, c, -⟩ := hq.2.2.2.1 t q
        exact ⟨a, b, c⟩
      · obtain ⟨a, b, c, -⟩ := hq.2.2.1.2.2 t q.1
        exact ⟨a, b, c⟩
    exact ⟨this.1, this.2.1, this.2.2, hl t ht⟩) g hg
theorem gn_tv (h : iE σ 186 200 n u m l) (hq : gnQ σ τ n acc) {g : Nat} (hg : kV n 200 u g) : kTv τ g = kTv σ g := gn_A h hq (fun _ _ => rfl) hg
theorem gn_gd (h : iE σ 186 200 n u m l) (hq : gnQ σ τ n acc) {g : Nat} (hg : kV n 200 u g) : kGd τ g ↔ kGd σ g := by
  have : tgd (τ 2) (τ 3) (τ 4) g = tgd (σ 2) (σ 3) (σ 4) g := gn_A h hq (fun t ht => by
    rcases ht with q | q
    · rw [(hq.2.2.2.1 t q).1]
    · rw [(hq.2.2.1.2.2 t q.1).1]) hg
  unfold kGd
  rw [this]
theorem gn_inj (hq : gnQ σ τ n acc) {t g : Nat} (ht : t < n + acc.length) (hg : g < n + acc.length) (e : kTv τ t = kTv τ g) : t = g := tvl_inj hq.2.2.2.2.1.1 hq.2.2.2.2.1.2.2 t g ht hg e
/-- a tree has a number now -/
theorem gn_has (h : iE σ 186 200 n u m l) (hq : gnQ σ τ n acc) {t : Nat} (ht : t < n + acc.length) : knN σ n (kTv τ t) ∨ kTv τ t ∈ acc := by
  by_cases q : t < n
  · exact Or.inl ⟨t, q, (gn_tv h hq (Or.inl q)).symm⟩
  · obtain ⟨j, rfl⟩ : ∃ j, t = n + j := ⟨t - n, by omega⟩
    rw [hq.2.2.2.2.2.2.1 j (by omega)]
    exact Or.inr (List.getElem_mem _)
theorem gn_of (h : iE σ 186 200 n u m l) (hq : gnQ σ τ n acc) {g : Jvm.Term} (hg : knN σ n g ∨ g ∈ acc) : ∃ t, t < n + acc.length ∧ kTv τ t = g := by
  rcases hg with ⟨t, t1, t2⟩ | hg
  · exact ⟨t, by omega, (gn_tv h hq (Or.inl t1)).trans t2⟩
  · obtain ⟨j, hj, rfl⟩ := List.getElem_of_mem hg
    exact ⟨n + j, by omega, hq.2.2.2.2.2.2.1 j hj⟩
/-- a number more -/
theorem gn_new {k x y : Nat} {a c : Int32} (hq : gnQ σ τ n acc) (hN : n + acc.length < 200) (hk : 3 < k) (hw : tNw k a c x y (n + acc.length)) (hx : x < n + acc.length) (hy : k = 4 ∨ k = 5 ∨ k = 6 ∨ k = 8 → y < n + acc.length) (h6 : k = 6 ∨ k = 8 → kAG σ n y) (h7 : k = 7 → kAG σ n x) (gx : kGd τ x) (gy : k = 4 ∨ k = 5 ∨ k = 6 ∨ k = 8 → kGd τ y) (hno : ∀ t, t < n + acc.length → 3 < fN (τ 2 t) → ¬ cIs τ t (nI k) a c) : gnQ σ (cCo τ (n + acc.length) k a c) n (acc ++ [if k = 7 ∨ k = 9 then vnd k (kTv τ x) none else vnd k (kTv τ x) (some (kTv τ y))]) := by
  obtain ⟨q1, q2, q3, q4, q5, q6, q7, q8⟩ := hq
  have hk9 := tNw_9 hw
  obtain ⟨ha, -⟩ := tNw_x hw hk
  have ggx : cG τ (n + acc.length) a := fun z z1 z2 => by
    obtain rfl : x = z := nI_inj (ha.symm.trans z2)
    rw [q6 x hx, isB_T gx]
  have ggc : cG τ (n + acc.length) c ∧ cCh (n + acc.length) c := by
    rcases hw with z | z | z
    · omega
    · have hy' := hy z.1
      refine ⟨fun w w1 w2 => ?_, Or.inr ⟨y, by omega, z.2.2.1, Or.inl hy'⟩⟩
      obtain rfl : y = w := nI_inj (z.2.2.1.symm.trans w2)
      rw [q6 y hy', isB_T (gy z.1)]
    · rw [z.2.2.1]
      exact ⟨cG_m1 τ _ (by omega), Or.inl rfl⟩
  obtain ⟨g1, g2⟩ := cT_co (k := k) (x := a) (y := c) q1 hN (by omega) hk9 (Or.inr ⟨x, by omega, ha, Or.inl hx⟩) ggc.2 (fun z => absurd ⟨ggx, ggc.1⟩ z)
  have hlen : n + (acc ++ [if k = 7 ∨ k = 9 then vnd k (kTv τ x) none else vnd k (kTv τ x) (some (kTv τ y))]).length = n + acc.length + 1 := by simp; omega
  have e2 : cCo τ (n + acc.length) k a c 2 = upd (τ 2) (n + acc.length) (nI k) := rfl
  have e3 : cCo τ (n + acc.length) k a c 3 = upd (τ 3) (n + acc.length) a := rfl
  have e4 : cCo τ (n + acc.length) k a c 4 = upd (τ 4) (n + acc.length) c := rfl
  have e5 : cCo τ (n + acc.length) k a c 5 = upd (τ 5) (n + acc.length) (1 + czs τ (n + acc.length) a + czs τ (n + acc.length) c) := rfl
  have e6 : cCo τ (n + acc.length) k a c 8 = upd (τ 8) (n + acc.length) (isB (cG τ (n + acc.length) a ∧ cG τ (n + acc.length) c)) := rfl
  have hV := q5.1
  have hm : ∀ t, t < n + acc.length → t < n + acc.length := fun _ z => z
  have hn9 : tOk (fun t => t < n + acc.length) (kAG σ n) (upd (τ 2) (n + acc.length) (nI k)) (upd (τ 3) (n + acc.length) a) (upd (τ 4) (n + acc.length) c) (n + acc.length) := tOk_new hw (fun _ => hx) hy h6 h7
  have hsz : (1 + czs τ (n + acc.length) a + czs τ (n + acc.length) c : Int32) = nI (tsz (upd (τ 2) (n + acc.length) (nI k)) (upd (τ 3) (n + acc.length) a) (upd (τ 4) (n + acc.length) c) (n + acc.length)) := by
    unfold tsz
    rw [tA_new (lf := fun _ => 1) (nd := fun _ a b => 1 + a + b.getD 0) hV hm (by omega) (fun _ q => q) (fun _ _ => rfl) hw (fun _ => hx) hy h6 h7]
    have zx := q5.2.1 x hx
    unfold tNd
    rw [ha, czs_t hx (by omega), zx]
    rcases hw with z | z | z
    · omega
    · have zy := q5.2.1 y (hy z.1)
      rw [z.2.2.1, czs_t (hy z.1) (by omega), zy, if_neg (by omega), if_neg (by omega)]
      show nI 1 + nI _ + nI _ = _
      rw [nI_add, nI_add]
      rfl
    · rw [z.2.2.1, czs_m1 (by omega), if_neg (by omega), if_pos (by omega)]
      show nI 1 + nI _ + nI 0 = _
      rw [nI_add, nI_add]
      rfl
  have hW2 : tbW (fun t => t < n + acc.length + 1) (kAG σ n) (cCo τ (n + acc.length) k a c 2) (cCo τ (n + acc.length) k a c 3) (cCo τ (n + acc.length) k a c 4) (cCo τ (n + acc.length) k a c 5) := by
    rw [e2, e3, e4, e5, hsz, show (fun t => t < n + acc.length + 1) = (fun t => t < n + acc.length ∨ t = n + acc.length) from funext fun t => propext (by omega)]
    exact tb_push q5 hm (by omega) (fun _ q => q) hn9 (fun q t ht e => hno t ht (by rw [e.1]; exact q) e)
  have hold : ∀ {α : Type} {lf lf' : Nat → α} {nd : Nat → α → Option α → α}, (∀ t, t < n + acc.length → lf' t = lf t) → ∀ t, t < n + acc.length → tA lf' nd (cCo τ (n + acc.length) k a c 2) (cCo τ (n + acc.length) k a c 3) (cCo τ (n + acc.length) k a c 4) t = tA lf nd (τ 2) (τ 3) (τ 4) t := fun hl t ht => by
    rw [e2, e3, e4]
    exact tb_old hV hm hl t ht
  have htv : ∀ t, t < n + acc.length → kTv (cCo τ (n + acc.length) k a c) t = kTv τ t := fun t ht => hold (fun _ _ => rfl) t ht
  have htg : ∀ t, t < n + acc.length → (kGd (cCo τ (n + acc.length) k a c) t ↔ kGd τ t) := fun t ht => by
    have : tgd (cCo τ (n + acc.length) k a c 2) (cCo τ (n + acc.length) k a c 3) (cCo τ (n + acc.length) k a c 4) t = tgd (τ 2) (τ 3) (τ 4) t := hold (fun t ht => by rw [e2, pk_un (by omega)]) t ht
    unfold kGd
    rw [this]
  have hgn : kGd (cCo τ (n + acc.length) k a c) (n + acc.length) := by
    unfold kGd tgd
    rw [e2, e3, e4, tA_new (lf := fun t => decide (τ 2 t ≠ nI 3)) (nd := fun _ a b => a && b.getD true) hV hm (by omega) (fun _ q => q) (fun t ht => by rw [pk_un (by omega)]) hw (fun _ => hx) hy h6 h7]
    unfold tNd
    unfold kGd tgd at gx gy
    rcases hw with q | q | q
    · omega
    · have := gy q.1
      rw [if_neg (by omega), if_neg (by omega)]
      simp only [Option.getD_some, gx, this, Bool.and_true]
    · rw [if_neg (by omega), if_pos (by omega)]
      simp only [Option.getD_none, gx, Bool.and_true]
  have htn : kTv (cCo τ (n + acc.length) k a c) (n + acc.length) = if k = 7 ∨ k = 9 then vnd k (kTv τ x) none else vnd k (kTv τ x) (some (kTv τ y)) := by
    unfold kTv tvl
    rw [e2, e3, e4, tA_new (lf := fun t => Jvm.Term.arg t) (nd := vnd) hV hm (by omega) (fun _ q => q) (fun _ _ => rfl) hw (fun _ => hx) hy h6 h7]
    unfold tNd
    rw [if_neg (by omega)]
  refine ⟨by rw [hlen]; exact g1, by rw [hlen]; exact cCn_co q2 hN hk hk9, cGr_trans q3 g2 (by omega), fun t ht => ?_, by rw [hlen]; exact hW2, fun t ht => ?_, fun j hj => ?_, fun t t1 t2 => ?_⟩
  · obtain ⟨a1, a2, a3, a4, a5, a6, a7, a8, a9⟩ := q4 t ht
    refine ⟨(pk_un (by omega)).trans a1, (pk_un (by omega)).trans a2, (pk_un (by omega)).trans a3, (pk_un (by omega)).trans a4, (pk_un (by omega)).trans a5, (pk_un (by omega)).trans a6, a7, a8, a9⟩
  · rw [hlen] at ht
    rw [e6]
    by_cases e : t = n + acc.length
    · subst e
      rw [pk_us, isB_T ⟨ggx, ggc.1⟩, isB_T hgn]
    · rw [pk_un e, q6 t (by omega)]
      exact isB_iff (htg t (by omega)).symm
  · simp only [List.length_append, List.length_singleton] at hj
    by_cases e : j = acc.length
    · subst e
      rw [htn, List.getElem_append_right (Nat.le_refl _)]
      simp
    · rw [htv (n + j) (by omega), List.getElem_append_left (by omega)]
      exact q7 j (by omega)
  · rw [hlen] at t2
    by_cases e : t = n + acc.length
    · subst e
      refine ⟨?_, hgn⟩
      rw [e2, pk_us, fN_nI (by omega)]
      exact hk
    · obtain ⟨b1, b2⟩ := q8 t t1 (by omega)
      exact ⟨by rw [e2, pk_un e]; exact b1, (htg t (by omega)).mpr b2⟩
end GN
