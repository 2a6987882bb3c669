/-! alike: findOrPut, groundOf -/
/-- what a new TERM without number is of -/
def nwP (σ : kS) (n st u k x y : Nat) (a c : Int32) : Prop := kV n st u x ∧ kGd σ x ∧ kDp σ x ≤ 46 ∧ a = nI x ∧ (((k = 4 ∨ k = 5 ∨ ((k = 6 ∨ k = 8) ∧ kAG σ n y)) ∧ kV n st u y ∧ kGd σ y ∧ kDp σ y ≤ 46 ∧ c = nI y) ∨ ((k = 9 ∨ (k = 7 ∧ kAG σ n x)) ∧ c = -1))
def fqP (σ : kS) (K st n u m : Nat) (l : rwT) (k : Nat) (a c : Int32) (r : Option Value) (σ' : kS) : Prop := ∃ u' g, r = some (.int (nI g)) ∧ kV n st u' g ∧ cIs σ' g (nI k) a c ∧ iE σ' K st n u' m l ∧ cCn σ' n ∧ iX σ σ' K st n u u' ∧ u' ≤ u + 1
set_option maxRecDepth 100000 in
set_option maxHeartbeats 4000000 in
theorem mf_findOrPut (L : Nat) (xs : Nat → Int32) (d : Nat) (σ : kS) (K st n u m k x y : Nat) (l : rwT) (a c : Int32) (h : iE σ K st n u m l) (hC : cCn σ n) (hu : u < 576) (hw : nwP σ n st u k x y a c) : kXM kT L xs (d + 3) 49 [.ref K, .int (nI k), .int a, .int c] σ (fqP σ K st n u m l k a c) := by
  have hb := isK_b h.1
  have hn := h.2.1
  have hB := iE_nB h
  obtain ⟨hx, hgx, hdx, rfl, hw⟩ := hw
  have hxl := iE_lt h hx
  unfold kXM
  iterate 4 (refine kX_one rfl ?_)
  refine kX_cal (mf_kFind L xs d σ K st n u m l (nI k) (nI x) c h hC) rfl (Or.inr rfl) rfl (jcall_v rfl rfl rfl (kT_kn hB.1) rfl rfl) rfl (fun r1 σ1 q1 => ?_)
  obtain ⟨hq, rfl⟩ := q1
  rcases hq with ⟨rfl, hno⟩ | ⟨t, t1, rfl, t3⟩
  · iterate 5 (refine kX_one rfl ?_)
    refine kX_getN rfl rfl (kT_kn hB.1) rfl ?_
    refine kX_top (hB.2.2.2.2.2) ?_
    iterate 1 (refine kX_one rfl ?_)
    repeat refine kX_one rfl ?_
    refine kX_if (fun q => ?_) (fun q => ?_)
    · have q := qge q u 576
      omega
    iterate 2 (refine kX_one rfl ?_)
    refine kX_cal (mc_kHas L xs (d + 1) σ K st n u (nI x) hB) rfl (Or.inr rfl) rfl (jcall_v rfl rfl rfl (kT_kn hB.1) rfl rfl) rfl (fun r1 σ1 q1 => ?_)
    obtain ⟨rfl, rfl⟩ := q1
    repeat refine kX_one rfl ?_
    refine kX_ifT (decide_eq_true (isB_ne.mpr (by rcases hx with z | z; exact Or.inl ⟨x, z, rfl⟩; exact Or.inr ⟨x, z.1, z.2, rfl⟩))) ?_
    obtain ⟨sl, s1, s2⟩ := cSl_lt (nI k) (nI x) c
    have hgl : st + u < 1928 := by omega
    iterate 1 (refine kX_one rfl ?_)
    refine kX_getN rfl rfl (kT_kn hB.1) rfl ?_
    refine kX_top (hB.2.2.2.2.1) ?_
    iterate 1 (refine kX_one rfl ?_)
    refine kX_getN rfl rfl (kT_kn hB.1) rfl ?_
    refine kX_top (hB.2.2.2.2.2) ?_
    iterate 1 (refine kX_one rfl ?_)
    refine kX_top (nI_add st u) ?_
    iterate 4 (refine kX_one rfl ?_)
    refine kX_cal (mc_slot L xs (d + 1) σ (nI k) (nI x) c) rfl (Or.inr rfl) rfl rfl rfl (fun r1 σ1 q1 => ?_)
    obtain ⟨rfl, rfl⟩ := q1
    refine kX_top (s2) ?_
    iterate 2 (refine kX_one rfl ?_)
    refine kX_getN rfl rfl (kT_kn hB.1) rfl ?_
    iterate 3 (refine kX_one rfl ?_)
    refine kX_iastN rfl rfl (by decide) (st + u) (by first | rfl | decide) (hgl) ?_
    iterate 1 (refine kX_one rfl ?_)
    refine kX_getN rfl rfl (kT_kn hB.1) rfl ?_
    iterate 3 (refine kX_one rfl ?_)
    refine kX_iastN rfl rfl (by decide) (st + u) (by first | rfl | decide) (hgl) ?_
    iterate 1 (refine kX_one rfl ?_)
    refine kX_getN rfl rfl (kT_kn hB.1) rfl ?_
    iterate 3 (refine kX_one rfl ?_)
    refine kX_iastN rfl rfl (by decide) (st + u) (by first | rfl | decide) (hgl) ?_
    iterate 1 (refine kX_one rfl ?_)
    refine kX_getN rfl rfl (kT_kn hB.1) rfl ?_
    iterate 4 (refine kX_one rfl ?_)
    refine kX_getN rfl rfl (kT_kn hB.1) rfl ?_
    iterate 2 (refine kX_one rfl ?_)
    refine kX_ialdN rfl rfl (by decide) (x) (by first | rfl | decide) (hxl) ?_
    iterate 3 (refine kX_one rfl ?_)
    have hB3 : nB (va_up (va_up (va_up σ 2 (upd (σ 2) (st + u) (nI k))) 3 (upd (σ 3) (st + u) (nI x))) 4 (upd (σ 4) (st + u) c)) K st n u := by
      obtain ⟨a1, a2, a3, a4, a5, a6⟩ := hB
      refine ⟨a1, a2, a3, a4, ?_, ?_⟩
      · rw [up_ne (by omega), up_ne (by omega), up_ne (by omega)]
        exact a5
      · rw [up_ne (by omega), up_ne (by omega), up_ne (by omega)]
        exact a6
    refine kX_cal (mc_kHas L xs (d + 1) _ K st n u c hB3) rfl (Or.inr rfl) rfl (jcall_v rfl rfl rfl (kT_kn hB.1) rfl rfl) rfl (fun r1 σ1 q1 => ?_)
    obtain ⟨rfl, rfl⟩ := q1
    have k129 : ∀ z1 z2 : Int32, (iE (fpS σ K (st + u) sl (nI k) (nI x) c (z1 + z2) u) K st n (u + 1) m l ∧ cCn (fpS σ K (st + u) sl (nI k) (nI x) c (z1 + z2) u) n ∧ iX σ (fpS σ K (st + u) sl (nI k) (nI x) c (z1 + z2) u) K st n u (u + 1)) → kX kT L xs (d + 3) 49 129 [(6, .int (nI sl)), (5, .int (nI (st + u))), (4, .int (-1)), (0, .ref K), (1, .int (nI k)), (2, .int (nI x)), (3, .int c)] [.int z2, .int z1, .int (nI (st + u)), .ref 5] (va_up (va_up (va_up σ 2 (upd (σ 2) (st + u) (nI k))) 3 (upd (σ 3) (st + u) (nI x))) 4 (upd (σ 4) (st + u) c)) (fqP σ K st n u m l k (nI x) c) := by
      intro z1 z2 hok
      iterate 1 (refine kX_one rfl ?_)
      refine kX_iastN rfl rfl (by decide) (st + u) (by first | rfl | decide) (hgl) ?_
      iterate 1 (refine kX_one rfl ?_)
      refine kX_getN rfl rfl (kT_kn hB.1) rfl ?_
      iterate 3 (refine kX_one rfl ?_)
      refine kX_getN rfl rfl (kT_kn hB.1) rfl ?_
      iterate 1 (refine kX_one rfl ?_)
      refine kX_ialdV rfl (kT_k1 hB.1) (by decide) (sl) (by first | rfl | decide) (s1) (by rw [up_ne (by omega), up_ne (by omega), up_ne (by omega), up_ne (by omega)]) ?_
      refine kX_iastN rfl rfl (by decide) (st + u) (by first | rfl | decide) (hgl) ?_
      iterate 1 (refine kX_one rfl ?_)
      refine kX_getN rfl rfl (kT_kn hB.1) rfl ?_
      iterate 2 (refine kX_one rfl ?_)
      refine kX_iastN rfl (kT_k1 hB.1) (by decide) (sl) (by first | rfl | decide) (s1) ?_
      iterate 2 (refine kX_one rfl ?_)
      refine kX_getN rfl rfl (kT_kn hB.1) rfl ?_
      refine kX_top (y := nI u) (by rw [up_ne (by omega), up_ne (by omega), up_ne (by omega), up_ne (by omega), up_ne (by omega), up_ne (by omega)]; exact hB.2.2.2.2.2) ?_
      iterate 2 (refine kX_one rfl ?_)
      refine kX_putN rfl rfl (kT_kn hB.1) rfl (rfl) rfl ?_
      refine kX_st (fpS σ K (st + u) sl (nI k) (nI x) c (z1 + z2) u) ?_ ?_
      · unfold fpS
        rw [← nI_1]
        congr 1
        · congr 1
          rw [up_ne (by omega), up_ne (by omega), up_ne (by omega), up_ne (by omega), up_ne (by omega)]
        · rw [up_ne (by omega), up_ne (by omega), up_ne (by omega), up_ne (by omega), up_ne (by omega), up_ne (by omega)]
          rfl
      iterate 1 (refine kX_one rfl ?_)
      refine kX_ret (i := .ireturn) (len := 1) rfl (Or.inr rfl) rfl ⟨u + 1, st + u, rfl, Or.inr ⟨by omega, by omega⟩, ?_, hok.1, hok.2.1, hok.2.2, Nat.le_refl _⟩
      unfold cIs fpS
      rw [up_ne (show 2 ≠ K by omega), up_ne (show 2 ≠ K + 1 by omega), up_ne (show 3 ≠ K by omega), up_ne (show 3 ≠ K + 1 by omega), up_ne (show 4 ≠ K by omega), up_ne (show 4 ≠ K + 1 by omega)]
      exact ⟨pk_us, pk_us, pk_us⟩
    rcases hw with ⟨hk, hy, hgy, hdy, rfl⟩ | ⟨hk, rfl⟩
    · have hyl := iE_lt h hy
      repeat refine kX_one rfl ?_
      refine kX_ifF (decide_eq_false (isB_ne.mpr (by rcases hy with z | z; exact Or.inl ⟨y, z, rfl⟩; exact Or.inr ⟨y, z.1, z.2, rfl⟩))) ?_
      iterate 1 (refine kX_one rfl ?_)
      refine kX_getN rfl rfl (kT_kn hB.1) rfl ?_
      iterate 2 (refine kX_one rfl ?_)
      refine kX_ialdN rfl rfl (by decide) (y) (by first | rfl | decide) (hyl) ?_
      iterate 1 (refine kX_one rfl ?_)
      refine kX_lv _ rfl rfl rfl (k129 _ _ ?_)
      refine iE_put (x := x) (y := y) h hC hu (by omega) (Or.inr (Or.inl ⟨by omega, rfl, rfl, by unfold kV at hx; omega, by unfold kV at hy; omega⟩)) hx (fun _ => hy) (fun q => ?_) (fun q => by omega) hgx (fun _ => hgy) hdx (fun _ => hdy) s1 s2 ?_ (fun t ht t3 => hno t ⟨ht, t3⟩)
      · rcases hk with hk | hk | hk
        · omega
        · omega
        · exact hk.2
      · rw [if_neg (by omega)]
        rfl
    · repeat refine kX_one rfl ?_
      refine kX_ifT (decide_eq_true (isB_F (fun z => ?_))) ?_
      · rcases z with ⟨j, j1, j2⟩ | ⟨g, g1, g2, g3⟩
        · exact nI_m1 (by omega) j2.symm
        · exact nI_m1 (by omega) g3.symm
      iterate 1 (refine kX_one rfl ?_)
      refine kX_lv _ rfl rfl rfl (k129 _ _ ?_)
      refine iE_put (x := x) (y := 0) h hC hu (by omega) (Or.inr (Or.inr ⟨by omega, rfl, rfl, by unfold kV at hx; omega⟩)) hx (fun _ => by omega) (fun q => by omega) (fun q => ?_) hgx (fun _ => by omega) hdx (fun _ => by omega) s1 s2 ?_ (fun t ht t3 => hno t ⟨ht, t3⟩)
      · rcases hk with hk | hk
        · omega
        · exact hk.2
      · rw [if_pos (by omega)]
        rfl
  · iterate 3 (refine kX_one rfl ?_)
    have htl := iE_lt h t1.1
    repeat refine kX_one rfl ?_
    refine kX_ifT (decide_eq_true (nI_m1 (by omega))) ?_
    repeat refine kX_one rfl ?_
    refine kX_ret (i := .ireturn) (len := 1) rfl (Or.inr rfl) rfl (⟨u, t, rfl, t1.1, t3, h, hC, iX_refl σ K st n u, by omega⟩)
/-- a TERM whose VARIABLES stand for the trees W -/
def tW (σ : kS) (W : Nat → Jvm.Term) (t : Nat) : Jvm.Term := tA (fun u => if σ 2 u = nI 3 then W u else .arg u) vnd (σ 2) (σ 3) (σ 4) t
abbrev kVs (σ : kS) (t : Nat) : List Nat := tvs (σ 2) (σ 3) (σ 4) t
def kSt (σ : kS) (n A vals : Nat) (W : Nat → Jvm.Term) (t : Nat) : Prop := ∀ v ∈ kVs σ t, ∃ p z, p < 6 ∧ z < n ∧ σ 12 v = nI p ∧ σ A (vals + p) = nI z ∧ kGd σ z ∧ kTv σ z = W v ∧ (σ 11 v = nI 0 → σ 2 z = nI 0)
def gR (σ : kS) (n : Nat) : Prop := ∀ t, t < n → σ 8 t = isB (kGd σ t)
theorem tW_gd {σ : kS} {K st n u m : Nat} {l : rwT} {W : Nat → Jvm.Term} (h : iE σ K st n u m l) : ∀ t, kV n st u t → kGd σ t → tW σ W t = kTv σ t := by
  have hV := iE_V h
  intro t
  induction t using Nat.strongRecOn with
  | _ t ih =>
    intro ht hd
    unfold kGd at hd
    rcases (hV t ht).2 with ⟨k, h3, hk, -, -⟩ | ⟨k, x, y, h3, hk, hx, hy, h4, h5, h6, h7⟩ | ⟨k, x, h3, hk, hx, hy, h4, h6⟩
    · unfold tW kTv
      rw [tvl_0 hk h3, tA_0 hk h3]
      rw [tgd_0 hk h3] at hd
      rw [if_neg]
      rw [hk]
      exact nI_ne (of_decide_eq_true hd)
    · rw [tgd_2 hV hk hx hy (by omega) (by omega) h4 h5 h6 h7, Bool.and_eq_true] at hd
      unfold tW kTv
      rw [tvl_2 hV hk hx hy (by omega) (by omega) h4 h5 h6 h7, tA_2 hV hk hx hy (by omega) (by omega) h4 h5 h6 h7]
      have e1 := ih x h4 h6 hd.1
      have e2 := ih y h5 h7 hd.2
      unfold tW kTv at e1 e2
      rw [e1, e2]
    · rw [tgd_1 hV hk hx hy (by omega) (by omega) h4 h6] at hd
      unfold tW kTv
      rw [tvl_1 hV hk hx hy (by omega) (by omega) h4 h6, tA_1 hV hk hx hy (by omega) (by omega) h4 h6]
      have e1 := ih x h4 h6 hd
      unfold tW kTv at e1
      rw [e1]
def kSz (σ : kS) (t : Nat) : Nat := tsz (σ 2) (σ 3) (σ 4) t
/-- what groundOf gives -/
def gP (σ : kS) (K st n u m : Nat) (l : rwT) (W : Nat → Jvm.Term) (t : Nat) (r : Option Value) (σ' : kS) : Prop := ∃ u' g, r = some (.int (nI g)) ∧ kV n st u' g ∧ kGd σ' g ∧ kTv σ' g = tW σ W t ∧ kDp σ' g ≤ kDp σ t + 23 ∧ (kAG σ n t → kAG σ' n g) ∧ iE σ' K st n u' m l ∧ cCn σ' n ∧ iX σ σ' K st n u u' ∧ u' + 1 ≤ u + kSz σ t
theorem iX_gR {σ τ : kS} {K st n u u' m : Nat} {l : rwT} (h : iE σ K st n u m l) (hX : iX σ τ K st n u u') (hg : gR σ n) : gR τ n := by
  intro t ht
  rw [nF_gr h.1 hX.2.1.1, hg t ht]
  exact isB_iff (iX_kGd h hX (Or.inl ht)).symm
theorem iX_oth {σ τ : kS} {K st n u u' c : Nat} (hX : iX σ τ K st n u u') (hK : isK K st) (hc : c < K ∨ K + 9 ≤ c) (hc2 : c = 1 ∨ 7 ≤ c) : τ c = σ c := hX.2.1.1.1 c hc (by omega) (by omega) (by omega) (by omega) (by omega)
theorem iX_kSt {σ τ : kS} {K st n u u' m A vals t : Nat} {l : rwT} {W : Nat → Jvm.Term} (h : iE σ K st n u m l) (hX : iX σ τ K st n u u') (ht : kV n st u t) (hA2 : (A < K ∨ K + 9 ≤ A) ∧ 13 ≤ A) (hs : kSt σ n A vals W t) : kSt τ n A vals W t := by
  have hb := isK_b h.1
  have hv : kVs τ t = kVs σ t := tA_congr (iE_V h) (fun t ht => by obtain ⟨a, b, c⟩ := hX.2.2.1 t ht; exact ⟨a, b, c, by rw [a]⟩) t ht
  intro v hvt
  rw [hv] at hvt
  obtain ⟨p, z, z1, z2, z3, z4, z5, z6, z7⟩ := hs v hvt
  refine ⟨p, z, z1, z2, ?_, ?_, (iX_kGd h hX (Or.inl z2)).mpr z5, (iX_kTv h hX (Or.inl z2)).trans z6, fun q => ?_⟩
  · rw [iX_oth hX h.1 (by omega) (by decide)]
    exact z3
  · rw [iX_oth hX h.1 hA2.1 (by omega)]
    exact z4
  · rw [iX_oth hX h.1 (by omega) (by decide)] at q
    rw [(hX.2.2.1 z (Or.inl z2)).1]
    exact z7 q
theorem iX_tW {σ τ : kS} {K st n u u' m t : Nat} {l : rwT} {W : Nat → Jvm.Term} (h : iE σ K st n u m l) (hX : iX σ τ K st n u u') (ht : kV n st u t) : tW τ W t = tW σ W t := tA_congr (iE_V h) (fun t ht => by obtain ⟨a, b, c⟩ := hX.2.2.1 t ht; exact ⟨a, b, c, by rw [a]⟩) t ht
theorem iX_kSz {σ τ : kS} {K st n u u' m t : Nat} {l : rwT} (h : iE σ K st n u m l) (hX : iX σ τ K st n u u') (ht : kV n st u t) : kSz τ t = kSz σ t := by unfold kSz tsz; exact iX_A h hX ht
theorem iX_AG {σ τ : kS} {K st n u u' t : Nat} (hK : isK K st) (hX : iX σ τ K st n u u') : kAG τ n t ↔ kAG σ n t := by
  have hb := isK_b hK
  unfold kAG
  refine and_congr_right (fun ht => ?_)
  rw [(hX.2.2.1 t (Or.inl ht)).1, iX_oth (c := 11) hX hK (by omega) (by decide)]
theorem kSz_pos {σ : kS} {K st n u m t : Nat} {l : rwT} (h : iE σ K st n u m l) (ht : kV n st u t) : 1 ≤ kSz σ t := by
  have hV := iE_V h
  unfold kSz tsz
  rcases (hV t ht).2 with ⟨k, h3, hk, -, -⟩ | ⟨k, x, y, h3, hk, hx, hy, h4, h5, h6, h7⟩ | ⟨k, x, h3, hk, hx, hy, h4, h6⟩
  · rw [tA_0 hk h3]
    exact Nat.le_refl _
  · rw [tA_2 hV hk hx hy (by omega) (by omega) h4 h5 h6 h7]
    omega
  · rw [tA_1 hV hk hx hy (by omega) (by omega) h4 h6]
    omega
