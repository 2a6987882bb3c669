/-! alike: what an intruder makes -/
theorem tdp_2 {V AG : Nat → Prop} {K F S : Nat → Int32} (hV : ∀ t, V t → t < 100000 ∧ tOk V AG K F S t) {t k x y : Nat} (hk : K t = nI k) (hx : F t = nI x) (hy : S t = nI y) (h3 : 3 < k) (hk9 : k ≤ 9) (h4 : x < t) (h5 : y < t) (h6 : V x) (h7 : V y) : tdp K F S t = 1 + max (tdp K F S x) (tdp K F S y) := tA_2 hV hk hx hy h3 hk9 h4 h5 h6 h7
theorem tdp_1 {V AG : Nat → Prop} {K F S : Nat → Int32} (hV : ∀ t, V t → t < 100000 ∧ tOk V AG K F S t) {t k x : Nat} (hk : K t = nI k) (hx : F t = nI x) (hy : S t = -1) (h3 : 3 < k) (hk9 : k ≤ 9) (h4 : x < t) (h6 : V x) : tdp K F S t = 1 + max (tdp K F S x) 0 := tA_1 hV hk hx hy h3 hk9 h4 h6
abbrev kGd (σ : kS) (g : Nat) : Prop := tgd (σ 2) (σ 3) (σ 4) g = true
abbrev kDp (σ : kS) (g : Nat) : Nat := tdp (σ 2) (σ 3) (σ 4) g
/-- an intruder at work: u without number, m starts, the row l -/
def iE (σ : kS) (K st n u m : Nat) (l : rwT) : Prop := isK K st ∧ n ≤ 200 ∧ σ 1 11 = nI n ∧ (∀ t, t < n → aT1 σ t) ∧ kTb σ K st n u ∧ kMs σ K m ∧ (0 < m ∧ m < 2147483647) ∧ kRw σ K st n u m l ∧ (∀ t, t < n → kDp σ t ≤ 23) ∧ kQf σ K st n u m
theorem kV_lt {K st n u g : Nat} (hK : isK K st) (hn : n ≤ 200) (hu : u ≤ 576) (h : kV n st u g) : g < 1928 := by
  have := isK_b hK
  unfold kV at h
  omega
theorem iE_lt {σ : kS} {K st n u m g : Nat} {l : rwT} (h : iE σ K st n u m l) (hg : kV n st u g) : g < 1928 := kV_lt h.1 h.2.1 h.2.2.2.2.1.1 hg
theorem iE_nB {σ : kS} {K st n u m : Nat} {l : rwT} (h : iE σ K st n u m l) : nB σ K st n u := ⟨h.1, h.2.1, h.2.2.2.2.1.1, h.2.2.1, h.2.2.2.2.1.2.2.1, h.2.2.2.2.1.2.1⟩
theorem nd_len : ∀ (N : Nat) (l : List Nat), l.Pairwise (fun x y => x ≠ y) → (∀ x ∈ l, x < N) → l.length ≤ N
  | 0, l, _, h => by
    rcases l with _ | ⟨a, l⟩
    · exact Nat.le_refl _
    · exact absurd (h a (by simp)) (Nat.not_lt_zero a)
  | N + 1, l, hd, h => by
    by_cases q : N ∈ l
    · have h1 := nd_len N (l.erase N) (List.Pairwise.sublist List.erase_sublist hd) (fun x hx => by
        have h2 := h x (List.mem_of_mem_erase hx)
        have h3 : x ≠ N := fun e => by
          subst e
          exact (List.Nodup.not_mem_erase (show l.Nodup from hd)) hx
        omega)
      rw [List.length_erase_of_mem q] at h1
      omega
    · have := nd_len N l hd (fun x hx => by
        have h2 := h x hx
        have h3 : x ≠ N := fun e => q (e ▸ hx)
        omega)
      omega
theorem kRw_len {σ : kS} {K st n u m : Nat} {l : rwT} (hst : n ≤ st) (h : kRw σ K st n u m l) : l.length ≤ n + u := by
  have h1 := nd_len (n + u) ((l.map (fun q => q.1)).map (fun t => if t < n then t else t - st + n)) ?_ ?_
  · simpa using h1
  · refine List.pairwise_map.mpr (List.Pairwise.imp_of_mem ?_ h.2.2.2.1)
    intro a b ha hb hab
    have key : ∀ a, a ∈ l.map (fun q => q.1) → kV n st u a := fun a ha => by
      obtain ⟨q, q1, rfl⟩ := List.mem_map.mp ha
      exact (h.2.2.1 q.1 ⟨q, q1, rfl⟩).1
    have := key a ha
    have := key b hb
    unfold kV at *
    split <;> split <;> omega
  · intro x hx
    obtain ⟨t, ht, rfl⟩ := List.mem_map.mp hx
    obtain ⟨q, q1, rfl⟩ := List.mem_map.mp ht
    have := (h.2.2.1 q.1 ⟨q, q1, rfl⟩).1
    unfold kV at this
    split <;> omega
theorem iE_len {σ : kS} {K st n u m : Nat} {l : rwT} (h : iE σ K st n u m l) : l.length ≤ n + u ∧ l.length ≤ 776 := by
  have h1 := kRw_len (by have := isK_b h.1; have := h.2.1; omega) h.2.2.2.2.2.2.2.1
  have h2 := h.2.1
  have h3 := h.2.2.2.2.1.1
  exact ⟨h1, by omega⟩
theorem iE_nR {σ : kS} {K st n u m : Nat} {l : rwT} (h : iE σ K st n u m l) : nR σ K := by
  refine ⟨l.length, (iE_len h).2, h.2.2.2.2.2.2.2.1.1, fun i hi => ⟨(l[i]'hi).1, iE_lt h (h.2.2.2.2.2.2.2.1.2.2.1 _ ⟨l[i]'hi, List.getElem_mem hi, rfl⟩).1, (h.2.2.2.2.2.2.2.1.2.1 i hi).1⟩⟩
def kCl : List Nat := [2, 3, 4, 233, 238]
theorem kMk_c {σ τ : kS} {l : rwT} {g : Nat} (e : eqC σ τ kCl) : kMk τ l g = kMk σ l g := by
  unfold kMk kIn kTv mA
  rw [e 2 (by decide), e 3 (by decide), e 4 (by decide), e 233 (by decide), e 238 (by decide)]
theorem kTv_c {σ τ : kS} (e : eqC σ τ kCl) : kTv τ = kTv σ := by
  unfold kTv
  rw [e 2 (by decide), e 3 (by decide), e 4 (by decide)]
theorem kFr_c {σ τ : kS} {K st : Nat} (hK : isK K st) (e : ∀ c, c < K ∨ K + 9 ≤ c → τ c = σ c) {l : List Nat} (h : l.all (fun c => decide (c < 186 ∨ 222 ≤ c)) = true) : eqC σ τ l := fun c hc => by
  have h1 := isK_b hK
  have h2 := of_decide_eq_true (List.all_eq_true.mp h c hc)
  exact e c (by omega)
/-- the row changes, and nothing else -/
theorem iE_fr {σ τ : kS} {K st n u m : Nat} {l l' : rwT} (h : iE σ K st n u m l) (e : ∀ c, c < K ∨ K + 9 ≤ c → τ c = σ c) (e1 : τ (K + 1) = σ (K + 1)) (e0 : ∀ j, j ≠ 7 → j ≠ 13 → τ K j = σ K j) (hM : kMs τ K m) (hQ : kQf τ K st n u m) (hR : kRw τ K st n u m l') : iE τ K st n u m l' := by
  obtain ⟨h1, h2, h3, h4, h5, h6, h7, h8, h9, -⟩ := h
  have hk := isK_b h1
  have ec : ∀ {l : List Nat}, l.all (fun c => decide (c < 186 ∨ 222 ≤ c)) = true → eqC σ τ l := kFr_c h1 e
  have hc : eqC σ τ [1, 2, 3, 4, 5, 8, 9, 10, 11, 12, 6, 233, 234, 235, 236, 237, 238, 239, 240, 241] := ec (by decide)
  refine ⟨h1, h2, by rw [hc 1 (by decide)]; exact h3, fun t ht => ?_, ?_, hM, h7, hR, fun t ht => ?_, hQ⟩
  · have := h4 t ht
    unfold aT1 at this ⊢
    rw [hc 2 (by decide), hc 3 (by decide), hc 4 (by decide), hc 5 (by decide), hc 8 (by decide), hc 9 (by decide), hc 10 (by decide), hc 11 (by decide), hc 12 (by decide), hc 233 (by decide), hc 234 (by decide), hc 235 (by decide), hc 236 (by decide), hc 237 (by decide), hc 238 (by decide), hc 239 (by decide), hc 240 (by decide), hc 241 (by decide)]
    exact this
  · unfold kTb kAG cpt at h5 ⊢
    rw [e0 3 (by decide) (by decide), e0 1 (by decide) (by decide), e1, hc 2 (by decide), hc 3 (by decide), hc 4 (by decide), hc 5 (by decide), hc 11 (by decide), hc 6 (by decide)]
    exact h5
  · have := h9 t ht
    unfold kDp at this ⊢
    rw [hc 2 (by decide), hc 3 (by decide), hc 4 (by decide)]
    exact this
section KM
variable {σ : kS} {K st n u m : Nat} {l : rwT}
theorem iE_V (h : iE σ K st n u m l) : ∀ t, kV n st u t → t < 100000 ∧ tOk (kV n st u) (kAG σ n) (σ 2) (σ 3) (σ 4) t := h.2.2.2.2.1.2.2.2.1.1
theorem kTv_inj (h : iE σ K st n u m l) {t g : Nat} (ht : kV n st u t) (hg : kV n st u g) (e : kTv σ t = kTv σ g) : t = g := tvl_inj (iE_V h) h.2.2.2.2.1.2.2.2.1.2.2 t g ht hg e
theorem iE_l (h : iE σ K st n u m l) {t : Nat} (ht : rwI l t) : kV n st u t ∧ kGd σ t := h.2.2.2.2.2.2.2.1.2.2.1 t ht
theorem kIn_iff (h : iE σ K st n u m l) {g : Nat} (hg : kV n st u g) : kIn σ l (kTv σ g) ↔ rwI l g :=
  ⟨fun ⟨t, t1, t2⟩ => kTv_inj h (iE_l h t1).1 hg t2 ▸ t1, fun q => ⟨g, q, rfl⟩⟩
/-- the intruder has the PRIVATE of y, or it is not HONEST -/
def kHp (σ : kS) (l : rwT) (y : Nat) : Prop := σ 238 y = 0 ∨ ∃ t, rwI l t ∧ σ 2 t = nI 7 ∧ σ 3 t = nI y
theorem kM_0 (h : iE σ K st n u m l) {g k : Nat} (hg : kV n st u g) (hk : σ 2 g = nI k) (h3 : k ≤ 3) : kMk σ l g ↔ rwI l g ∨ k = 0 := by
  have e : kTv σ g = .arg g := tvl_0 hk h3
  have i := kIn_iff h hg
  rw [e] at i
  unfold kMk
  rw [e]
  show (kIn σ l (.arg g) ∨ mA σ g) ↔ _
  rw [i]
  have hgn : g < n := by
    rcases hg with hg | hg
    · exact hg
    · have := (h.2.2.2.2.1.2.2.2.2.1 g hg.1 hg.2).1
      rw [hk, fN_nI (by omega)] at this
      omega
  refine or_congr Iff.rfl ⟨fun q => ?_, fun q => ⟨by have := h.2.1; omega, ?_⟩⟩
  · exact nI_inj (hk.symm.trans (((h.2.2.2.1 g hgn).1).trans q.2))
  · rw [← (h.2.2.2.1 g hgn).1, hk, q]
theorem kM_4 (h : iE σ K st n u m l) {g k x y : Nat} (hg : kV n st u g) (hk : σ 2 g = nI k) (hx : σ 3 g = nI x) (hy : σ 4 g = nI y) (h4 : x < g) (h5 : y < g) (h6 : kV n st u x) (h7 : kV n st u y) (h3 : k = 4 ∨ k = 5) : kMk σ l g ↔ rwI l g ∨ (kMk σ l x ∧ kMk σ l y) := by
  have e : kTv σ g = _ := tvl_2 (iE_V h) hk hx hy (by omega) (by omega) h4 h5 h6 h7
  have i := kIn_iff h hg
  rw [e] at i
  unfold kMk
  rw [e, ← i]
  rcases h3 with rfl | rfl
  · exact Iff.rfl
  · exact Iff.rfl
theorem kM_6 (h : iE σ K st n u m l) {g x y : Nat} (hg : kV n st u g) (hk : σ 2 g = nI 6) (hx : σ 3 g = nI x) (hy : σ 4 g = nI y) (h4 : x < g) (h5 : y < g) (h6 : kV n st u x) (h7 : kV n st u y) : kMk σ l g ↔ rwI l g ∨ kMk σ l x := by
  have e : kTv σ g = _ := tvl_2 (iE_V h) hk hx hy (by omega) (by omega) h4 h5 h6 h7
  have i := kIn_iff h hg
  rw [e] at i
  unfold kMk
  rw [e, ← i]
  exact Iff.rfl
theorem kM_9 (h : iE σ K st n u m l) {g x : Nat} (hg : kV n st u g) (hk : σ 2 g = nI 9) (hx : σ 3 g = nI x) (hy : σ 4 g = -1) (h4 : x < g) (h6 : kV n st u x) : kMk σ l g ↔ rwI l g ∨ kMk σ l x := by
  have e : kTv σ g = _ := tvl_1 (iE_V h) hk hx hy (by omega) (by omega) h4 h6
  have i := kIn_iff h hg
  rw [e] at i
  unfold kMk
  rw [e, ← i]
  exact Iff.rfl
theorem vnh_arg {H : Nat → Int32} {y : Nat} : vnh H (.arg y) ↔ H y = 0 := ⟨fun ⟨x, e, hx⟩ => by cases e; exact hx, fun q => ⟨y, rfl, q⟩⟩
theorem kM_7 (h : iE σ K st n u m l) {g x : Nat} (hg : kV n st u g) (hk : σ 2 g = nI 7) (hx : σ 3 g = nI x) (hy : σ 4 g = -1) (h4 : x < g) (h6 : kV n st u x) (h0 : σ 2 x = nI 0) : kMk σ l g ↔ rwI l g ∨ kHp σ l x := by
  have e : kTv σ g = _ := tvl_1 (iE_V h) hk hx hy (by omega) (by omega) h4 h6
  have e0 : tvl (σ 2) (σ 3) (σ 4) x = .arg x := tvl_0 h0 (by decide)
  rw [e0] at e
  have i := kIn_iff h hg
  have hi := i
  rw [e] at i
  unfold kMk
  rw [e]
  show (kIn σ l (.length (.arg x)) ∨ vnh (σ 238) (.arg x)) ↔ _
  rw [vnh_arg, ← hi, e]
  refine ⟨fun q => q.elim Or.inl (fun q => Or.inr (Or.inl q)), fun q => ?_⟩
  rcases q with q | q | ⟨t, t1, t2, t3⟩
  · exact Or.inl q
  · exact Or.inr q
  · refine Or.inl (i.mpr ?_)
    have hx9 := (iE_V h x h6).1
    have : t = g := by
      refine h.2.2.2.2.1.2.2.2.1.2.2 t g (iE_l h t1).1 hg (by rw [t2]; decide) (t2.trans hk.symm) (t3.trans hx.symm) ?_
      rw [hy]
      rcases (iE_V h t (iE_l h t1).1).2 with ⟨k, z3, zk, -, z5⟩ | ⟨k, a, b, z3, zk, -⟩ | ⟨k, a, z3, zk, za, z5, -⟩
      · exact z5
      · have := nI_inj (zk.symm.trans t2)
        omega
      · exact z5
    exact this ▸ t1
theorem kM_8 (h : iE σ K st n u m l) {g x y : Nat} (hg : kV n st u g) (hk : σ 2 g = nI 8) (hx : σ 3 g = nI x) (hy : σ 4 g = nI y) (h4 : x < g) (h5 : y < g) (h6 : kV n st u x) (h7 : kV n st u y) (h0 : σ 2 y = nI 0) : kMk σ l g ↔ rwI l g ∨ (kMk σ l x ∧ kHp σ l y) := by
  have e : kTv σ g = _ := tvl_2 (iE_V h) hk hx hy (by omega) (by omega) h4 h5 h6 h7
  have e0 : tvl (σ 2) (σ 3) (σ 4) y = .arg y := tvl_0 h0 (by decide)
  rw [e0] at e
  have i := kIn_iff h hg
  rw [e] at i
  unfold kMk
  rw [e, ← i]
  show (_ ∨ (kMk σ l x ∧ (vnh (σ 238) (.arg y) ∨ kIn σ l (.length (.arg y))))) ↔ _
  rw [vnh_arg]
  refine or_congr Iff.rfl (and_congr Iff.rfl (or_congr Iff.rfl ⟨fun ⟨t, t1, t2⟩ => ?_, fun ⟨t, t1, t2, t3⟩ => ?_⟩))
  · obtain ⟨a, b, -⟩ := tvl_priv (iE_V h) (iE_l h t1).1 t2
    exact ⟨t, t1, a, b⟩
  · refine ⟨t, t1, ?_⟩
    have hy9 := (iE_V h y h7).1
    rcases (iE_V h t (iE_l h t1).1).2 with ⟨k, z3, zk, z4, z5⟩ | ⟨k, a, b, z3, zk, -⟩ | ⟨k, a, z3, zk, za, z5, z6, z7⟩
    · have := nI_inj (zk.symm.trans t2)
      omega
    · have := nI_inj (zk.symm.trans t2)
      omega
    · have ha9 := (iE_V h a z7).1
      obtain rfl : a = y := nI_inj (za.symm.trans t3)
      obtain rfl : k = 7 := nI_inj (zk.symm.trans t2)
      have e2 : kTv σ t = _ := tvl_1 (iE_V h) zk za z5 (by omega) (by omega) z6 z7
      rw [e2, e0]
      rfl
theorem kM_in (h : iE σ K st n u m l) {g : Nat} (hg : kV n st u g) (hi : rwI l g) (hd : kGd σ g) : kMk σ l g := by
  have hz : ∀ y, y < g → kV n st u y → kAG σ n y → kGd σ y → σ 2 y = nI 0 := fun y _ _ ha hgd => by
    rcases ha.2 with e | ⟨e, -⟩
    · exact e
    · unfold kGd at hgd
      rw [tgd_0 e (by decide)] at hgd
      exact absurd rfl (of_decide_eq_true hgd)
  unfold kGd at hd
  rcases (iE_V h g hg).2 with ⟨k, h3, hk, -, -⟩ | ⟨k, x, y, h3, hk, hx, hy, h4, h5, h6, h7⟩ | ⟨k, x, h3, hk, hx, hy, h4, h6⟩
  · exact (kM_0 h hg hk h3).mpr (Or.inl hi)
  · rw [tgd_2 (iE_V h) hk hx hy (by omega) (by omega) h4 h5 h6 h7, Bool.and_eq_true] at hd
    rcases h3 with rfl | rfl | ⟨rfl | rfl, ha⟩
    · exact (kM_4 h hg hk hx hy h4 h5 h6 h7 (Or.inl rfl)).mpr (Or.inl hi)
    · exact (kM_4 h hg hk hx hy h4 h5 h6 h7 (Or.inr rfl)).mpr (Or.inl hi)
    · exact (kM_6 h hg hk hx hy h4 h5 h6 h7).mpr (Or.inl hi)
    · exact (kM_8 h hg hk hx hy h4 h5 h6 h7 (hz y h5 h7 ha hd.2)).mpr (Or.inl hi)
  · rw [tgd_1 (iE_V h) hk hx hy (by omega) (by omega) h4 h6] at hd
    rcases h3 with rfl | ⟨rfl, ha⟩
    · exact (kM_9 h hg hk hx hy h4 h6).mpr (Or.inl hi)
    · exact (kM_7 h hg hk hx hy h4 h6 (hz x h4 h6 ha hd)).mpr (Or.inl hi)
theorem nI_nm {m : Nat} (h0 : 0 < m) (h1 : m < 2147483647) : nI m ≠ -(nI m) := by
  intro e
  have h2 : ¬ nI m < 0 := nI_pos (by omega)
  rw [e] at h2
  have : (-(nI m)).toInt = -(m : Int) := by
    rw [Int32.toInt_neg, nI_toInt (by omega)]
    rw [Int.bmod_def]
    omega
  rw [Int32.lt_iff_toInt_lt, this] at h2
  have : (0 : Int32).toInt = 0 := rfl
  omega
/-- a mark of what can be made -/
theorem iE_mk (h : iE σ K st n u m l) {g : Nat} {v : Int32} (hg : kV n st u g) (hd : kGd σ g) (hv : (v = nI m ∧ kMk σ l g) ∨ (v = -(nI m) ∧ σ K 13 ≠ 0 ∧ ¬ kMk σ l g) ∨ v = σ (K + 6) g) : iE (va_up σ (K + 6) (upd (σ (K + 6)) g v)) K st n u m l := by
  have hK := isK_b h.1
  have hm := h.2.2.2.2.2.2.1
  have e : ∀ c, c < K ∨ K + 9 ≤ c → va_up σ (K + 6) (upd (σ (K + 6)) g v) c = σ c := fun c hc => up_ne (by omega)
  refine iE_fr h e (up_ne (by omega)) (fun j _ _ => by rw [up_ne (by omega)]) ?_ (fun z z1 z2 => by have q := h.2.2.2.2.2.2.2.2.2 z z1 z2; have zg : z ≠ g := fun e => z2 (e ▸ hg); rw [up_ne (by omega), up_eq, pk_un zg]; exact q) ?_
  · obtain ⟨w1, w2, w3, w4⟩ := h.2.2.2.2.2.1
    unfold kMs
    rw [up_ne (show K ≠ K + 6 by omega), up_ne (show K + 5 ≠ K + 6 by omega), up_ne (show K + 7 ≠ K + 6 by omega), up_eq]
    refine ⟨w1, w2, fun z hz => ?_, w4⟩
    by_cases q : z = g
    · subst q
      rw [pk_us]
      rcases hv with hv | hv | hv
      · exact ⟨m, Nat.le_refl _, Or.inl hv.1⟩
      · exact ⟨m, Nat.le_refl _, Or.inr hv.1⟩
      · rw [hv]
        exact w3 z hz
    · rw [pk_un q]
      exact w3 z hz
  obtain ⟨r1, r2, r3, r4, r5, r6, r7, r8⟩ := h.2.2.2.2.2.2.2.1
  have hmk : ∀ z, kMk (va_up σ (K + 6) (upd (σ (K + 6)) g v)) l z = kMk σ l z := fun z => kMk_c (kFr_c h.1 e (by decide))
  have hc : eqC σ (va_up σ (K + 6) (upd (σ (K + 6)) g v)) kCl := kFr_c h.1 e (by decide)
  have e6 : va_up σ (K + 6) (upd (σ (K + 6)) g v) (K + 6) = upd (σ (K + 6)) g v := up_eq
  unfold kRw
  simp only [hmk]
  rw [up_ne (show K ≠ K + 6 by omega), up_ne (show K + 2 ≠ K + 6 by omega), up_ne (show K + 3 ≠ K + 6 by omega), up_ne (show K + 4 ≠ K + 6 by omega), up_ne (show K + 5 ≠ K + 6 by omega), up_ne (show K + 7 ≠ K + 6 by omega), hc 2 (by decide), hc 3 (by decide), hc 4 (by decide), e6]
  refine ⟨r1, r2, r3, r4, r5, r6, fun t ht => ?_, fun z hz hzd => ?_⟩
  · by_cases q : t = g
    · subst q
      rw [pk_us]
      rcases hv with hv | hv | hv
      · exact hv.1
      · exact absurd (kM_in h hg ht hd) hv.2.2
      · exact hv.trans (r7 t ht)
    · rw [pk_un q]
      exact r7 t ht
  · by_cases q : z = g
    · subst q
      rw [pk_us]
      rcases hv with hv | hv | hv
      · rw [hv.1]
        exact ⟨fun _ => hv.2, fun z => absurd z (nI_nm hm.1 hm.2)⟩
      · rw [hv.1]
        exact ⟨fun z => absurd z.symm (nI_nm hm.1 hm.2), fun _ => hv.2⟩
      · rw [hv]
        exact r8 z hz hzd
    · rw [pk_un q]
      exact r8 z hz hzd
end KM
