/-! alike: event, its plan -/
/-- levels below K are found; above, there are marks alone -/
def lvI (σ : kS) (TL : List Nat) (t m : Nat) (bl : List Nat) (M LV : Nat → Int32) (K : Nat) : Prop := mkI σ TL t M 0 ∧ (∀ j, j < 200 → (K ≤ j ∨ M j = -1) → LV j = M j) ∧ ∀ j, j < K → j ≤ t → M j = 0 → ∃ l, l ≤ m ∧ LV j = nI l ∧ (∀ w ∈ tvs (σ 233) (σ 234) (σ 235) j, ∀ i (hi : i < bl.length), bl[i]'hi = w → i + 1 ≤ l) ∧ (opn σ j → (∃ l', l' ≤ l ∧ LV (fN (σ 234 j)) = nI l') ∧ (σ 235 j = -1 ∨ ∃ l', l' ≤ l ∧ LV (fN (σ 235 j)) = nI l'))
theorem jmax (x y : Nat) (hx : x < 1000) (hy : y < 1000) : ∃ z, jmmv 1 (nI x) (nI y) = nI z ∧ x ≤ z ∧ y ≤ z ∧ (z = x ∨ z = y) := by
  unfold jmmv
  rw [if_pos rfl]
  by_cases h : nI x < nI y
  · rw [if_pos h]
    have := (nI_ltI (by omega) (by omega)).mp h
    exact ⟨y, rfl, by omega, by omega, Or.inr rfl⟩
  · rw [if_neg h]
    have : ¬ x < y := fun z => h ((nI_ltI (by omega) (by omega)).mpr z)
    exact ⟨x, rfl, by omega, by omega, Or.inl rfl⟩
/-- one level more is found -/
theorem lvI_step {σ τ : kS} {TL : List Nat} {n b t m u a : Nat} {bl : List Nat} {M LV : Nat → Int32} {y : Int32} (hI : mTb σ n b) (ht : t < n) (hbl : bl.length = m) (hm : m ≤ 6) (hbn : ∀ i (hi : i < bl.length), τ (a + 1) i = σ 241 (bl[i]'hi)) (hbi : ∀ i (hi : i < bl.length), ∀ j (hj : j < bl.length), σ 241 (bl[i]'hi) = σ 241 (bl[j]'hj) → i = j) (hbk : ∀ w ∈ bl, w < n ∧ σ 233 w = nI 3) (h : lvI σ TL t m bl M LV u) (hu : u ≤ t) (hmu : M u = 0) (hy : lvR τ a m u y) (e1 : τ 22 = LV) (e2 : τ 234 = σ 234) (e3 : τ 235 = σ 235) (e4 : τ 233 = σ 233) (e5 : τ 241 = σ 241) : lvI σ TL t m bl M (upd LV u y) (u + 1) := by
  obtain ⟨h1, h2, h3⟩ := h
  have hn := hI.1
  have hop : opn τ u ↔ opn σ u := by
    unfold opn
    rw [e2, e3, e4]
  have hyl : ∃ l, l ≤ m ∧ y = nI l ∧ (∀ w ∈ tvs (σ 233) (σ 234) (σ 235) u, ∀ i (hi : i < bl.length), bl[i]'hi = w → i + 1 ≤ l) ∧ (opn σ u → (∃ l', l' ≤ l ∧ LV (fN (σ 234 u)) = nI l') ∧ (σ 235 u = -1 ∨ ∃ l', l' ≤ l ∧ LV (fN (σ 235 u)) = nI l')) := by
    rcases hy with ⟨g1, g2⟩ | ⟨g1, g2⟩
    · have go := hop.mp g1
      obtain ⟨x, x1, x2, x3⟩ := opn_2 hI (by omega) go
      obtain ⟨c1, c2⟩ := h1.2.2.2 u (Nat.zero_le _) hu hmu go
      rw [e2, e3, e1, x2, fN_nI (by omega)] at g2
      rw [x2, fN_nI (by omega)] at c1 ⊢
      obtain ⟨l1, a1, a2, a3, -⟩ := h3 x x1 (by omega) c1
      rcases x3 with ⟨z, z1, z2, z3⟩ | ⟨z2, z3⟩
      · rw [z2, fN_nI (by omega), if_neg (nI_m1 (by omega)), a2] at g2
        rw [z2, fN_nI (by omega)] at c2 ⊢
        have c2 := c2.elim (fun q => absurd q (nI_m1 (by omega))) id
        obtain ⟨l2, b1, b2, b3, -⟩ := h3 z z1 (by omega) c2
        rw [b2] at g2
        obtain ⟨w, w1, w2, w3, w4⟩ := jmax l1 l2 (by omega) (by omega)
        rw [w1] at g2
        refine ⟨w, by omega, g2, fun p hp i hi hb => ?_, fun _ => ⟨⟨l1, w2, a2⟩, Or.inr ⟨l2, w3, b2⟩⟩⟩
        rw [z3] at hp
        rcases List.mem_append.mp hp with hp | hp
        · have := a3 p hp i hi hb
          omega
        · have := b3 p hp i hi hb
          omega
      · rw [z2, if_pos rfl, a2] at g2
        obtain ⟨w, w1, w2, w3, w4⟩ := jmax l1 0 (by omega) (by omega)
        have g2 : y = nI w := g2.trans w1
        refine ⟨w, by omega, g2, fun p hp i hi hb => ?_, fun _ => ⟨⟨l1, w2, a2⟩, Or.inl z2⟩⟩
        rw [z3, List.append_nil] at hp
        have := a3 p hp i hi hb
        omega
    · have gno : ¬ opn σ u := fun z => g1 (hop.mpr z)
      have hvar : ∀ w ∈ tvs (σ 233) (σ 234) (σ 235) u, w = u ∧ σ 233 u = nI 3 := fun w hw => by
        by_cases hg : tgd (σ 233) (σ 234) (σ 235) u = true
        · rw [(tgd_tvs (mTb_num hI) u (show u < n by omega)).mp hg] at hw
          cases hw
        · have h3' : σ 233 u = nI 3 := Classical.byContradiction (fun z => gno ⟨by cases h : tgd (σ 233) (σ 234) (σ 235) u <;> simp_all, z⟩)
          have ev : tvs (σ 233) (σ 234) (σ 235) u = if σ 233 u = nI 3 then [u] else [] := tA_0 h3' (by omega)
          rw [ev, if_pos h3'] at hw
          exact ⟨List.mem_singleton.mp hw, h3'⟩
      rcases g2 with ⟨g2, g3⟩ | ⟨j, j1, j2, j3, j4, j5⟩
      · refine ⟨0, by omega, g2, fun w hw i hi hb => ?_, fun z => absurd z gno⟩
        obtain ⟨rfl, hk3⟩ := hvar w hw
        exfalso
        rw [e4, e5] at g3
        exact g3 i (by omega) hk3 (by rw [hbn i hi, hb])
      · refine ⟨j + 1, by omega, j2, fun w hw i hi hb => ?_, fun z => absurd z gno⟩
        obtain ⟨rfl, hk3⟩ := hvar w hw
        rw [e5, hbn j (by omega)] at j4
        have := hbi i hi j (by omega) (by rw [hb, j4])
        omega
  obtain ⟨l, y1, y2, y3, y4⟩ := hyl
  refine ⟨h1, fun j hj hq => ?_, fun j hj hjt hmj => ?_⟩
  · have hne : j ≠ u := fun e => by
      subst e
      rcases hq with hq | hq
      · omega
      · rw [hmu] at hq
        exact absurd hq (by decide)
    rw [pk_un hne]
    exact h2 j hj (hq.imp (fun z => by omega) id)
  · have hch : ∀ v, v < u → upd LV u y v = LV v := fun v hv => pk_un (by omega)
    by_cases e : j = u
    · subst e
      rw [pk_us]
      refine ⟨l, y1, y2, y3, fun ho => ?_⟩
      obtain ⟨x, x1, x2, x3⟩ := opn_2 hI (by omega) ho
      obtain ⟨c1, c2⟩ := y4 ho
      rw [x2, fN_nI (by omega)] at c1 ⊢
      rw [hch x x1]
      refine ⟨c1, ?_⟩
      rcases x3 with ⟨z, z1, z2, -⟩ | ⟨z2, -⟩
      · rw [z2, fN_nI (by omega)] at c2 ⊢
        rw [hch z z1]
        exact c2
      · exact Or.inl z2
    · rw [pk_un e]
      obtain ⟨l', a1, a2, a3, a4⟩ := h3 j (by omega) hjt hmj
      refine ⟨l', a1, a2, a3, fun ho => ?_⟩
      obtain ⟨x, x1, x2, x3⟩ := opn_2 hI (by omega) ho
      obtain ⟨c1, c2⟩ := a4 ho
      rw [x2, fN_nI (by omega)] at c1 ⊢
      rw [hch x (by omega)]
      refine ⟨c1, ?_⟩
      rcases x3 with ⟨z, z1, z2, -⟩ | ⟨z2, -⟩
      · rw [z2, fN_nI (by omega)] at c2 ⊢
        rw [hch z (by omega)]
        exact c2
      · exact Or.inl z2
theorem sub_len {l TL : List Nat} {m : Nat} (hn : l.Pairwise (fun x y => x ≠ y)) (hs : ∀ x ∈ l, x ∈ TL) (hb : ∀ x ∈ l, x < m) : l.length ≤ TL.length := by
  rw [← cnt_mem2 l hn hb]
  exact Nat.le_trans (cnt_mono hs m) (cnt_mem TL m)
/-- parts so far: levels below k, and of level k the numbers below u -/
def plQ (σ τ : kS) (a t : Nat) (M LV : Nat → Int32) (pl : List Nat) (k u : Nat) : Prop := τ a 7 = nI pl.length ∧ lst (τ (a + 3)) pl ∧ pl.Pairwise (fun x y => x ≠ y) ∧ (∀ w, w ∈ pl ↔ w ≤ t ∧ M w = 0 ∧ ∃ l, l ≤ 6 ∧ LV w = nI l ∧ (l < k ∨ (l = k ∧ w < u))) ∧ ∀ i (h : i < pl.length), opn σ (pl[i]'h) → (∃ j, ∃ (hj : j < pl.length), j < i ∧ σ 234 (pl[i]'h) = nI (pl[j]'hj)) ∧ (σ 235 (pl[i]'h) = -1 ∨ ∃ j, ∃ (hj : j < pl.length), j < i ∧ σ 235 (pl[i]'h) = nI (pl[j]'hj))
def plW (τ : kS) (a : Nat) (LV : Nat → Int32) (pl : List Nat) (k : Nat) : Prop := ∀ j, j < k → ∃ f, f ≤ pl.length ∧ τ (a + 4) j = nI f ∧ ∀ i (h : i < pl.length), i < f → ∃ l, LV (pl[i]'h) = nI l ∧ l ≤ 6 ∧ l < j
theorem plQ_skip {σ τ : kS} {a t k u : Nat} {M LV : Nat → Int32} {pl : List Nat} (hk : k ≤ 6) (h : plQ σ τ a t M LV pl k u) (hu : ¬ (u ≤ t ∧ M u = 0 ∧ LV u = nI k)) : plQ σ τ a t M LV pl k (u + 1) := by
  obtain ⟨h1, h2, h3, h4, h5⟩ := h
  refine ⟨h1, h2, h3, fun w => ?_, h5⟩
  rw [h4]
  refine and_congr_right (fun w1 => and_congr_right (fun w2 => exists_congr (fun l => and_congr_right (fun l1 => and_congr_right (fun l2 => ?_)))))
  constructor
  · rintro (q | q)
    · exact Or.inl q
    · exact Or.inr ⟨q.1, by omega⟩
  · rintro (q | q)
    · exact Or.inl q
    · refine Or.inr ⟨q.1, ?_⟩
      have : w ≠ u := fun e => hu (by rw [← e]; exact ⟨w1, w2, by rw [l2, q.1]⟩)
      omega
theorem plQ_add {σ τ τ' : kS} {TL : List Nat} {n b a t m k u : Nat} {bl : List Nat} {M LV : Nat → Int32} {pl : List Nat} (hI : mTb σ n b) (ht : t < n) (hL : lvI σ TL t m bl M LV (t + 1)) (hm6 : m ≤ 6) (h : plQ σ τ a t M LV pl k u) (hk : k ≤ m) (hu : u ≤ t) (hmu : M u = 0) (hl : LV u = nI k) (e1 : τ' a 7 = nI (pl.length + 1)) (e2 : τ' (a + 3) = upd (τ (a + 3)) pl.length (nI u)) : plQ σ τ' a t M LV (pl ++ [u]) k (u + 1) := by
  obtain ⟨h1, h2, h3, h4, h5⟩ := h
  have hn := hI.1
  have hnot : u ∉ pl := fun z => by
    obtain ⟨-, -, l, l1, l2, l3⟩ := (h4 u).mp z
    have := nI_inj (hl.symm.trans l2)
    omega
  refine ⟨by rw [e1, List.length_append]; rfl, by rw [e2]; exact lst_push h2 u, ?_, fun w => ?_, fun i hi ho => ?_⟩
  · refine List.pairwise_append.mpr ⟨h3, List.pairwise_singleton _ _, fun x hx y hy e => ?_⟩
    rw [List.mem_singleton.mp hy] at e
    exact hnot (e ▸ hx)
  · rw [List.mem_append, List.mem_singleton, h4]
    constructor
    · rintro (⟨w1, w2, l, l1, l2, l3⟩ | rfl)
      · exact ⟨w1, w2, l, l1, l2, l3.imp id (fun q => ⟨q.1, by omega⟩)⟩
      · exact ⟨hu, hmu, k, by omega, hl, Or.inr ⟨rfl, by omega⟩⟩
    · rintro ⟨w1, w2, l, l1, l2, l3⟩
      by_cases e : w = u
      · exact Or.inr e
      · exact Or.inl ⟨w1, w2, l, l1, l2, l3.imp id (fun q => ⟨q.1, by omega⟩)⟩
  · have lift : ∀ j (hj : j < pl.length), (pl ++ [u])[j]'(by rw [List.length_append]; exact Nat.lt_succ_of_lt hj) = pl[j] := fun j hj => List.getElem_append_left hj
    rw [List.length_append] at hi
    simp only [List.length_cons, List.length_nil] at hi
    by_cases e : i < pl.length
    · rw [lift i e] at ho ⊢
      obtain ⟨⟨j, j1, j2, j3⟩, g⟩ := h5 i e ho
      refine ⟨⟨j, by rw [List.length_append]; exact Nat.lt_succ_of_lt j1, j2, by rw [lift j j1]; exact j3⟩, ?_⟩
      rcases g with g | ⟨j', y1, y2, y3⟩
      · exact Or.inl g
      · exact Or.inr ⟨j', by rw [List.length_append]; exact Nat.lt_succ_of_lt y1, y2, by rw [lift j' y1]; exact y3⟩
    · obtain rfl : i = pl.length := by omega
      have eu : (pl ++ [u])[pl.length]'(by simp) = u := by simp
      rw [eu] at ho ⊢
      -- what u is of has come before
      have child : ∀ x, x < u → M x = 0 → (∃ l', l' ≤ k ∧ LV x = nI l') → ∃ j, ∃ (hj : j < (pl ++ [u]).length), j < pl.length ∧ nI x = nI ((pl ++ [u])[j]'hj) := fun x hx hmx ⟨l', a1, a2⟩ => by
        have hin : x ∈ pl := (h4 x).mpr ⟨by omega, hmx, l', by omega, a2, by omega⟩
        obtain ⟨j, hj, e⟩ := List.mem_iff_getElem.mp hin
        exact ⟨j, by rw [List.length_append]; exact Nat.lt_succ_of_lt hj, hj, by rw [lift j hj, e]⟩
      obtain ⟨x, x1, x2, x3⟩ := opn_2 hI (by omega) ho
      obtain ⟨c1, c2⟩ := hL.1.2.2.2 u (Nat.zero_le _) hu hmu ho
      obtain ⟨l, l1, l2, -, l4⟩ := hL.2.2 u (by omega) hu hmu
      have hlk : l = k := nI_inj (l2.symm.trans hl)
      obtain ⟨d1, d2⟩ := l4 ho
      rw [hlk] at d1 d2
      rw [x2, fN_nI (by omega)] at c1 d1
      rw [x2]
      refine ⟨child x x1 c1 d1, ?_⟩
      rcases x3 with ⟨z, z1, z2, -⟩ | ⟨z2, -⟩
      · rw [z2, fN_nI (by omega)] at c2 d2
        rw [z2]
        exact Or.inr (child z z1 (c2.elim (fun q => absurd q (nI_m1 (by omega))) id) (d2.elim (fun q => absurd q (nI_m1 (by omega))) id))
      · exact Or.inl z2
theorem plW_app {τ τ' : kS} {a k u : Nat} {LV : Nat → Int32} {pl : List Nat} (h : plW τ a LV pl k) (e : τ' (a + 4) = τ (a + 4)) : plW τ' a LV (pl ++ [u]) k := fun j hj => by
  obtain ⟨f, f1, f2, f3⟩ := h j hj
  refine ⟨f, by rw [List.length_append]; omega, by rw [e]; exact f2, fun i hi hif => ?_⟩
  rw [List.getElem_append_left (show i < pl.length by omega)]
  exact f3 i (by omega) hif
