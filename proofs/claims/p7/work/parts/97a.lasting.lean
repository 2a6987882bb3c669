/-! the reference: lasting -/
/-- what inOrder tells of a part -/
def loV (l : List Nat) (n k : Nat) (v c : Int32) : Prop := (v = -1 ∧ c = -1001) ∨ (∃ y, y < n ∧ v = nI y ∧ c = nI y - 1000) ∨ ∃ i, ∃ h : i < l.length, i < k ∧ v = nI (l[i]'h) ∧ c = nI i
/-- .. and where it comes to lie -/
def loT (l : List Nat) (n k : Nat) (v w : Int32) : Prop := (v = -1 ∧ w = -1) ∨ (∃ y, y < n ∧ v = nI y ∧ w = nI y) ∨ ∃ i, ∃ h : i < l.length, i < k ∧ v = nI (l[i]'h) ∧ w = nI (n + i)
set_option maxRecDepth 100000 in
set_option maxHeartbeats 4000000 in
theorem lo_neg : ∀ y : Fin 200, nI y.1 - 1000 < 0 := by decide
theorem loT_of {l : List Nat} {n k : Nat} {v c : Int32} (hn : n ≤ 200) (hl : l.length ≤ 600) (h : loV l n k v c) : loT l n k v (if c < 0 then c + 1000 else nI n + c) := by
  rcases h with ⟨h1, h2⟩ | ⟨y, h1, h2, h3⟩ | ⟨i, h0, h1, h2, h3⟩
  · left
    subst h2
    exact ⟨h1, by rw [if_pos (by decide)]; decide⟩
  · refine Or.inr (Or.inl ⟨y, h1, h2, ?_⟩)
    have : c < 0 := by
      rw [h3]
      exact lo_neg ⟨y, by omega⟩
    rw [if_pos this, h3, Int32.sub_add_cancel]
  · refine Or.inr (Or.inr ⟨i, h0, h1, h2, ?_⟩)
    rw [h3, if_neg (nI_pos (by omega)), nI_add]
/-- two parts that come to lie at one place are one -/
theorem loT_inj {l : List Nat} {n k k' : Nat} {v v' w : Int32} (hn : n ≤ 200) (hl : l.length ≤ 600) (h1 : loT l n k v w) (h2 : loT l n k' v' w) : v = v' := by
  rcases h1 with ⟨a1, a2⟩ | ⟨y, y1, y2, y3⟩ | ⟨i, i0, i1, i2, i3⟩ <;> rcases h2 with ⟨b1, b2⟩ | ⟨z, z1, z2, z3⟩ | ⟨j, j0, j1, j2, j3⟩
  · rw [a1, b1]
  · exact absurd (z3.symm.trans a2) (nI_m1 (by omega))
  · exact absurd (j3.symm.trans a2) (nI_m1 (by omega))
  · exact absurd (y3.symm.trans b2) (nI_m1 (by omega))
  · have := nI_inj (y3.symm.trans z3)
    subst this
    rw [y2, z2]
  · have := nI_inj (y3.symm.trans j3)
    omega
  · exact absurd (i3.symm.trans b2) (nI_m1 (by omega))
  · have := nI_inj (i3.symm.trans z3)
    omega
  · have := nI_inj (i3.symm.trans j3)
    have : i = j := by omega
    subst this
    rw [i2, j2]
/-- a part below n lies where it lay -/
theorem loT_low {l : List Nat} {n k p : Nat} {v : Int32} (hn : n ≤ 200) (hl : l.length ≤ 600) (h : loT l n k v (nI p)) (hp : p < n) : v = nI p := by
  rcases h with ⟨a1, a2⟩ | ⟨y, y1, y2, y3⟩ | ⟨i, i0, i1, i2, i3⟩
  · exact absurd a2 (nI_m1 (by omega))
  · rw [y2, y3]
  · have := nI_inj i3
    omega
set_option maxRecDepth 100000 in
set_option maxHeartbeats 4000000 in
theorem mr_code (L : Nat) (xs : Nat → Int32) (d : Nat) (σ : kS) (l : List Nat) (n k y : Nat) (hl : lst (σ 279) l) (h600 : l.length ≤ 600) (hlx : ∀ t ∈ l, 200 ≤ t ∧ t < 1000) (hn : n ≤ 200) (hy : y < 1000) (h1 : y < 200 → y < n) (h2 : 200 ≤ y → y ∈ l.take k) : kXM kT L xs (d + 1) 201 [.ref 232, .int (nI y)] σ (fun r σ' => (∃ c, r = some (.int c) ∧ loV l n k (nI y) c) ∧ σ = σ') := by
  by_cases e : y < 200
  · refine kXM_mono (mr_inOrderN L xs d σ y e) (fun r σ' q => ?_)
    obtain ⟨rfl, rfl⟩ := q
    exact ⟨⟨_, rfl, Or.inr (Or.inl ⟨y, h1 e, rfl, rfl⟩)⟩, rfl⟩
  · obtain ⟨i, i1, i2, i3⟩ := first_idx _ (h2 (by omega))
    have i4 : i < k ∧ i < l.length := by
      rw [List.length_take] at i1
      omega
    rw [List.getElem_take] at i2
    have := mr_inOrder L xs d σ l i i4.2 hl h600 (by rw [i2]; omega) (fun t ht => (hlx t ht).2) (fun j hj hji => by
      have := i3 j (by rw [List.length_take]; omega) hji
      rw [List.getElem_take] at this
      rw [i2]
      exact this)
    rw [i2] at this
    refine kXM_mono this (fun r σ' q => ?_)
    obtain ⟨rfl, rfl⟩ := q
    exact ⟨⟨_, rfl, Or.inr (Or.inr ⟨i, i4.2, i4.1, by rw [i2], rfl⟩)⟩, rfl⟩
def loS (σ : kS) (NK NF NS : Nat → Int32) : kS := va_up (va_up (va_up σ 281 NK) 282 NF) 283 NS
/-- the new rows up to k -/
def loI (σ : kS) (n : Nat) (l : List Nat) (NK NF NS : Nat → Int32) (k : Nat) : Prop := ∀ j (h : j < l.length), j < k → NK j = σ 233 (l[j]'h) ∧ loV l n j (σ 234 (l[j]'h)) (NF j) ∧ loV l n j (σ 235 (l[j]'h)) (NS j)
theorem loI_push {σ : kS} {n k : Nat} {l : List Nat} {NK NF NS : Nat → Int32} {a c e : Int32} (h : loI σ n l NK NF NS k) (hk : k < l.length) (h1 : a = σ 233 l[k]) (h2 : loV l n k (σ 234 l[k]) c) (h3 : loV l n k (σ 235 l[k]) e) : loI σ n l (upd NK k a) (upd NF k c) (upd NS k e) (k + 1) := by
  intro j hj hjk
  by_cases q : j = k
  · subst q
    rw [pk_us, pk_us, pk_us]
    exact ⟨h1, h2, h3⟩
  · rw [pk_un q, pk_un q, pk_un q]
    exact h j hj (by omega)
set_option maxRecDepth 100000 in
set_option maxHeartbeats 4000000 in
theorem mr_lo_one (L : Nat) (xs : Nat → Int32) (d : Nat) (σ : kS) (n b : Nat) (l : List Nat) (h : mTb σ n b) (hb : b ≤ 776) (hl : lst (σ 279) l) (ho : σ 232 61 = nI l.length) (hL : foL σ b l) (tv : Int32) (Q : Option Value → kS → Prop)
    (he : ∀ NK NF NS, loI σ n l NK NF NS l.length → kX kT L xs (d + 2) 203 118 [(0, .ref 232), (1, .int tv)] [] (loS σ NK NF NS) Q) :
    ∀ q : Nat × (Nat → Int32) × (Nat → Int32) × (Nat → Int32), (q.1 ≤ l.length ∧ loI σ n l q.2.1 q.2.2.1 q.2.2.2 q.1) → kX kT L xs (d + 2) 203 25 [(2, .int (nI q.1)), (0, .ref 232), (1, .int tv)] [] (loS σ q.2.1 q.2.2.1 q.2.2.2) Q := by
  have hll := foL_len hL hb
  have hn := h.1
  have hV := h.2.2.2.2.2.1.1
  refine kX_while (fun q : Nat × (Nat → Int32) × (Nat → Int32) × (Nat → Int32) => [(2, .int (nI q.1)), (0, .ref 232), (1, .int tv)]) (fun q => loS σ q.2.1 q.2.2.1 q.2.2.2) _ (fun q => l.length - q.1) ?_
  rintro ⟨k, NK, NF, NS⟩ ⟨i1, i2⟩ ih
  dsimp only at i1 i2 ih ⊢
  iterate 3 (refine kX_one rfl ?_)
  refine kX_top (ho) ?_
  repeat refine kX_one rfl ?_
  refine kX_if (fun q => ?_) (fun q => ?_)
  · have q := qge q k l.length
    have : k = l.length := by omega
    subst this
    exact kX_lv _ rfl rfl rfl (he NK NF NS i2)
  · have q := qgeF q k l.length
    obtain ⟨x1, x2, x3⟩ := hL.1 _ (List.getElem_mem q)
    have hcl := hL.2.2.1 k q
    have hlk := hl k q
    generalize hx : l[k] = x at x1 x2 x3 hcl hlk
    have hlx : ∀ t ∈ l, 200 ≤ t ∧ t < 1000 := fun t ht => ⟨(hL.1 t ht).1, by have := (hL.1 t ht).2.1; omega⟩
    have k111 : ∀ c e, loV l n k (σ 234 x) c → loV l n k (σ 235 x) e → kX kT L xs (d + 2) 203 111 [(2, .int (nI k)), (0, .ref 232), (1, .int tv)] [.int e, .int (nI k), .ref 283] (loS σ (upd NK k (σ 233 x)) (upd NF k c) NS) Q := by
      intro c e hc he'
      refine kX_iastN rfl rfl (by decide) (k) (by first | rfl | decide) (by omega) ?_
      iterate 2 (refine kX_one rfl ?_)
      have := ih (k + 1, upd NK k (σ 233 x), upd NF k c, upd NS k e) ⟨by simp only; omega, by
        rw [← hx] at hc he' ⊢
        exact loI_push i2 q rfl hc he'⟩ (by simp only; omega)
      dsimp only at this
      rw [← nI_1] at this
      refine kX_to _ _ rfl rfl rfl ?_ this
      funext c; unfold loS va_up; repeat' split
      all_goals first | rfl | omega | (subst_vars; rfl) | (funext j; unfold upd; repeat' split; all_goals first | rfl | omega | (subst_vars; rfl))
    have hpart : ∀ y, (σ 234 x = nI y ∨ σ 235 x = nI y) → mv n b y → y < 1000 ∧ (y < 200 → y < n) ∧ (200 ≤ y → y ∈ l.take k) := by
      intro y hy hm
      unfold mv at hm
      exact ⟨by omega, by omega, fun z => hcl y z hy (by omega)⟩
    have k71 : ∀ c, loV l n k (σ 234 x) c → ((∃ z, σ 235 x = nI z ∧ mv n b z) ∨ σ 235 x = -1) → kX kT L xs (d + 2) 203 71 [(2, .int (nI k)), (0, .ref 232), (1, .int tv)] [] (loS σ (upd NK k (σ 233 x)) (upd NF k c) NS) Q := by
      intro c hc hse
      iterate 8 (refine kX_one rfl ?_)
      refine kX_ialdV rfl rfl (by decide) (k) (by first | rfl | decide) (by omega) (hlk) ?_
      rcases hse with ⟨z, z1, z2⟩ | hse
      · obtain ⟨p1, p2, p3⟩ := hpart z (Or.inr z1) z2
        refine kX_ialdV rfl rfl (by decide) (x) (by first | rfl | decide) (by omega) (z1) ?_
        repeat refine kX_one rfl ?_
        refine kX_ifT (decide_eq_true (Int32.not_lt.mp (nI_pos (by omega)))) ?_
        iterate 6 (refine kX_one rfl ?_)
        refine kX_ialdV rfl rfl (by decide) (k) (by first | rfl | decide) (by omega) (hlk) ?_
        refine kX_ialdV rfl rfl (by decide) (x) (by first | rfl | decide) (by omega) (z1) ?_
        refine kX_cal (mr_code L xs d _ l n k z hl (by omega) hlx hn p1 p2 p3) rfl (Or.inr rfl) rfl rfl rfl (fun r1 σ1 q1 => ?_)
        obtain ⟨⟨e, rfl, he2⟩, rfl⟩ := q1
        exact k111 c e hc (by rw [z1]; exact he2)
      · refine kX_ialdV rfl rfl (by decide) (x) (by first | rfl | decide) (by omega) (hse) ?_
        iterate 3 (refine kX_one rfl ?_)
        exact k111 c (-1001) hc (Or.inl ⟨hse, rfl⟩)
    have k33 : ∀ y, σ 234 x = nI y → mv n b y → ((∃ z, σ 235 x = nI z ∧ mv n b z) ∨ σ 235 x = -1) → kX kT L xs (d + 2) 203 33 [(2, .int (nI k)), (0, .ref 232), (1, .int tv)] [] (loS σ NK NF NS) Q := by
      intro y y1 y2 hse
      obtain ⟨p1, p2, p3⟩ := hpart y (Or.inl y1) y2
      iterate 8 (refine kX_one rfl ?_)
      refine kX_ialdV rfl rfl (by decide) (k) (by first | rfl | decide) (by omega) (hlk) ?_
      refine kX_ialdN rfl rfl (by decide) (x) (by first | rfl | decide) (by omega) ?_
      refine kX_iastN rfl rfl (by decide) (k) (by first | rfl | decide) (by omega) ?_
      iterate 9 (refine kX_one rfl ?_)
      refine kX_ialdV rfl rfl (by decide) (k) (by first | rfl | decide) (by omega) (hlk) ?_
      refine kX_ialdV rfl rfl (by decide) (x) (by first | rfl | decide) (by omega) (y1) ?_
      refine kX_cal (mr_code L xs d _ l n k y hl (by omega) hlx hn p1 p2 p3) rfl (Or.inr rfl) rfl rfl rfl (fun r1 σ1 q1 => ?_)
      obtain ⟨⟨c, rfl, hc⟩, rfl⟩ := q1
      refine kX_iastN rfl rfl (by decide) (k) (by first | rfl | decide) (by omega) ?_
      refine kX_st (loS σ (upd NK k (σ 233 x)) (upd NF k c) NS) ?_ (k71 c (by rw [y1]; exact hc) hse)
      funext c; unfold loS va_up; repeat' split
      all_goals first | rfl | omega | (subst_vars; rfl) | (funext j; unfold upd; repeat' split; all_goals first | rfl | omega | (subst_vars; rfl))
    rcases (hV x (Or.inr ⟨x1, x2⟩)).2 with ⟨k', h3, hk, -, -⟩ | ⟨k', y, z, h3, hk, hy, hz2, h4, h5, h6, h7⟩ | ⟨k', y, h3, hk, hy, hz2, h4, h6⟩
    · have := h.2.2.2.2.2.2.2.2.1 x x1 x2
      rw [hk, fN_nI (by omega)] at this
      omega
    · exact k33 y hy h6 (Or.inl ⟨z, hz2, h7⟩)
    · exact k33 y hy h6 (Or.inr hz2)
