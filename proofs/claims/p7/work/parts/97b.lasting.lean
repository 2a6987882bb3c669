/-! the reference: lasting, the new TERMS -/
theorem mGr_trans {σ τ ρ : kS} {n m : Nat} (h1 : mGr σ τ n) (h2 : mGr τ ρ m) (hm : n ≤ m) : mGr σ ρ n :=
  ⟨fun c hc => (h2.1 c hc).trans (h1.1 c hc), fun j hj => (h2.2.1 j hj).trans (h1.2.1 j hj), fun u hu => ⟨(h2.2.2 u (by omega)).1.trans (h1.2.2 u hu).1, (h2.2.2 u (by omega)).2.1.trans (h1.2.2 u hu).2.1, (h2.2.2 u (by omega)).2.2.trans (h1.2.2 u hu).2.2⟩⟩
/-- the TERMS of l, laid from n on, up to k -/
def loK (σ τ : kS) (n : Nat) (l : List Nat) (k : Nat) : Prop := ∀ j (h : j < l.length), j < k → τ 233 (n + j) = σ 233 (l[j]'h) ∧ loT l n j (σ 234 (l[j]'h)) (τ 234 (n + j)) ∧ loT l n j (σ 235 (l[j]'h)) (τ 235 (n + j))
/-- a TERM of two, one of one: what lies at l's -/
theorem lo_tok {σ : kS} {n b x : Nat} (h : mTb σ n b) (h1 : 200 ≤ x) (h2 : x < b) : (∃ kd p q, (kd = 4 ∨ kd = 5 ∨ ((kd = 6 ∨ kd = 8) ∧ mAG σ n q)) ∧ σ 233 x = nI kd ∧ σ 234 x = nI p ∧ σ 235 x = nI q ∧ p < x ∧ q < x ∧ mv n b p ∧ mv n b q) ∨ ∃ kd p, (kd = 9 ∨ (kd = 7 ∧ mAG σ n p)) ∧ σ 233 x = nI kd ∧ σ 234 x = nI p ∧ σ 235 x = -1 ∧ p < x ∧ mv n b p := by
  rcases (h.2.2.2.2.2.1.1 x (Or.inr ⟨h1, h2⟩)).2 with ⟨k', h3, hk, -, -⟩ | q | q
  · have := h.2.2.2.2.2.2.2.2.1 x h1 h2
    rw [hk, fN_nI (by omega)] at this
    omega
  · exact Or.inl q
  · exact Or.inr q
theorem loT_num {l : List Nat} {n k p : Nat} {w : Int32} (h : loT l n k (nI p) w) (hp : p < 1000) : ∃ p', w = nI p' ∧ p' < n + k := by
  rcases h with ⟨a1, a2⟩ | ⟨y, y1, y2, y3⟩ | ⟨i, i0, i1, i2, i3⟩
  · exact absurd a1 (nI_m1 (by omega))
  · exact ⟨y, y3, by omega⟩
  · exact ⟨n + i, i3, by omega⟩
theorem loT_m1 {l : List Nat} {n k : Nat} {w : Int32} (h : loT l n k (-1) w) (hn : n ≤ 200) (hl : ∀ x ∈ l, x < 1000) : w = -1 := by
  rcases h with ⟨a1, a2⟩ | ⟨y, y1, y2, y3⟩ | ⟨i, i0, i1, i2, i3⟩
  · exact a2
  · exact absurd y2.symm (nI_m1 (by omega))
  · exact absurd i2.symm (nI_m1 (by have := hl _ (List.getElem_mem i0); omega))
theorem loT_sz {σ τ : kS} {n b bk k : Nat} {l : List Nat} (h : mTb σ n b) (hb : b ≤ 776) (hT : mTb τ (n + k) bk) (hG : mGr σ τ n) (hL : ∀ x ∈ l, 200 ≤ x ∧ x < b) (hll : l.length ≤ 576) (hK : loK σ τ n l k) : ∀ j (hj : j < l.length), j < k → tsz (τ 233) (τ 234) (τ 235) (n + j) = tsz (σ 233) (σ 234) (σ 235) l[j] := by
  intro j
  induction j using Nat.strongRecOn with
  | _ j ih =>
    intro hj hjk
    have hn := h.1
    obtain ⟨x1, x2⟩ := hL _ (List.getElem_mem hj)
    obtain ⟨e1, e2, e3⟩ := hK j hj hjk
    have hV := h.2.2.2.2.2.1.1
    have hV' := hT.2.2.2.2.2.1.1
    have hnum : ∀ p, p < n → tsz (τ 233) (τ 234) (τ 235) p = tsz (σ 233) (σ 234) (σ 235) p := fun p hp => tA_congr (mTb_num h) (fun u hu => ⟨(hG.2.2 u hu).1, (hG.2.2 u hu).2.1, (hG.2.2 u hu).2.2, rfl⟩) p hp
    have hpart : ∀ p w, p < 1000 → loT l n j (nI p) w → ∃ p', w = nI p' ∧ p' < n + j ∧ tsz (τ 233) (τ 234) (τ 235) p' = tsz (σ 233) (σ 234) (σ 235) p := by
      intro p w hp hq
      rcases hq with ⟨a1, a2⟩ | ⟨y, y1, y2, y3⟩ | ⟨i, i0, i1, i2, i3⟩
      · exact absurd a1 (nI_m1 (by omega))
      · obtain rfl : p = y := nI_inj y2
        exact ⟨p, y3, by omega, hnum p y1⟩
      · have hi := (hL _ (List.getElem_mem i0)).2
        have : p = l[i] := nI_inj i2
        exact ⟨n + i, i3, by omega, by rw [this]; exact ih i i1 i0 (by omega)⟩
    generalize l[j] = x at *
    rcases lo_tok h x1 x2 with ⟨kd, p, q, h3, hk, hp, hq, h4, h5, h6, h7⟩ | ⟨kd, p, h3, hk, hp, hq, h4, h6⟩
    · rw [hp] at e2
      rw [hq] at e3
      obtain ⟨p', p1, p2, p3⟩ := hpart p _ (by omega) e2
      obtain ⟨q', q1, q2, q3⟩ := hpart q _ (by omega) e3
      unfold tsz at p3 q3 ⊢
      rw [tA_2 hV' (e1.trans hk) p1 q1 (by omega) (by omega) p2 q2 (Or.inl (by omega)) (Or.inl (by omega)), tA_2 hV hk hp hq (by omega) (by omega) h4 h5 h6 h7, p3, q3]
    · rw [hp] at e2
      rw [hq] at e3
      obtain ⟨p', p1, p2, p3⟩ := hpart p _ (by omega) e2
      have q1 := loT_m1 e3 hn (fun x hx => by have := (hL x hx).2; omega)
      unfold tsz at p3 ⊢
      rw [tA_1 hV' (e1.trans hk) p1 q1 (by omega) (by omega) p2 (Or.inl (by omega)), tA_1 hV hk hp hq (by omega) (by omega) h4 h6, p3]
theorem msz_le {Z : Nat → Int32} {k x y sx sy : Nat} (hx : 3 < k → Z x = nI sx) (hy : k = 4 ∨ k = 5 ∨ k = 6 ∨ k = 8 → Z y = nI sy) (h1 : 3 < k → 1 + sx ≤ 24) (h2 : k = 4 ∨ k = 5 ∨ k = 6 ∨ k = 8 → 1 + sx + sy ≤ 24 ∧ 1 ≤ sy) (hk : k = 4 ∨ k = 5 ∨ k = 6 ∨ k = 8 ∨ k = 7 ∨ k = 9) : msz Z k x y ≤ nI 24 := by
  have hle : ∀ a, a ≤ 24 → nI a ≤ nI 24 := fun a ha => by
    rw [Int32.le_iff_toInt_le, nI_toInt (by omega), nI_toInt (by omega)]
    omega
  unfold msz
  rw [if_neg (show ¬ k ≤ 3 by omega)]
  split
  · exact hle 2 (by omega)
  · split
    · rw [hx (by omega), hy (by omega), nI_add, nI_add]
      exact hle _ (by have := h2 (by omega); omega)
    · split
      · rw [hx (by omega), ← nI_0, nI_add, nI_add]
        exact hle _ (by have := h1 (by omega); omega)
      · rw [hx (by omega), nI_add, nI_add]
        exact hle _ (by have := h2 (by omega); omega)
/-- the next one of l may be laid -/
theorem lo_next {σ τ : kS} {n b bk k : Nat} {l : List Nat} {a c : Int32} (h : mTb σ n b) (hb : b ≤ 776) (hT : mTb τ (n + k) bk) (hG : mGr σ τ n) (hL : foL σ b l) (hK : loK σ τ n l k) (hk : k < l.length) (ha : loT l n k (σ 234 l[k]) a) (hc : loT l n k (σ 235 l[k]) c) :
    ∃ kd p q, σ 233 l[k] = nI kd ∧ 3 < kd ∧ kd ≤ 9 ∧ tNw kd a c p q (n + k) ∧ (kd = 6 ∨ kd = 8 → mAG τ (n + k) q) ∧ (kd = 7 → mAG τ (n + k) p) ∧ (3 < kd → ∀ u, u < n + k → ¬ mIs τ u (nI kd) a c) ∧ msz (τ 236) kd p q ≤ nI 24 := by
  have hn := h.1
  have hll := foL_len hL hb
  have hLx : ∀ x ∈ l, 200 ≤ x ∧ x < b := fun x hx => ⟨(hL.1 x hx).1, (hL.1 x hx).2.1⟩
  have hL1 : ∀ x ∈ l, x < 1000 := fun x hx => by have := (hLx x hx).2; omega
  have hsz := loT_sz h hb hT hG hLx hll hK
  have hV := h.2.2.2.2.2.1
  have hV' := hT.2.2.2.2.2.1
  obtain ⟨x1, x2, x3⟩ := hL.1 _ (List.getElem_mem hk)
  have hpw := List.pairwise_iff_getElem.mp hL.2.2.2
  have hag : ∀ q, mAG σ n q → mAG τ (n + k) q := fun q hq => ⟨by have := hq.1; omega, by
    rw [(hG.2.2 q hq.1).1, hG.1 240 (by decide)]
    exact hq.2⟩
  have hnum : ∀ p, p < n → tsz (τ 233) (τ 234) (τ 235) p = tsz (σ 233) (σ 234) (σ 235) p := fun p hp => tA_congr (mTb_num h) (fun u hu => ⟨(hG.2.2 u hu).1, (hG.2.2 u hu).2.1, (hG.2.2 u hu).2.2, rfl⟩) p hp
  have hpart : ∀ p w, p < 1000 → loT l n k (nI p) w → ∃ p', w = nI p' ∧ p' < n + k ∧ τ 236 p' = nI (tsz (σ 233) (σ 234) (σ 235) p) ∧ (p < n → p' = p) := by
    intro p w hp hq
    rcases hq with ⟨a1, a2⟩ | ⟨y, y1, y2, y3⟩ | ⟨i, i0, i1, i2, i3⟩
    · exact absurd a1 (nI_m1 (by omega))
    · obtain rfl : p = y := nI_inj y2
      exact ⟨p, y3, by omega, by rw [hV'.2.1 p (Or.inl (by omega)), hnum p y1], fun _ => rfl⟩
    · have hi := (hLx _ (List.getElem_mem i0))
      have : p = l[i] := nI_inj i2
      exact ⟨n + i, i3, by omega, by rw [hV'.2.1 (n + i) (Or.inl (by omega)), this, hsz i i0 i1], fun q => by omega⟩
  have huniq : ∀ kd, 3 < kd → kd ≤ 9 → σ 233 l[k] = nI kd → ∀ u, u < n + k → ¬ mIs τ u (nI kd) a c := by
    rintro kd k3 k9 hkd u hu ⟨u1, u2, u3⟩
    by_cases e : u < n
    · have hu' := hG.2.2 u e
      have hlow : ∀ v w, loT l n k v w → (w = -1 ∨ ∃ p, p < u ∧ w = nI p) → v = w := by
        rintro v w hw (rfl | ⟨p, p1, rfl⟩)
        · rcases hw with ⟨a1, a2⟩ | ⟨y, y1, y2, y3⟩ | ⟨i, i0, i1, i2, i3⟩
          · exact a1
          · exact absurd y3.symm (nI_m1 (by omega))
          · exact absurd i3.symm (nI_m1 (by omega))
        · exact loT_low hn (by omega) hw (by omega)
      have hpp : (a = -1 ∨ ∃ p, p < u ∧ a = nI p) ∧ (c = -1 ∨ ∃ p, p < u ∧ c = nI p) := by
        rw [← u2, ← u3]
        rcases (hV'.1 u (Or.inl hu)).2 with ⟨k', h3, hk', h4, h5⟩ | ⟨k', y, z, h3, hk', hy, hz2, h4, h5, h6, h7⟩ | ⟨k', y, h3, hk', hy, hz2, h4, h6⟩
        · exact ⟨Or.inl h4, Or.inl h5⟩
        · exact ⟨Or.inr ⟨y, h4, hy⟩, Or.inr ⟨z, h5, hz2⟩⟩
        · exact ⟨Or.inr ⟨y, h4, hy⟩, Or.inl hz2⟩
      have ea := hlow _ _ ha hpp.1
      have ec := hlow _ _ hc hpp.2
      have := hV.2.2 u l[k] (Or.inl e) (Or.inr ⟨x1, x2⟩) (by rw [← hu'.1, u1, fN_nI (by omega)]; exact k3) (by rw [← hu'.1, u1, hkd]) (by rw [← hu'.2.1, u2, ea]) (by rw [← hu'.2.2, u3, ec])
      omega
    · obtain ⟨j, rfl⟩ : ∃ j, u = n + j := ⟨u - n, by omega⟩
      have hjk : j < k := by omega
      have hj : j < l.length := by omega
      obtain ⟨e1, e2, e3⟩ := hK j hj hjk
      rw [u2] at e2
      rw [u3] at e3
      have f1 := loT_inj hn (by omega) ha e2
      have f2 := loT_inj hn (by omega) hc e3
      obtain ⟨y1, y2⟩ := hLx _ (List.getElem_mem hj)
      have := hV.2.2 l[j] l[k] (Or.inr ⟨y1, y2⟩) (Or.inr ⟨x1, x2⟩) (by rw [← e1, u1, fN_nI (by omega)]; exact k3) (by rw [← e1, u1, hkd]) f1.symm f2.symm
      exact hpw j k hj hk hjk this
  rcases lo_tok h x1 x2 with ⟨kd, p, q, h3, hkd, hp, hq, h4, h5, h6, h7⟩ | ⟨kd, p, h3, hkd, hp, hq, h4, h6⟩
  · have hsx : tsz (σ 233) (σ 234) (σ 235) l[k] = 1 + tsz (σ 233) (σ 234) (σ 235) p + tsz (σ 233) (σ 234) (σ 235) q := by
      unfold tsz
      rw [tA_2 hV.1 hkd hp hq (by omega) (by omega) h4 h5 h6 h7]
      rfl
    have hqp := tsz_pos hV.1 h7
    rw [hp] at ha
    rw [hq] at hc
    obtain ⟨p', p1, p2, p3, p4⟩ := hpart p _ (by omega) ha
    obtain ⟨q', q1, q2, q3, q4⟩ := hpart q _ (by omega) hc
    refine ⟨kd, p', q', hkd, by omega, by omega, Or.inr (Or.inl ⟨by omega, p1, q1, p2, q2⟩), fun e => ?_, by omega, fun k3 => huniq kd k3 (by omega) hkd, msz_le (fun _ => p3) (fun _ => q3) (fun _ => by omega) (fun _ => by omega) (by omega)⟩
    have hA : mAG σ n q := by
      rcases h3 with h3 | h3 | h3
      · omega
      · omega
      · exact h3.2
    rw [q4 hA.1]
    exact hag q hA
  · have hsx : tsz (σ 233) (σ 234) (σ 235) l[k] = 1 + tsz (σ 233) (σ 234) (σ 235) p := by
      unfold tsz
      rw [tA_1 hV.1 hkd hp hq (by omega) (by omega) h4 h6]
      rfl
    rw [hp] at ha
    rw [hq] at hc
    obtain ⟨p', p1, p2, p3, p4⟩ := hpart p _ (by omega) ha
    have q1 := loT_m1 hc hn hL1
    refine ⟨kd, p', 0, hkd, by omega, by omega, Or.inr (Or.inr ⟨by omega, p1, q1, p2⟩), by omega, fun e => ?_, fun k3 => huniq kd k3 (by omega) hkd, msz_le (sy := 0) (fun _ => p3) (fun e => by omega) (fun _ => by omega) (fun e => by omega) (by omega)⟩
    have hA : mAG σ n p := by
      rcases h3 with h3 | h3
      · omega
      · exact h3.2
    rw [p4 hA.1]
    exact hag p hA
theorem loK_new {σ τ τ' : kS} {n k kd : Nat} {l : List Nat} {a c : Int32} (hK : loK σ τ n l k) (hk : k < l.length) (hN : mNw τ τ' (n + k) kd a c) (h1 : σ 233 l[k] = nI kd) (ha : loT l n k (σ 234 l[k]) a) (hc : loT l n k (σ 235 l[k]) c) : loK σ τ' n l (k + 1) := by
  obtain ⟨z, g, nx, hd, jd, rfl, -⟩ := hN
  intro j hj hjk
  show upd (τ 233) (n + k) (nI kd) (n + j) = _ ∧ loT l n j _ (upd (τ 234) (n + k) a (n + j)) ∧ loT l n j _ (upd (τ 235) (n + k) c (n + j))
  by_cases q : j = k
  · subst q
    rw [pk_us, pk_us, pk_us]
    exact ⟨h1.symm, ha, hc⟩
  · have : n + j ≠ n + k := by omega
    rw [pk_un this, pk_un this, pk_un this]
    exact hK j hj (by omega)
