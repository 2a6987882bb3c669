/-! alike: weigh -/
/-- only marks and what was weighed have changed -/
def wqF (σ τ : kS) : Prop := ∀ c, c ≠ 210 → c ≠ 230 → c ≠ 231 → τ c = σ c
theorem wqF_refl (σ : kS) : wqF σ σ := fun _ _ _ _ => rfl
theorem wqF_trans {σ τ ρ : kS} (h1 : wqF σ τ) (h2 : wqF τ ρ) : wqF σ ρ := fun c a b e => (h2 c a b e).trans (h1 c a b e)
theorem wq_iT {σ τ : kS} (h : wqF σ τ) : iT τ = iT σ := by
  funext s t
  unfold iT tW wV kTv
  rw [h 2 (by decide) (by decide) (by decide), h 3 (by decide) (by decide) (by decide), h 4 (by decide) (by decide) (by decide), h 12 (by decide) (by decide) (by decide), h 202 (by decide) (by decide) (by decide)]
theorem wq_pt {σ τ : kS} {n u s t : Nat} {l : rwT} (h : wqF σ τ) (e1 : τ 230 t = σ 230 t) (e2 : τ 231 t = σ 231 t) (hp : ptQ σ n u l s t) : ptQ τ n u l s t := by
  unfold ptQ vaQ at hp ⊢
  rw [wq_iT h, e1, e2]
  unfold kIn kTv kGd mA at hp ⊢
  rw [h 2 (by decide) (by decide) (by decide), h 3 (by decide) (by decide) (by decide), h 4 (by decide) (by decide) (by decide), h 233 (by decide) (by decide) (by decide), h 238 (by decide) (by decide) (by decide)]
  exact hp
theorem wq_st {σ τ : kS} {n s t : Nat} (h : wqF σ τ) (hp : kSt σ n 202 (7 * s + 1) (wV σ s) t) : kSt τ n 202 (7 * s + 1) (wV τ s) t := by
  unfold kSt wV kVs kTv kGd at hp ⊢
  rw [h 2 (by decide) (by decide) (by decide), h 3 (by decide) (by decide) (by decide), h 4 (by decide) (by decide) (by decide), h 12 (by decide) (by decide) (by decide), h 11 (by decide) (by decide) (by decide), h 202 (by decide) (by decide) (by decide)]
  exact hp
theorem wq_Cn {σ τ : kS} {n : Nat} (h : wqF σ τ) (hC : cCn σ n) : cCn τ n := by
  unfold cCn cpt at hC ⊢
  rw [h 2 (by decide) (by decide) (by decide), h 3 (by decide) (by decide) (by decide), h 4 (by decide) (by decide) (by decide), h 7 (by decide) (by decide) (by decide), h 6 (by decide) (by decide) (by decide)]
  exact hC
theorem wq_gR {σ τ : kS} {n : Nat} (h : wqF σ τ) (hC : gR σ n) : gR τ n := by
  unfold gR kGd at hC ⊢
  rw [h 2 (by decide) (by decide) (by decide), h 3 (by decide) (by decide) (by decide), h 4 (by decide) (by decide) (by decide), h 8 (by decide) (by decide) (by decide)]
  exact hC
/-- the plan of an EVENT, as the class has it -/
def plP (σ : kS) (n a t : Nat) (pl : List Nat) : Prop := pl.length ≤ 24 ∧ σ a 7 = nI pl.length ∧ lst (σ (a + 3)) pl ∧ σ a 1 = nI t ∧ t ∈ pl ∧ (∀ x ∈ pl, x < n) ∧ ∀ i (h : i < pl.length), ¬ kGd σ (pl[i]'h) → σ 2 (pl[i]'h) ≠ nI 3 → ∀ p, p < n → (σ 3 (pl[i]'h) = nI p ∨ σ 4 (pl[i]'h) = nI p) → ∃ j, ∃ (hj : j < pl.length), j < i ∧ p = pl[j]'hj
set_option maxRecDepth 100000 in
set_option maxHeartbeats 4000000 in
theorem mf_weigh (L : Nat) (xs : Nat → Int32) (d : Nat) (σ : kS) (n u m r k s f t : Nat) (l : rwT) (pl : List Nat) (h : iE σ 204 776 n u m l) (hC : cCn σ n) (hG : gR σ n) (hr4 : r < 4) (hk6 : k < 6) (hpl : plP σ n (28 + 35 * r + 5 * k) t pl) (hst : ∀ x ∈ pl, kSt σ n 202 (7 * s + 1) (wV σ s) x) (hs : s < 4) (hv : σ 222 3 = nI (7 * s + 1)) (hf : f ≤ 24) (hpt : ∀ i (h : i < pl.length), i < f → ptQ σ n u l s (pl[i]'h)) : kXM kT L xs (d + 53) 35 [.ref 222, .ref (28 + 35 * r + 5 * k), .int (nI f)] σ (fun q σ' => q = some (.int (isB (vmk (kIn σ l) (mA σ) (σ 238) (iT σ s t)))) ∧ wqF σ σ' ∧ iE σ' 204 776 n u m l ∧ (∀ x ∈ pl, ptQ σ' n u l s x) ∧ ∀ z, z ∉ pl → σ' 231 z = σ 231 z) := by
  have hK : isK 204 776 := Or.inr (Or.inl ⟨rfl, rfl⟩)
  have hn := h.2.1
  have b0 : 28 + 35 * r + 5 * k < 163 := ev_b r k 0 hr4 hk6 (by decide)
  have b3 := ev_b r k 3 hr4 hk6 (by decide)
  obtain ⟨q24, q2, pt, t2, htp, hlt, hch⟩ := hpl
  have loop : ∀ q : Nat × kS, (q.1 ≤ 24 ∧ wqF σ q.2 ∧ iE q.2 204 776 n u m l ∧ (∀ i (h : i < pl.length), i < q.1 → ptQ q.2 n u l s (pl[i]'h)) ∧ ∀ z, z ∉ pl → q.2 231 z = σ 231 z) → kX kT L xs (d + 53) 35 2 [(3, .int (nI q.1)), (0, .ref 222), (1, .ref (28 + 35 * r + 5 * k)), (2, .int (nI f))] [] q.2 (fun q σ' => q = some (.int (isB (vmk (kIn σ l) (mA σ) (σ 238) (iT σ s t)))) ∧ wqF σ σ' ∧ iE σ' 204 776 n u m l ∧ (∀ x ∈ pl, ptQ σ' n u l s x) ∧ ∀ z, z ∉ pl → σ' 231 z = σ 231 z) := by
    refine kX_while (fun q : Nat × kS => [(3, .int (nI q.1)), (0, .ref 222), (1, .ref (28 + 35 * r + 5 * k)), (2, .int (nI f))]) (fun q => q.2) _ (fun q => 24 - q.1) ?_
    rintro ⟨i, τ⟩ ⟨i1, i2, i3, i4, i5⟩ ih
    dsimp only at i1 i2 i3 i4 i5 ih ⊢
    have ee : ∀ c, c < 163 → τ c = σ c := fun c hc => i2 c (by omega) (by omega) (by omega)
    iterate 2 (refine kX_one rfl ?_)
    refine kX_getN rfl rfl (kT_ev hr4 hk6) rfl ?_
    refine kX_top (y := nI pl.length) (by rw [ee _ b0]; exact q2) ?_
    repeat refine kX_one rfl ?_
    refine kX_if (fun q => ?_) (fun q => ?_)
    · have q := qge q i pl.length
      have hall : ∀ x ∈ pl, ptQ τ n u l s x := fun x hx => by
        obtain ⟨j, hj, rfl⟩ := List.getElem_of_mem hx
        exact i4 j hj (by omega)
      have htn := hlt t htp
      have hres := (hall t htp).2
      have e1 : vmk (kIn τ l) (mA τ) (τ 238) (iT τ s t) = vmk (kIn σ l) (mA σ) (σ 238) (iT σ s t) := by
        rw [wq_iT i2]
        unfold kIn kTv mA
        rw [i2 2 (by decide) (by decide) (by decide), i2 3 (by decide) (by decide) (by decide), i2 4 (by decide) (by decide) (by decide), i2 233 (by decide) (by decide) (by decide), i2 238 (by decide) (by decide) (by decide)]
      rw [e1] at hres
      iterate 3 (refine kX_one rfl ?_)
      refine kX_getN rfl rfl (kT_ev hr4 hk6) rfl ?_
      refine kX_top (y := nI t) (by rw [ee _ b0]; exact t2) ?_
      refine kX_baldV rfl rfl (by decide) t (by rfl) (by omega) hres ?_
      refine kX_ret (i := .ireturn) (len := 1) rfl (Or.inr rfl) (jend_b rfl (isB_01 _)) ⟨rfl, i2, i3, hall, i5⟩
    · have q := qgeF q i pl.length
      have hx : pl[i]'q < n := hlt _ (List.getElem_mem q)
      have hstx := wq_st i2 (hst _ (List.getElem_mem q))
      have hchx : ¬ kGd τ (pl[i]'q) → τ 2 (pl[i]'q) ≠ nI 3 → ∀ p, p < n → (τ 3 (pl[i]'q) = nI p ∨ τ 4 (pl[i]'q) = nI p) → ptQ τ n u l s p := fun a1 a2 p hp hfp => by
        have a1' : ¬ kGd σ (pl[i]'q) := by
          unfold kGd at a1 ⊢
          rw [i2 2 (by decide) (by decide) (by decide), i2 3 (by decide) (by decide) (by decide), i2 4 (by decide) (by decide) (by decide)] at a1
          exact a1
        rw [i2 2 (by decide) (by decide) (by decide)] at a2
        rw [i2 3 (by decide) (by decide) (by decide), i2 4 (by decide) (by decide) (by decide)] at hfp
        obtain ⟨j, hj, j1, rfl⟩ := hch i q a1' a2 p hp hfp
        exact i4 j hj j1
      have hvt : τ 222 3 = nI (7 * s + 1) := by rw [i2 222 (by decide) (by decide) (by decide)]; exact hv
      have hpi : τ (28 + 35 * r + 5 * k + 3) i = nI (pl[i]'q) := (congrFun (ee _ b3) i).trans (pt i q)
      have k73 : ∀ τ', wqF τ τ' → iE τ' 204 776 n u m l → (∀ x, x ≠ pl[i]'q → τ' 230 x = τ 230 x ∧ τ' 231 x = τ 231 x) → ptQ τ' n u l s (pl[i]'q) → kX kT L xs (d + 53) 35 73 [(3, .int (nI i)), (0, .ref 222), (1, .ref (28 + 35 * r + 5 * k)), (2, .int (nI f))] [] τ' (fun q σ' => q = some (.int (isB (vmk (kIn σ l) (mA σ) (σ 238) (iT σ s t)))) ∧ wqF σ σ' ∧ iE σ' 204 776 n u m l ∧ (∀ x ∈ pl, ptQ σ' n u l s x) ∧ ∀ z, z ∉ pl → σ' 231 z = σ 231 z) := by
        intro τ' w1 w2 w3 w4
        iterate 2 (refine kX_one rfl ?_)
        have := ih (i + 1, τ') ⟨by simp only; omega, wqF_trans i2 w1, w2, fun j hj hji => by
          by_cases e : pl[j]'hj = pl[i]'q
          · rw [e]
            exact w4
          · have hji' : j < i := by
              have : j ≠ i := fun z => e (by subst z; rfl)
              simp only at hji
              omega
            obtain ⟨x1, x2⟩ := w3 _ e
            exact wq_pt w1 x1 x2 (i4 j hj hji'), fun z hz => ((w3 z (fun e => hz (e ▸ List.getElem_mem q))).2).trans (i5 z hz)⟩ (by simp only; omega)
        dsimp only at this
        rw [← nI_1] at this
        exact kX_lv _ rfl rfl rfl this
      generalize pl[i]'q = tp at hx hstx hchx hpi k73
      iterate 1 (refine kX_one rfl ?_)
      refine kX_getN rfl rfl (kT_ev hr4 hk6) rfl ?_
      iterate 1 (refine kX_one rfl ?_)
      refine kX_ialdV rfl ((kT_e3 hr4 hk6).1) (by decide) (i) (by first | rfl | decide) (by omega) (hpi) ?_
      iterate 6 (refine kX_one rfl ?_)
      refine kX_cal (mf_qValueOf L xs (d + 49) tp i3 (wq_Cn i2 hC) (wq_gR i2 hG) hx hs hvt hstx (fun a1 a2 p hp hfp => (hchx a1 a2 p hp hfp).1)) rfl (Or.inr rfl) rfl rfl rfl (fun r1 σ1 q1 => ?_)
      obtain ⟨⟨x, rfl, hxq⟩, rfl⟩ := q1
      refine kX_iastN rfl rfl (by decide) (tp) (by first | rfl | decide) (by omega) ?_
      have hE1 : iE (va_up τ 230 (upd (τ 230) tp x)) 204 776 n u m l := i3
      have hF1 : wqF τ (va_up τ 230 (upd (τ 230) tp x)) := fun c _ b _ => up_ne b
      have h230 : va_up τ 230 (upd (τ 230) tp x) 230 = upd (τ 230) tp x := up_eq
      have h231 : va_up τ 230 (upd (τ 230) tp x) 231 = τ 231 := rfl
      have hx1 : va_up τ 230 (upd (τ 230) tp x) 230 tp = x := by rw [up_eq, pk_us]
      generalize va_up τ 230 (upd (τ 230) tp x) = ω at *
      iterate 6 (refine kX_one rfl ?_)
      refine kX_ialdV rfl rfl (by decide) tp (by rfl) (by omega) hx1 ?_
      have eV : ∀ {ρ : kS}, wqF τ ρ → vmk (kIn ρ l) (mA ρ) (ρ 238) (iT ρ s tp) = vmk (kIn τ l) (mA τ) (τ 238) (iT τ s tp) := fun {ρ} hh => by
        rw [wq_iT hh]
        unfold kIn kTv mA
        rw [hh 2 (by decide) (by decide) (by decide), hh 3 (by decide) (by decide) (by decide), hh 4 (by decide) (by decide) (by decide), hh 233 (by decide) (by decide) (by decide), hh 238 (by decide) (by decide) (by decide)]
      have fin : ∀ ρ, wqF τ ρ → ρ 230 = upd (τ 230) tp x → ρ 231 = τ 231 → iE ρ 204 776 n u m l → ∀ lv, nk lv = true → ([(3, .int (nI i)), (0, .ref 222), (1, .ref (28 + 35 * r + 5 * k)), (2, .int (nI f))] : jL).map (fun q => jl lv q.1) = ([(3, Value.int (nI i)), (0, .ref 222), (1, .ref (28 + 35 * r + 5 * k)), (2, .int (nI f))] : jL).map (fun q => some q.2) → kX kT L xs (d + 53) 35 72 lv [.int (isB (vmk (kIn τ l) (mA τ) (τ 238) (iT τ s tp))), .int (nI tp), .ref 231] ρ (fun q σ' => q = some (.int (isB (vmk (kIn σ l) (mA σ) (σ 238) (iT σ s t)))) ∧ wqF σ σ' ∧ iE σ' 204 776 n u m l ∧ (∀ x ∈ pl, ptQ σ' n u l s x) ∧ ∀ z, z ∉ pl → σ' 231 z = σ 231 z) := by
        intro ρ f1 f2 f3 f4 lv hk hlv
        refine kX_lv _ hk rfl hlv ?_
        refine kX_bastN rfl rfl (by decide) (tp) (by first | rfl | decide) (by omega) (isB_01 _) ?_
        refine k73 _ (fun c a b e => (up_ne e).trans (f1 c a b e)) f4 (fun z hz => ⟨?_, ?_⟩) ⟨?_, ?_⟩
        · show ρ 230 z = _
          rw [f2, pk_un hz]
        · rw [up_eq, pk_un hz, f3]
        · have hh : wqF τ (va_up ρ 231 (upd (ρ 231) tp (isB (vmk (kIn τ l) (mA τ) (τ 238) (iT τ s tp))))) := fun c a b e => (up_ne e).trans (f1 c a b e)
          have e5 : va_up ρ 231 (upd (ρ 231) tp (isB (vmk (kIn τ l) (mA τ) (τ 238) (iT τ s tp)))) 230 tp = x := by
            show ρ 230 tp = x
            rw [f2, pk_us]
          rw [e5]
          unfold vaQ at hxq ⊢
          rw [wq_iT hh]
          unfold kTv kGd at hxq ⊢
          rw [hh 2 (by decide) (by decide) (by decide), hh 3 (by decide) (by decide) (by decide), hh 4 (by decide) (by decide) (by decide)]
          exact hxq
        · rw [up_eq, pk_us, eV (fun c a b e => (up_ne e).trans (f1 c a b e))]
      rcases hxq with ⟨g, g1, g2, g3, rfl⟩ | ⟨rfl, g2, g3, g4⟩
      · have hgl := iE_lt i3 g1
        have hgd : kDp τ g ≤ 47 := by
          rcases g1 with z | z
          · have := i3.2.2.2.2.2.2.2.2.1 g z
            omega
          · exact (i3.2.2.2.2.1.2.2.2.2.1 g z.1 z.2).2.2
        have ekd : kDp ω g = kDp τ g := by
          unfold kDp
          rw [hF1 2 (by decide) (by decide) (by decide), hF1 3 (by decide) (by decide) (by decide), hF1 4 (by decide) (by decide) (by decide)]
        have ekg : kGd ω g := by
          unfold kGd
          rw [hF1 2 (by decide) (by decide) (by decide), hF1 3 (by decide) (by decide) (by decide), hF1 4 (by decide) (by decide) (by decide)]
          exact g2
        have emk : kMk ω l g = vmk (kIn τ l) (mA τ) (τ 238) (iT τ s tp) := by
          rw [← g3]
          unfold kMk kIn kTv mA
          rw [hF1 2 (by decide) (by decide) (by decide), hF1 3 (by decide) (by decide) (by decide), hF1 4 (by decide) (by decide) (by decide), hF1 233 (by decide) (by decide) (by decide), hF1 238 (by decide) (by decide) (by decide)]
        repeat refine kX_one rfl ?_
        refine kX_ifF (decide_eq_false (nI_m1 (by omega))) ?_
        iterate 5 (refine kX_one rfl ?_)
        refine kX_ialdV rfl rfl (by decide) tp (by rfl) (by omega) hx1 ?_
        iterate 1 (refine kX_one rfl ?_)
        refine kX_cal (mf_canMake L xs 204 776 n u m l 49 (d + 1) 0 ω g rfl (by omega) hE1 g1 ekg) rfl (Or.inr rfl) rfl rfl rfl (fun r1 ρ q1 => ?_)
        obtain ⟨rfl, M, rfl, hE2⟩ := q1
        rw [emk]
        iterate 1 (refine kX_one rfl ?_)
        exact fin _ (wqF_trans hF1 (fun c a _ _ => up_ne a)) h230 h231 hE2 _ rfl rfl
      · have hchω : ∀ p, p < n → (ω 3 tp = nI p ∨ ω 4 tp = nI p) → ptQ ω n u l s p := fun p hp hfp => by
          rw [hF1 3 (by decide) (by decide) (by decide), hF1 4 (by decide) (by decide) (by decide)] at hfp
          have hptp := hchx g3 g4 p hp hfp
          have hne : p ≠ tp := fun e => by
            rcases (iE_V i3 tp (Or.inl hx)).2 with ⟨k', z3, zk, zf, zs⟩ | ⟨k', a', b', z3, zk, zx, zy, z4, z5, z6, z7⟩ | ⟨k', a', z3, zk, zx, zy, z4, z6⟩
            · rcases hfp with w | w
              · exact absurd (w.symm.trans zf) (nI_m1 (by omega))
              · exact absurd (w.symm.trans zs) (nI_m1 (by omega))
            · have al := iE_lt i3 z6
              have bl := iE_lt i3 z7
              rcases hfp with w | w
              · have := nI_inj (w.symm.trans zx)
                omega
              · have := nI_inj (w.symm.trans zy)
                omega
            · have al := iE_lt i3 z6
              rcases hfp with w | w
              · have := nI_inj (w.symm.trans zx)
                omega
              · exact absurd (w.symm.trans zy) (nI_m1 (by omega))
          exact wq_pt hF1 (by rw [h230, pk_un hne]) (by rw [h231]) hptp
        have hnoω : ∀ g, kV n 776 u g → kTv ω g ≠ iT ω s tp := fun g hg => by
          rw [wq_iT hF1]
          unfold kTv
          rw [hF1 2 (by decide) (by decide) (by decide), hF1 3 (by decide) (by decide) (by decide), hF1 4 (by decide) (by decide) (by decide)]
          exact g2 g hg
        have hgω : ¬ kGd ω tp := by
          unfold kGd
          rw [hF1 2 (by decide) (by decide) (by decide), hF1 3 (by decide) (by decide) (by decide), hF1 4 (by decide) (by decide) (by decide)]
          exact g3
        have hkω : ω 2 tp ≠ nI 3 := by
          rw [hF1 2 (by decide) (by decide) (by decide)]
          exact g4
        iterate 4 (refine kX_one rfl ?_)
        refine kX_cal (mf_canCompose L xs (d + 50) tp hE1 hx hgω hkω hnoω (wq_st hF1 hstx) hchω) rfl (Or.inr rfl) rfl rfl rfl (fun r1 σ1 q1 => ?_)
        obtain ⟨rfl, rfl⟩ := q1
        rw [eV hF1]
        exact fin _ hF1 h230 h231 hE1 _ rfl rfl
  unfold kXM
  iterate 2 (refine kX_one rfl ?_)
  exact kX_lv _ rfl rfl rfl (loop (f, σ) ⟨hf, wqF_refl σ, h, hpt, fun _ _ => rfl⟩)
