/-! alike: add -/
theorem vmk_mono {R R' : Jvm.Term → Prop} {A : Nat → Prop} {H : Nat → Int32} (h : ∀ g, R g → R' g) : ∀ g, vmk R A H g → vmk R' A H g := by
  intro g
  induction g with
  | arg t => exact fun q => q.imp (h _) id
  | add a b iha ihb => exact fun q => q.imp (h _) (fun z => ⟨iha z.1, ihb z.2⟩)
  | sub a b iha ihb => exact fun q => q.imp (h _) (fun z => ⟨iha z.1, ihb z.2⟩)
  | mul a b iha ihb => exact fun q => q.imp (h _) iha
  | sum a iha => exact fun q => q.imp (h _) iha
  | length a iha => exact fun q => q.imp (h _) id
  | div a b iha ihb => exact fun q => q.imp (h _) (fun z => ⟨iha z.1, z.2.imp id (h _)⟩)
  | _ => exact fun q => q.elim
theorem vmk_R {V AG : Nat → Prop} {K F S : Nat → Int32} {R : Jvm.Term → Prop} {A : Nat → Prop} {H : Nat → Int32} (hV : ∀ t, V t → t < 100000 ∧ tOk V AG K F S t) {g : Nat} (hg : V g) (hR : R (tvl K F S g)) : vmk R A H (tvl K F S g) := by
  rcases (hV g hg).2 with ⟨k, h3, hk, -, -⟩ | ⟨k, x, y, h3, hk, hx, hy, h4, h5, h6, h7⟩ | ⟨k, x, h3, hk, hx, hy, h4, h6⟩
  · rw [tvl_0 hk h3] at hR ⊢
    exact Or.inl hR
  · rw [tvl_2 hV hk hx hy (by omega) (by omega) h4 h5 h6 h7] at hR ⊢
    rcases h3 with rfl | rfl | ⟨rfl | rfl, ha⟩
    · exact Or.inl hR
    · exact Or.inl hR
    · exact Or.inl hR
    · exact Or.inl hR
  · rw [tvl_1 hV hk hx hy (by omega) (by omega) h4 h6] at hR ⊢
    rcases h3 with rfl | ⟨rfl, ha⟩
    · exact Or.inl hR
    · exact Or.inl hR
theorem kIn_app {σ : kS} {l : rwT} {q : Nat × Int32 × Int32} {g : Jvm.Term} (h : kIn σ l g) : kIn σ (l ++ [q]) g := by
  obtain ⟨t, ⟨p, p1, p2⟩, t2⟩ := h
  exact ⟨t, ⟨p, List.mem_append_left _ p1, p2⟩, t2⟩
/-- what add writes -/
def adF (σ τ : kS) (K n m g ln : Nat) (w p : Int32) : Prop := (∀ c, c < K ∨ K + 8 ≤ c → τ c = σ c) ∧ τ (K + 1) = σ (K + 1) ∧ τ K = upd (σ K) 7 (nI (ln + 1)) ∧ τ (K + 2) = upd (σ (K + 2)) ln (nI g) ∧ τ (K + 3) = upd (σ (K + 3)) ln w ∧ τ (K + 4) = upd (σ (K + 4)) ln p ∧ τ (K + 5) = upd (σ (K + 5)) g (nI m) ∧ τ (K + 6) = upd (σ (K + 6)) g (nI m) ∧ ∀ a, a < 200 → τ (K + 7) a = if σ 2 g = nI 7 ∧ a < n ∧ σ 3 g = nI a then nI m else σ (K + 7) a
theorem iE_add {σ τ : kS} {K st n u m g : Nat} {l : rwT} {w p : Int32} (h : iE σ K st n u m l) (hg : kV n st u g) (hd : kGd σ g) (hw : σ K 13 = 0) (hi : ¬ rwI l g) (hF : adF σ τ K n m g l.length w p) : iE τ K st n u m (l ++ [(g, w, p)]) ∧ τ K 13 = 0 := by
  obtain ⟨f1, f2, f3, f4, f5, f6, f7, f8, f9⟩ := hF
  have hn := h.2.1
  have hm := h.2.2.2.2.2.2.1
  have hgl := iE_lt h hg
  have e : ∀ c, c < K ∨ K + 9 ≤ c → τ c = σ c := fun c hc => f1 c (by omega)
  have hc : eqC σ τ kCl := kFr_c h.1 e (by decide)
  obtain ⟨r1, r2, r3, r4, r5, r6, r7, r8⟩ := h.2.2.2.2.2.2.2.1
  have hmk : ∀ l' z, kMk τ l' z = kMk σ l' z := fun l' z => kMk_c hc
  have happ : ∀ t, rwI (l ++ [(g, w, p)]) t ↔ rwI l t ∨ t = g := fun t => rwI_app
  refine ⟨iE_fr h e f2 (fun j j1 _ => by rw [f3]; exact pk_un j1) ?_ (fun z z1 z2 => by have q := h.2.2.2.2.2.2.2.2.2 z z1 z2; have zg : z ≠ g := fun e => z2 (e ▸ hg); rw [f7, f8, pk_un zg, pk_un zg]; exact q) ?_, by rw [f3]; exact hw⟩
  · obtain ⟨w1, w2, w3, w4⟩ := h.2.2.2.2.2.1
    refine ⟨by rw [f3]; exact w1, fun z hz => ?_, fun z hz => ?_, fun a ha => ?_⟩
    · rw [f7]
      by_cases q : z = g
      · subst q
        exact ⟨m, Nat.le_refl _, pk_us⟩
      · rw [pk_un q]
        exact w2 z hz
    · rw [f8]
      by_cases q : z = g
      · subst q
        exact ⟨m, Nat.le_refl _, Or.inl pk_us⟩
      · rw [pk_un q]
        exact w3 z hz
    · rw [f9 a ha]
      split
      · exact ⟨m, Nat.le_refl _, rfl⟩
      · exact w4 a ha
  · unfold kRw
    rw [hc 2 (by decide), hc 3 (by decide), hc 4 (by decide), f4, f5, f6, f7, f8]
    simp only [hmk]
    refine ⟨by rw [f3]; simp [pk_us], fun i hi' => ?_, fun t ht => ?_, ?_, fun z hz => ?_, fun a ha => ?_, fun t ht => ?_, fun z hz hzd => ?_⟩
    · by_cases q : i = l.length
      · subst q
        rw [pk_us, pk_us, pk_us]
        simp
      · have hil : i < l.length := by simp at hi'; omega
        rw [pk_un q, pk_un q, pk_un q, List.getElem_append_left hil]
        exact r2 i hil
    · rcases (happ t).mp ht with ht | rfl
      · exact r3 t ht
      · exact ⟨hg, hd⟩
    · rw [List.map_append]
      refine List.pairwise_append.mpr ⟨r4, List.pairwise_singleton _ _, fun a ha b hb => ?_⟩
      obtain ⟨q, q1, rfl⟩ := List.mem_map.mp ha
      have hb : b = g := by simpa using hb
      subst hb
      exact fun z => hi ⟨q, q1, z⟩
    · rw [happ]
      by_cases q : z = g
      · subst q
        rw [pk_us]
        exact ⟨fun _ => Or.inr rfl, fun _ => rfl⟩
      · rw [pk_un q, r5 z hz]
        exact ⟨Or.inl, fun z => z.elim id (fun z => absurd z q)⟩
    · rw [f9 a (by omega)]
      by_cases q : σ 2 g = nI 7 ∧ a < n ∧ σ 3 g = nI a
      · rw [if_pos q]
        exact ⟨fun _ => ⟨g, (happ g).mpr (Or.inr rfl), q.1, q.2.2⟩, fun _ => rfl⟩
      · rw [if_neg q, r6 a ha]
        refine ⟨fun ⟨t, t1, t2⟩ => ⟨t, (happ t).mpr (Or.inl t1), t2⟩, fun ⟨t, t1, t2, t3⟩ => ?_⟩
        rcases (happ t).mp t1 with t1 | rfl
        · exact ⟨t, t1, t2, t3⟩
        · exact absurd ⟨t2, ha, t3⟩ q
    · rcases (happ t).mp ht with ht | rfl
      · by_cases q : t = g
        · subst q
          exact pk_us
        · rw [pk_un q]
          exact r7 t ht
      · exact pk_us
    · by_cases q : z = g
      · subst q
        rw [pk_us]
        refine ⟨fun _ => ?_, fun q => absurd q (nI_nm hm.1 hm.2)⟩
        exact vmk_R (iE_V h) hg ⟨z, (happ z).mpr (Or.inr rfl), rfl⟩
      · rw [pk_un q]
        refine ⟨fun q => vmk_mono (fun g => kIn_app) _ ((r8 z hz hzd).1 q), fun q => absurd hw ((r8 z hz hzd).2 q).1⟩
theorem kTr_add {σ : kS} {K st n u m g : Nat} {l : rwT} {w p : Int32} (h : iE σ K st n u m l) (hg : kV n st u g) : kTr σ (rwA l g w p) = trA (kTr σ l) (kTv σ g) w (nnI p) := by
  have hi : (∃ q ∈ kTr σ l, q.1 = kTv σ g) ↔ rwI l g := by
    rw [← kIn_iff h hg]
    unfold kTr kIn rwI
    constructor
    · rintro ⟨q, hq, e⟩
      obtain ⟨p, hp, rfl⟩ := List.mem_map.mp hq
      exact ⟨p.1, ⟨p, hp, rfl⟩, e⟩
    · rintro ⟨t, ⟨p, hp, rfl⟩, e⟩
      exact ⟨_, List.mem_map.mpr ⟨p, hp, rfl⟩, e⟩
  unfold trA rwA
  by_cases q : rwI l g
  · rw [if_pos q, cit_T (hi.mpr q)]
  · rw [if_neg q, cit_F (fun z => q (hi.mp z))]
    unfold kTr
    rw [List.map_append]
    rfl
/-- a row after add -/
def adP (σ : kS) (K st n u m : Nat) (l : rwT) (g : Nat) (w p : Int32) (r : Option Value) (σ' : kS) : Prop := r = some (.int (isB (¬ rwI l g))) ∧ iE σ' K st n u m (rwA l g w p) ∧ σ' K 13 = 0 ∧ nP σ σ' K
set_option maxRecDepth 100000 in
set_option maxHeartbeats 4000000 in
theorem mf_add (L : Nat) (xs : Nat → Int32) (d : Nat) (σ : kS) (K st n u m g : Nat) (l : rwT) (w p : Int32) (h : iE σ K st n u m l) (hg : kV n st u g) (hd : kGd σ g) (hw : σ K 13 = 0) : kXM kT L xs (d + 2) 51 [.ref K, .int (nI g), .int w, .int p] σ (adP σ K st n u m l g w p) := by
  have hb := isK_b h.1
  have hn := h.2.1
  have hgl := iE_lt h hg
  have hrw := h.2.2.2.2.2.2.2.1
  have hin := hrw.2.2.2.2.1 g hg
  have hst := h.2.2.2.2.2.1.1
  unfold kXM
  iterate 2 (refine kX_one rfl ?_)
  refine kX_cal (mc_kHas L xs d σ K st n u (nI g) (iE_nB h)) rfl (Or.inr rfl) rfl (jcall_v rfl rfl rfl (kT_kn h.1) rfl rfl) rfl (fun r1 σ1 q1 => ?_)
  obtain ⟨rfl, rfl⟩ := q1
  repeat refine kX_one rfl ?_
  refine kX_ifF (decide_eq_false (isB_ne.mpr (by rcases hg with z | z; exact Or.inl ⟨g, z, rfl⟩; exact Or.inr ⟨g, z.1, z.2, rfl⟩))) ?_
  iterate 1 (refine kX_one rfl ?_)
  refine kX_getN rfl rfl (kT_kn h.1) rfl ?_
  iterate 1 (refine kX_one rfl ?_)
  refine kX_ialdN rfl (kT_k5 h.1 (Or.inl rfl)) (by decide) (g) (by first | rfl | decide) (hgl) ?_
  iterate 1 (refine kX_one rfl ?_)
  refine kX_getN rfl rfl (kT_kn h.1) rfl ?_
  refine kX_top (hst) ?_
  repeat refine kX_one rfl ?_
  refine kX_if (fun q2 => ?_) (fun q2 => ?_)
  · have hi : rwI l g := hin.mp (qeq q2)
    have e : rwA l g w p = l := if_pos hi
    repeat refine kX_one rfl ?_
    refine kX_ret (i := .ireturn) (len := 1) rfl (Or.inr rfl) rfl (⟨rF (fun z => z hi), by rw [e]; exact h, hw, nP_refl (iE_nR h)⟩)
  · have hi : ¬ rwI l g := fun z => qeqF q2 (hin.mpr z)
    have e : rwA l g w p = l ++ [(g, w, p)] := if_neg hi
    have hln : l.length < 776 := by
      have h1 := nd_len (n + u) (((l ++ [(g, w, p)]).map (fun q => q.1)).map (fun t => if t < n then t else t - st + n)) ?_ ?_
      · have h2 := h.2.2.2.2.1.1
        simp at h1
        omega
      · refine List.pairwise_map.mpr (List.Pairwise.imp_of_mem (R := fun x y => x ≠ y) ?_ ?_)
        · intro a b ha hb hab
          have key : ∀ a, a ∈ (l ++ [(g, w, p)]).map (fun q => q.1) → kV n st u a := fun a ha => by
            obtain ⟨q, q1, rfl⟩ := List.mem_map.mp ha
            rcases List.mem_append.mp q1 with q1 | q1
            · exact (hrw.2.2.1 q.1 ⟨q, q1, rfl⟩).1
            · have : q = (g, w, p) := by simpa using q1
              rw [this]
              exact hg
          have := key a ha
          have := key b hb
          unfold kV at *
          split <;> split <;> omega
        · rw [List.map_append]
          refine List.pairwise_append.mpr ⟨hrw.2.2.2.1, List.pairwise_singleton _ _, fun a ha b hb => ?_⟩
          obtain ⟨q, q1, rfl⟩ := List.mem_map.mp ha
          have hb : b = g := by simpa using hb
          subst hb
          exact fun z => hi ⟨q, q1, z⟩
      · intro x hx
        obtain ⟨t, ht, rfl⟩ := List.mem_map.mp hx
        obtain ⟨q, q1, rfl⟩ := List.mem_map.mp ht
        have : kV n st u q.1 := by
          rcases List.mem_append.mp q1 with q1 | q1
          · exact (hrw.2.2.1 q.1 ⟨q, q1, rfl⟩).1
          · have : q = (g, w, p) := by simpa using q1
            rw [this]
            exact hg
        unfold kV at this
        split <;> omega
    obtain ⟨ln, l1⟩ : ∃ ln, l.length = ln := ⟨_, rfl⟩
    rw [l1] at hln
    have l2 : σ K 7 = nI ln := by rw [← l1]; exact hrw.1
    iterate 1 (refine kX_one rfl ?_)
    refine kX_getN rfl rfl (kT_kn h.1) rfl ?_
    refine kX_top (l2) ?_
    iterate 1 (refine kX_one rfl ?_)
    repeat refine kX_one rfl ?_
    refine kX_if (fun q3 => ?_) (fun q3 => ?_)
    · have q3 := qlt q3 ln 776
      have k104 : ∀ τ, (∀ c, c < K + 5 ∨ K + 8 ≤ c → τ c = σ c) → τ (K + 5) = upd (σ (K + 5)) g (nI m) → τ (K + 6) = upd (σ (K + 6)) g (nI m) → (∀ a, a < 200 → τ (K + 7) a = if σ 2 g = nI 7 ∧ a < n ∧ σ 3 g = nI a then nI m else σ (K + 7) a) → kX kT L xs (d + 2) 51 104 (lv_args 0 [.ref K, .int (nI g), .int w, .int p]) [] τ (adP σ K st n u m l g w p) := by
        intro τ hτ t5 t6 t7
        have e7 : τ K 7 = nI ln := by rw [hτ K (by omega)]; exact l2
        iterate 1 (refine kX_one rfl ?_)
        refine kX_getN rfl rfl (kT_kn h.1) rfl ?_
        iterate 1 (refine kX_one rfl ?_)
        refine kX_getN rfl rfl (kT_kn h.1) rfl ?_
        refine kX_top (e7) ?_
        iterate 1 (refine kX_one rfl ?_)
        refine kX_iastN rfl (kT_k2 h.1 (Or.inl rfl)) (by decide) (ln) (by first | rfl | decide) (q3) ?_
        iterate 1 (refine kX_one rfl ?_)
        refine kX_getN rfl rfl (kT_kn h.1) rfl ?_
        iterate 1 (refine kX_one rfl ?_)
        refine kX_getN rfl rfl (kT_kn h.1) rfl ?_
        refine kX_top (y := nI ln) (by rw [up_ne (by omega)]; exact e7) ?_
        iterate 1 (refine kX_one rfl ?_)
        refine kX_iastN rfl (kT_k2 h.1 (Or.inr (Or.inl rfl))) (by decide) (ln) (by first | rfl | decide) (q3) ?_
        iterate 1 (refine kX_one rfl ?_)
        refine kX_getN rfl rfl (kT_kn h.1) rfl ?_
        iterate 1 (refine kX_one rfl ?_)
        refine kX_getN rfl rfl (kT_kn h.1) rfl ?_
        refine kX_top (y := nI ln) (by rw [up_ne (by omega), up_ne (by omega)]; exact e7) ?_
        iterate 1 (refine kX_one rfl ?_)
        refine kX_iastN rfl (kT_k2 h.1 (Or.inr (Or.inr rfl))) (by decide) (ln) (by first | rfl | decide) (q3) ?_
        iterate 2 (refine kX_one rfl ?_)
        refine kX_getN rfl rfl (kT_kn h.1) rfl ?_
        refine kX_top (y := nI ln) (by rw [up_ne (by omega), up_ne (by omega), up_ne (by omega)]; exact e7) ?_
        iterate 2 (refine kX_one rfl ?_)
        refine kX_putN rfl rfl (kT_kn h.1) rfl (rfl) rfl ?_
        iterate 1 (refine kX_one rfl ?_)
        generalize hX : va_up (va_up (va_up (va_up τ (K + 2) _) (K + 3) _) (K + 4) _) K _ = ω
        have hF : adF σ ω K n m g ln w p := by
          subst hX
          refine ⟨fun c hc => ?_, ?_, ?_, ?_, ?_, ?_, ?_, ?_, ?_⟩
          · rw [up_ne (by omega), up_ne (by omega), up_ne (by omega), up_ne (by omega)]
            exact hτ c (by omega)
          · rw [up_ne (by omega), up_ne (by omega), up_ne (by omega), up_ne (by omega)]
            exact hτ _ (by omega)
          · rw [up_eq, up_ne (by omega), up_ne (by omega), up_ne (by omega), hτ K (by omega), ← nI_1]
            rfl
          · rw [up_ne (show K + 2 ≠ K by omega), up_ne (show K + 2 ≠ K + 4 by omega), up_ne (show K + 2 ≠ K + 3 by omega), up_eq, hτ (K + 2) (by omega)]
          · rw [up_ne (show K + 3 ≠ K by omega), up_ne (show K + 3 ≠ K + 4 by omega), up_eq, up_ne (show K + 3 ≠ K + 2 by omega), hτ (K + 3) (by omega)]
          · rw [up_ne (show K + 4 ≠ K by omega), up_eq, up_ne (show K + 4 ≠ K + 3 by omega), up_ne (show K + 4 ≠ K + 2 by omega), hτ (K + 4) (by omega)]
          · rw [up_ne (by omega), up_ne (by omega), up_ne (by omega), up_ne (by omega)]
            exact t5
          · rw [up_ne (by omega), up_ne (by omega), up_ne (by omega), up_ne (by omega)]
            exact t6
          · intro a ha
            rw [up_ne (by omega), up_ne (by omega), up_ne (by omega), up_ne (by omega)]
            exact t7 a ha
        rw [← l1] at hF
        have hE := iE_add h hg hd hw hi hF
        refine kX_ret (i := .ireturn) (len := 1) rfl (Or.inr rfl) rfl ⟨rT hi, by rw [e]; exact hE.1, hE.2, fun c hc => hF.1 c (by omega), hF.2.1, fun j j1 _ => by rw [hF.2.2.1]; exact pk_un j1, iE_nR hE.1⟩
      iterate 1 (refine kX_one rfl ?_)
      refine kX_getN rfl rfl (kT_kn h.1) rfl ?_
      iterate 2 (refine kX_one rfl ?_)
      refine kX_getN rfl rfl (kT_kn h.1) rfl ?_
      refine kX_top (hst) ?_
      refine kX_iastN rfl (kT_k5 h.1 (Or.inl rfl)) (by decide) (g) (by first | rfl | decide) (hgl) ?_
      iterate 1 (refine kX_one rfl ?_)
      refine kX_getN rfl rfl (kT_kn h.1) rfl ?_
      iterate 2 (refine kX_one rfl ?_)
      refine kX_getN rfl rfl (kT_kn h.1) rfl ?_
      refine kX_top (y := nI m) (by rw [up_ne (by omega)]; exact hst) ?_
      refine kX_iastN rfl (kT_k5 h.1 (Or.inr rfl)) (by decide) (g) (by first | rfl | decide) (hgl) ?_
      generalize hX : va_up (va_up σ (K + 5) _) (K + 6) _ = τ
      have hτ : ∀ c, c < K + 5 ∨ K + 7 ≤ c → τ c = σ c := fun c hc => by
        rw [← hX, up_ne (by omega), up_ne (by omega)]
      have t5 : τ (K + 5) = upd (σ (K + 5)) g (nI m) := by rw [← hX, up_ne (by omega), up_eq]
      have t6 : τ (K + 6) = upd (σ (K + 6)) g (nI m) := by rw [← hX, up_eq, up_ne (by omega)]
      iterate 1 (refine kX_one rfl ?_)
      refine kX_getN rfl rfl (kT_kn h.1) rfl ?_
      iterate 2 (refine kX_one rfl ?_)
      refine kX_ialdV rfl rfl (by decide) g (by rfl) hgl (congrFun (hτ 2 (by omega)) g) ?_
      iterate 1 (refine kX_one rfl ?_)
      repeat refine kX_one rfl ?_
      refine kX_if (fun q4 => ?_) (fun q4 => ?_)
      · have q4 : σ 2 g ≠ nI 7 := qne q4
        exact k104 τ (fun c hc => hτ c (by omega)) t5 t6 (fun a ha => by rw [if_neg (fun z => q4 z.1), hτ (K + 7) (by omega)])
      · have q4 : σ 2 g = nI 7 := qneF q4
        have hV := iE_V h
        obtain ⟨a, a1, a2⟩ : ∃ a, a < n ∧ σ 3 g = nI a := by
          rcases (hV g hg).2 with ⟨k, h3, hk, -, -⟩ | ⟨k, x, y, h3, hk, hx, hy, h4, h5, h6, h7⟩ | ⟨k, x, h3, hk, hx, hy, h4, h6⟩
          · have := nI_inj (hk.symm.trans q4)
            omega
          · have := nI_inj (hk.symm.trans q4)
            omega
          · have := nI_inj (hk.symm.trans q4)
            rcases h3 with h3 | h3
            · omega
            · exact ⟨x, h3.2.1, hx⟩
        iterate 1 (refine kX_one rfl ?_)
        refine kX_getN rfl rfl (kT_kn h.1) rfl ?_
        iterate 1 (refine kX_one rfl ?_)
        refine kX_getN rfl rfl (kT_kn h.1) rfl ?_
        iterate 2 (refine kX_one rfl ?_)
        refine kX_ialdV rfl rfl (by decide) g (by rfl) hgl ((congrFun (hτ 3 (by omega)) g).trans a2) ?_
        refine kX_cal (mc_has L xs d τ n _ hn (by rw [hτ 1 (by omega)]; exact h.2.2.1)) rfl (Or.inr rfl) rfl rfl rfl (fun r1 σ1 q1 => ?_)
        obtain ⟨rfl, rfl⟩ := q1
        repeat refine kX_one rfl ?_
        refine kX_if (fun q5 => ?_) (fun q5 => ?_)
        · exact absurd (qeq q5) (isB_ne.mpr ⟨a, a1, rfl⟩)
        · iterate 1 (refine kX_one rfl ?_)
          refine kX_getN rfl rfl (kT_kn h.1) rfl ?_
          iterate 1 (refine kX_one rfl ?_)
          refine kX_getN rfl rfl (kT_kn h.1) rfl ?_
          iterate 2 (refine kX_one rfl ?_)
          refine kX_ialdV rfl rfl (by decide) g (by rfl) hgl ((congrFun (hτ 3 (by omega)) g).trans a2) ?_
          iterate 1 (refine kX_one rfl ?_)
          refine kX_getN rfl rfl (kT_kn h.1) rfl ?_
          refine kX_top (y := nI m) (by rw [hτ K (by omega)]; exact hst) ?_
          refine kX_iastN rfl ((kT_k7 h.1).1) (by decide) (a) (by first | rfl | decide) (by omega) ?_
          refine k104 _ (fun c hc => by rw [up_ne (by omega)]; exact hτ c (by omega)) (by rw [up_ne (by omega)]; exact t5) (by rw [up_ne (by omega)]; exact t6) (fun b hb => ?_)
          rw [up_eq, hτ (K + 7) (by omega)]
          by_cases z : b = a
          · subst z
            rw [pk_us, if_pos ⟨q4, a1, a2⟩]
          · rw [pk_un z, if_neg (fun y => z (nI_inj (y.2.2.symm.trans a2)))]
    · have q3 := qltF q3 ln 776
      omega
