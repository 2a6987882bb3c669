/-! rows as trees; rows while the table grows -/
abbrev trT : Type := List (Jvm.Term × Int32 × Int32)
noncomputable def trA (l : trT) (g : Jvm.Term) (w p : Int32) : trT := cit (∃ q ∈ l, q.1 = g) l (l ++ [(g, w, p)])
/-- a row's TERMS as trees -/
def rwM (σ : kS) (l : rwT) : trT := l.map (fun q => (tvl (σ 233) (σ 234) (σ 235) q.1, q.2))
theorem rwM_mem {σ : kS} {l : rwT} {g : Jvm.Term} : (∃ q ∈ rwM σ l, q.1 = g) ↔ mR σ l g := by
  unfold rwM mR rwI
  constructor
  · rintro ⟨q, hq, rfl⟩
    obtain ⟨p, hp, rfl⟩ := List.mem_map.mp hq
    exact ⟨p.1, ⟨p, hp, rfl⟩, rfl⟩
  · rintro ⟨t, ⟨p, hp, rfl⟩, e⟩
    exact ⟨_, List.mem_map.mpr ⟨p, hp, rfl⟩, e⟩
theorem rwM_A {σ : kS} {n b : Nat} {l : rwT} {t : Nat} {w p : Int32} (h : mTb σ n b) (hl : ∀ t, rwI l t → mvG σ n b t) (ht : mv n b t) : rwM σ (rwA l t w p) = trA (rwM σ l) (tvl (σ 233) (σ 234) (σ 235) t) w p := by
  unfold trA rwA
  by_cases hi : rwI l t
  · rw [if_pos hi, cit_T (rwM_mem.mpr ((mR_iff h hl ht).mpr hi))]
  · rw [if_neg hi, cit_F (fun q => hi ((mR_iff h hl ht).mp (rwM_mem.mp q)))]
    unfold rwM
    rw [List.map_append]
    rfl
theorem rwI_A {l : rwT} {t u : Nat} {w p : Int32} (h : rwI (rwA l t w p) u) : rwI l u ∨ u = t := by
  unfold rwA at h
  split at h
  · exact Or.inl h
  · exact rwI_app.mp h
/-- the table grows: the row stays -/
theorem mRq_ex {σ τ : kS} {n b b' : Nat} {l : rwT} (h0 : mTb σ n b) (hE : mEx σ τ n b b') (h : mRq σ (mvG σ n b) l) : mRq τ (mvG τ n b') l ∧ rwM τ l = rwM σ l := by
  have hm : ∀ t, mvG σ n b t → mvG τ n b' t := fun t ht => ⟨by have := ht.1; have := hE.2.1; unfold mv at *; omega, (mEx_tvl h0 hE ht.1).2.trans ht.2⟩
  have hrw : rwM τ l = rwM σ l := by
    unfold rwM
    refine List.map_congr_left (fun q hq => ?_)
    rw [(mEx_tvl h0 hE (h.2.2.1 q.1 ⟨q, hq, rfl⟩).1).1]
  refine ⟨?_, hrw⟩
  obtain ⟨h1, h2, h3, h4, h5⟩ := h
  obtain ⟨-, -, -, K, F, S, Z, G, nx, hd, N, I, rfl⟩ := hE
  exact ⟨h1, h2, fun t ht => hm t (h3 t ht), h4, h5⟩
theorem mMk_ex {σ τ : kS} {n b b' : Nat} {l : rwT} (h0 : mTb σ n b) (hE : mEx σ τ n b b') (hl : ∀ t, rwI l t → mvG σ n b t) {t : Nat} (ht : mv n b t) : mMk τ l t ↔ mMk σ l t := by
  obtain ⟨e1, e2⟩ := mEx_tvl h0 hE ht
  unfold mMk
  rw [e1, e2]
  have hR : mR τ l = mR σ l := by
    funext g
    refine propext ⟨fun ⟨u, hu, e⟩ => ⟨u, hu, by rw [← e, (mEx_tvl h0 hE (hl u hu).1).1]⟩, fun ⟨u, hu, e⟩ => ⟨u, hu, by rw [← e, (mEx_tvl h0 hE (hl u hu).1).1]⟩⟩
  have hH : τ 238 = σ 238 := by
    obtain ⟨-, -, -, K, F, S, Z, G, nx, hd, N, I, rfl⟩ := hE
    rfl
  rw [hR, hH]
  refine and_congr_right (fun hg => ?_)
  /- AGENTS are old -/
  have key : ∀ u, mv n b u → tgd (σ 233) (σ 234) (σ 235) u = true → (vmk (mR σ l) (mA τ) (σ 238) (tvl (σ 233) (σ 234) (σ 235) u) ↔ vmk (mR σ l) (mA σ) (σ 238) (tvl (σ 233) (σ 234) (σ 235) u)) := by
    have hV := h0.2.2.2.2.2.1.1
    intro u
    induction u using Nat.strongRecOn with
    | _ u ih =>
      intro hu hgu
      rcases (hV u hu).2 with ⟨k, h3, hk, -, -⟩ | ⟨k, x, y, h3, hk, hx, hy, h4, h5, h6, h7⟩ | ⟨k, x, h3, hk, hx, hy, h4, h6⟩
      · rw [tvl_0 hk h3]
        unfold vmk mA
        rw [(hE.2.2.1 u (by have := h0.1; have := h0.2.1; unfold mv at hu; omega)).1]
      · rw [tgd_2 hV hk hx hy (by omega) (by omega) h4 h5 h6 h7, Bool.and_eq_true] at hgu
        rw [tvl_2 hV hk hx hy (by omega) (by omega) h4 h5 h6 h7]
        have ix := ih x h4 h6 hgu.1
        have iy := ih y h5 h7 hgu.2
        rcases h3 with rfl | rfl | ⟨rfl | rfl, -⟩
        · show (_ ∨ (_ ∧ _)) ↔ (_ ∨ (_ ∧ _))
          rw [ix, iy]
        · show (_ ∨ (_ ∧ _)) ↔ (_ ∨ (_ ∧ _))
          rw [ix, iy]
        · show (_ ∨ _) ↔ (_ ∨ _)
          rw [ix]
        · show (_ ∨ (_ ∧ _)) ↔ (_ ∨ (_ ∧ _))
          rw [ix]
      · rw [tgd_1 hV hk hx hy (by omega) (by omega) h4 h6] at hgu
        rw [tvl_1 hV hk hx hy (by omega) (by omega) h4 h6]
        have ix := ih x h4 h6 hgu
        rcases h3 with rfl | ⟨rfl, -⟩
        · show (_ ∨ _) ↔ (_ ∨ _)
          rw [ix]
        · exact Iff.rfl
  exact key t ht hg
theorem mJd_ex {σ τ : kS} {n b b' : Nat} {l : rwT} (h0 : mTb σ n b) (hE : mEx σ τ n b b') (hl : ∀ t, rwI l t → mvG σ n b t) (h : mJd σ n b l) : mJd τ n b' l := by
  have e232 : ∀ j, j ≠ 10 → τ 232 j = σ 232 j := fun j hj => by
    obtain ⟨-, -, -, K, F, S, Z, G, nx, hd, N, I, rfl⟩ := hE
    exact pk_un hj
  have emk : τ 272 = σ 272 := by
    obtain ⟨-, -, -, K, F, S, Z, G, nx, hd, N, I, rfl⟩ := hE
    rfl
  obtain ⟨h1, h2⟩ := h
  refine ⟨by rw [e232 _ (by decide)]; exact h1, fun q => ?_⟩
  rw [e232 _ (by decide)] at q
  obtain ⟨j, j1, j2, j3, j4⟩ := h2 q
  refine ⟨j, by rw [e232 _ (by decide)]; exact j1, j2, by have := hE.2.1; omega, fun t ht htj => ?_⟩
  have htb : mv n b t := by unfold mv at ht ⊢; omega
  rw [emk, j4 t htb htj, propext (mMk_ex h0 hE hl htb)]
/-- what a row of trees MAKES -/
def trI (l : trT) (g : Jvm.Term) : Prop := ∃ q ∈ l, q.1 = g
noncomputable def trK (A : Nat → Prop) (H : Nat → Int32) (l : trT) (p : Nat) : trT := match l[p]? with
  | some (.add a b, _) => trA (trA l a (nI 2) (nI p)) b (nI 3) (nI p)
  | some (.sub a b, _) => cit (vmk (trI l) A H b) (trA l a (nI 4) (nI p)) l
  | some (.mul a b, _) => cit (vnh H b ∨ trI l (.length b)) (trA l a (nI 5) (nI p)) l
  | some (.div a _, _) => trA l a (nI 6) (nI p)
  | _ => l
noncomputable def trP (A : Nat → Prop) (H : Nat → Int32) : Nat → Nat → trT → trT
  | 0, _, l => l
  | f + 1, p, l => if p < l.length then trP A H f (p + 1) (trK A H l p) else l
noncomputable def trE (A : Nat → Prop) (H : Nat → Int32) : Nat → trT → trT
  | 0, l => l
  | f + 1, l => if l.length < (trP A H 1001 0 l).length then trE A H f (trP A H 1001 0 l) else trP A H 1001 0 l
theorem rwM_I (σ : kS) (l : rwT) : trI (rwM σ l) = mR σ l := funext fun g => propext rwM_mem
theorem rwM_K {σ : kS} {n b : Nat} {l : rwT} {p : Nat} (h : mTb σ n b) (hl : ∀ t, rwI l t → mvG σ n b t) (hp : p < l.length) : rwM σ (tkR σ l p) = trK (mA σ) (σ 238) (rwM σ l) p ∧ ∀ t, rwI (tkR σ l p) t → mvG σ n b t := by
  have hV := h.2.2.2.2.2.1.1
  obtain ⟨t, ht⟩ : ∃ t, (l[p]'hp).1 = t := ⟨_, rfl⟩
  have htv : mvG σ n b t := hl t ⟨l[p]'hp, List.getElem_mem hp, ht⟩
  have hR : tkR σ l p = tkT σ l p t := by
    unfold tkR
    rw [List.getElem?_eq_getElem hp]
    rw [← ht]
  have hM : (rwM σ l)[p]? = some (tvl (σ 233) (σ 234) (σ 235) t, (l[p]'hp).2) := by
    unfold rwM
    rw [List.getElem?_map, List.getElem?_eq_getElem hp]
    rw [← ht]
    rfl
  rw [hR]
  unfold trK
  rw [hM]
  have hA : ∀ (l1 : rwT) (x : Nat) (w q : Int32), (∀ t, rwI l1 t → mvG σ n b t) → mvG σ n b x → ∀ u, rwI (rwA l1 x w q) u → mvG σ n b u := fun l1 x w q h1 h2 u hu => by
    rcases rwI_A hu with hu | rfl
    · exact h1 u hu
    · exact h2
  rcases (hV t htv.1).2 with ⟨k, h3, hk, -, -⟩ | ⟨k, x, y, h3, hk, hx, hy, h4, h5, h6, h7⟩ | ⟨k, x, h3, hk, hx, hy, h4, h6⟩
  · have e : tkT σ l p t = l := by
      unfold tkT
      rw [hk, if_neg (nI_ne (by omega)), if_neg (nI_ne (by omega)), if_neg (nI_ne (by omega)), if_neg (nI_ne (by omega))]
    rw [e, tvl_0 hk h3]
    exact ⟨rfl, hl⟩
  · have hg := htv.2
    rw [tgd_2 hV hk hx hy (by omega) (by omega) h4 h5 h6 h7, Bool.and_eq_true] at hg
    have hxv : mvG σ n b x := ⟨h6, hg.1⟩
    have hyv : mvG σ n b y := ⟨h7, hg.2⟩
    have ex : fN (σ 234 t) = x := by rw [hx]; exact fN_nI (by have := (hV x h6).1; omega)
    have ey : fN (σ 235 t) = y := by rw [hy]; exact fN_nI (by have := (hV y h7).1; omega)
    rw [tvl_2 hV hk hx hy (by omega) (by omega) h4 h5 h6 h7]
    have hmy : mMk σ l y ↔ vmk (trI (rwM σ l)) (mA σ) (σ 238) (tvl (σ 233) (σ 234) (σ 235) y) := by
      rw [rwM_I]
      exact ⟨fun q => q.2, fun q => ⟨hg.2, q⟩⟩
    rcases h3 with rfl | rfl | ⟨h3, hag⟩
    · have e : tkT σ l p t = rwA (rwA l x (nI 2) (nI p)) y (nI 3) (nI p) := by
        unfold tkT
        rw [if_pos hk, ex, ey]
      rw [e]
      refine ⟨?_, hA _ _ _ _ (hA _ _ _ _ hl hxv) hyv⟩
      show _ = trA (trA (rwM σ l) (tvl (σ 233) (σ 234) (σ 235) x) (nI 2) (nI p)) (tvl (σ 233) (σ 234) (σ 235) y) (nI 3) (nI p)
      rw [rwM_A h (hA _ _ _ _ hl hxv) h7, rwM_A h hl h6]
    · have e : tkT σ l p t = cit (mMk σ l y) (rwA l x (nI 4) (nI p)) l := by
        unfold tkT
        rw [if_neg (by rw [hk]; decide), if_pos hk, ex, ey]
      rw [e]
      show rwM σ (cit _ _ _) = cit (vmk (trI (rwM σ l)) (mA σ) (σ 238) (tvl (σ 233) (σ 234) (σ 235) y)) (trA (rwM σ l) (tvl (σ 233) (σ 234) (σ 235) x) (nI 4) (nI p)) (rwM σ l) ∧ _
      by_cases hm : mMk σ l y
      · rw [cit_T hm, cit_T (hmy.mp hm), rwM_A h hl h6]
        exact ⟨rfl, hA _ _ _ _ hl hxv⟩
      · rw [cit_F hm, cit_F (fun q => hm (hmy.mpr q))]
        exact ⟨rfl, hl⟩
    · have hy0 : σ 233 y = nI 0 := by
        rcases hag.2 with e | ⟨e, -⟩
        · exact e
        · rw [tgd_0 e (by decide)] at hg
          exact absurd rfl (of_decide_eq_true hg.2)
      rcases h3 with rfl | rfl
      · have e : tkT σ l p t = cit (mHp σ l y) (rwA l x (nI 5) (nI p)) l := by
          unfold tkT
          rw [if_neg (by rw [hk]; decide), if_neg (by rw [hk]; decide), if_pos hk, ex, ey]
        rw [e]
        show rwM σ (cit _ _ _) = cit (vnh (σ 238) (tvl (σ 233) (σ 234) (σ 235) y) ∨ trI (rwM σ l) (.length (tvl (σ 233) (σ 234) (σ 235) y))) (trA (rwM σ l) (tvl (σ 233) (σ 234) (σ 235) x) (nI 5) (nI p)) (rwM σ l) ∧ _
        rw [tvl_0 hy0 (by decide), rwM_I]
        by_cases hm : mHp σ l y
        · rw [cit_T hm, cit_T (show vnh (σ 238) (.arg y) ∨ mR σ l (.length (.arg y)) from hm), rwM_A h hl h6]
          exact ⟨rfl, hA _ _ _ _ hl hxv⟩
        · rw [cit_F hm, cit_F (show ¬ (vnh (σ 238) (.arg y) ∨ mR σ l (.length (.arg y))) from hm)]
          exact ⟨rfl, hl⟩
      · have e : tkT σ l p t = rwA l x (nI 6) (nI p) := by
          unfold tkT
          rw [if_neg (by rw [hk]; decide), if_neg (by rw [hk]; decide), if_neg (by rw [hk]; decide), if_pos hk, ex]
        rw [e]
        refine ⟨?_, hA _ _ _ _ hl hxv⟩
        show _ = trA (rwM σ l) (tvl (σ 233) (σ 234) (σ 235) x) (nI 6) (nI p)
        rw [rwM_A h hl h6]
  · have e : tkT σ l p t = l := by
      unfold tkT
      rw [hk, if_neg (nI_ne (by omega)), if_neg (nI_ne (by omega)), if_neg (nI_ne (by omega)), if_neg (nI_ne (by omega))]
    rw [e, tvl_1 hV hk hx hy (by omega) (by omega) h4 h6]
    rcases h3 with rfl | ⟨rfl, -⟩
    · exact ⟨rfl, hl⟩
    · exact ⟨rfl, hl⟩
theorem rwM_len (σ : kS) (l : rwT) : (rwM σ l).length = l.length := List.length_map ..
theorem rwM_P {σ : kS} {n b : Nat} (h : mTb σ n b) : ∀ (f p : Nat) (l : rwT), (∀ t, rwI l t → mvG σ n b t) → rwM σ (psR σ f p l) = trP (mA σ) (σ 238) f p (rwM σ l) ∧ ∀ t, rwI (psR σ f p l) t → mvG σ n b t
  | 0, _, l, hl => ⟨rfl, hl⟩
  | f + 1, p, l, hl => by
    unfold psR trP
    rw [rwM_len]
    by_cases hp : p < l.length
    · rw [if_pos hp, if_pos hp]
      obtain ⟨k1, k2⟩ := rwM_K h hl hp
      rw [← k1]
      exact rwM_P h f (p + 1) (tkR σ l p) k2
    · rw [if_neg hp, if_neg hp]
      exact ⟨rfl, hl⟩
theorem rwM_E {σ : kS} {n b : Nat} (h : mTb σ n b) : ∀ (f : Nat) (l : rwT), (∀ t, rwI l t → mvG σ n b t) → rwM σ (enR σ f l) = trE (mA σ) (σ 238) f (rwM σ l) ∧ ∀ t, rwI (enR σ f l) t → mvG σ n b t
  | 0, l, hl => ⟨rfl, hl⟩
  | f + 1, l, hl => by
    obtain ⟨k1, k2⟩ := rwM_P h 1001 0 l hl
    have e1 : (trP (mA σ) (σ 238) 1001 0 (rwM σ l)).length = (psR σ 1001 0 l).length := by rw [← k1, rwM_len]
    unfold enR trE
    rw [rwM_len, e1]
    by_cases hp : l.length < (psR σ 1001 0 l).length
    · rw [if_pos hp, if_pos hp, ← k1]
      exact rwM_E h f _ k2
    · rw [if_neg hp, if_neg hp]
      exact ⟨k1, k2⟩
