/-! alike: THE SEARCH asks only for what was told -/
def sxD : List Nat := [241, 249, 248, 255, 238, 244, 246, 247, 257, 258, 259, 260, 261, 262, 263, 233, 234, 235, 240, 245]
def sxV : List Nat := [264, 265, 241, 249, 248, 255, 238, 244, 246, 247, 257, 258, 259, 260, 261, 262, 263, 233, 234, 235, 240, 245]
section SC
variable {σ τ : kS}
theorem stI_c (e : eqC σ τ sxD) (a : Nat → Int32) : eqC (stI σ a) (stI τ a) sxV := fun c hc => by
  rcases List.mem_cons.mp hc with rfl | hc
  · rfl
  · rcases List.mem_cons.mp hc with rfl | hc
    · rfl
    · have h1 : ∀ c ∈ sxD, c ≠ 264 ∧ c ≠ 265 := by decide
      obtain ⟨h2, h3⟩ := h1 c hc
      rw [stI_lo _ _ h2 h3, stI_lo _ _ h2 h3]
      exact e c hc
theorem mBt_c {tr : trT} {c S : Nat} (e : eqC σ τ sxV) : mBt τ tr c S = mBt σ tr c S := by
  have hmH : mHo τ = mHo σ := by
    funext s
    unfold mHo
    rw [e 244 (by decide), e 255 (by decide), e 246 (by decide), e 238 (by decide), e 265 (by decide)]
  have hmW : mWt τ c = mWt σ c := by
    funext s
    unfold mWt
    rw [hmH, e 255 (by decide), e 258 (by decide), e 264 (by decide), e 247 (by decide)]
  have hmF : mFit τ c = mFit σ c := by
    funext s o
    unfold mFit mJn
    rw [e 255 (by decide), e 259 (by decide), e 260 (by decide), e 264 (by decide), e 265 (by decide), e 261 (by decide), e 263 (by decide), e 262 (by decide)]
  unfold mBt trM mA
  rw [hmH, hmW, hmF, e 255 (by decide), e 258 (by decide), e 259 (by decide), e 265 (by decide), e 257 (by decide), e 233 (by decide), e 234 (by decide), e 235 (by decide), e 238 (by decide)]
theorem trSt_c {kl : List Nat} {S : Nat} (e : eqC σ τ sxV) : trSt τ kl S = trSt σ kl S := trSt_eq (e _ (by decide)) (e _ (by decide)) (e _ (by decide)) (e _ (by decide)) (e _ (by decide)) (e _ (by decide)) (e _ (by decide)) (e _ (by decide)) (e _ (by decide)) (e _ (by decide))
theorem tin_c (e : eqC σ τ sxV) : tin τ = tin σ := by
  funext s t
  unfold tin mVl
  rw [e 233 (by decide), e 234 (by decide), e 235 (by decide), e 265 (by decide), e 241 (by decide)]
theorem adN_c (e : eqC σ τ sxV) : adN τ = adN σ := by
  funext s
  unfold adN
  rw [e 264 (by decide), e 247 (by decide), e 255 (by decide)]
theorem sRe_c {kl : List Nat} {S C : Nat} {x : sX} {a : Nat → Int32} {f y : Int32} (e : eqC σ τ sxD) : sRe τ kl S C x a f y = sRe σ kl S C x a f y := by
  have h1 := stI_c e a
  have h2 : (fun c => mBt (stI τ a) (trSt (stI τ a) kl S) c S) = fun c => mBt (stI σ a) (trSt (stI σ a) kl S) c S := by
    funext c
    rw [trSt_c h1, mBt_c h1]
  unfold sRe
  rw [h2, adN_c h1]
theorem bls_c {r e' : Nat} (e : eqC σ τ sxD) : bls τ r e' = bls σ r e' := by
  have h1 : nbv τ = nbv σ := by
    funext r e' k
    unfold nbv bdv
    rw [e 244 (by decide), e 246 (by decide), e 249 (by decide), e 245 (by decide), e 233 (by decide), e 234 (by decide), e 235 (by decide), e 248 (by decide)]
  unfold bls
  rw [h1, e 241 (by decide), e 233 (by decide), e 234 (by decide), e 235 (by decide), e 248 (by decide)]
theorem opL_c {so : Nat} (e : eqC σ τ sxD) : ∀ n, opL τ so n = opL σ so n
  | 0 => rfl
  | n + 1 => by
    rw [opL_1, opL_1, opL_c e n]
    have : gS τ so n = gS σ so n := by
      unfold gS
      rw [e 233 (by decide), e 234 (by decide), e 235 (by decide)]
    rw [this]
theorem owO_c {n r e' : Nat} (e : eqC σ τ sxD) : owO τ n r e' = owO σ n r e' := by
  unfold owO
  rw [bls_c e, e 240 (by decide)]
  exact List.map_congr_left (fun u _ => opL_c e n)
theorem owP_c {r e' : Nat} (e : eqC σ τ sxD) : owP τ r e' = owP σ r e' := by
  unfold owP
  rw [bls_c e, e 241 (by decide)]
theorem sWy_c {kl : List Nat} {S C i s t : Nat} {a : Nat → Int32} {ps : List Nat} {os : List (List Nat)} (e : eqC σ τ sxD) (m : Nat) : ∀ w (x : sX), sWy τ kl S C i s a t ps os m w x = sWy σ kl S C i s a t ps os m w x := by
  have h1 : trM τ = trM σ := by
    funext tr g
    unfold trM mA
    rw [e 233 (by decide), e 238 (by decide)]
  have h2 := trSt_c (kl := kl) (S := S) (stI_c e a)
  induction m with
  | zero => intro w x; rfl
  | succ m ih =>
    intro w x
    rw [sWy, sWy, ih, h1, h2, tin_c (stI_c e _), sRe_c e]
theorem sSe_c {kl : List Nat} {n S C i s : Nat} {a : Nat → Int32} {x : sX} (e : eqC σ τ sxD) : sSe τ kl n S C i s a x = sSe σ kl n S C i s a x := by
  have e1 := e 255 (by decide)
  have e2 := e 247 (by decide)
  have e3 := e 249 (by decide)
  by_cases q : fN (a (7 * s)) < fN (σ 247 (fN (σ 255 s)))
  · by_cases q2 : σ 249 (6 * fN (σ 255 s) + fN (a (7 * s))) = 0
    · rw [sSe_recv (σ := σ) rfl rfl q q2 rfl, sSe_recv (σ := τ) (r := fN (σ 255 s)) (by rw [e1]) rfl (by rw [e2]; exact q) (by rw [e3]; exact q2) (t := fN (σ 248 (6 * fN (σ 255 s) + fN (a (7 * s))))) (by rw [e 248 (by decide)]), sWy_c e, owO_c e, owP_c e]
    · rw [sSe_send (σ := σ) rfl rfl q q2, sSe_send (σ := τ) (r := fN (σ 255 s)) (by rw [e1]) rfl (by rw [e2]; exact q) (by rw [e3]; exact q2), sRe_c e]
  · rw [sSe_none (σ := σ) rfl q, sSe_none (σ := τ) (r := fN (σ 255 s)) (by rw [e1]) (by rw [e2]; exact q)]
theorem sGo_c {kl : List Nat} {n S C i : Nat} {a : Nat → Int32} (e : eqC σ τ sxD) : ∀ m s (x : sX), sGo τ kl n S C i a m s x = sGo σ kl n S C i a m s x
  | 0, _, _ => rfl
  | m + 1, s, x => by
    rw [sGo, sGo, sSe_c e, sGo_c e m (s + 1)]
theorem sAll_c {kl : List Nat} {n S C : Nat} (e : eqC σ τ sxD) : ∀ m i (x : sX), sAll τ kl n S C m i x = sAll σ kl n S C m i x
  | 0, _, _ => rfl
  | m + 1, i, x => by
    rw [sAll, sAll, sGo_c e, sAll_c e m (i + 1)]
theorem sSr_c {kl : List Nat} {n S C : Nat} {a : Nat → Int32} (e : eqC σ τ sxD) : sSr τ kl n S C a = sSr σ kl n S C a := by
  unfold sSr
  rw [sRe_c e, sAll_c e]
end SC
