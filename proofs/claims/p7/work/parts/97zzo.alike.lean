/-! alike: all that both sides hold -/
/-- nothing: -1 of the class, -6 of the reference -/
def nnI (x : Int32) : Int32 := if x = -1 then -6 else x
noncomputable def fl (P : Nat → Prop) : List Nat → List Nat
  | [] => []
  | x :: l => cit (P x) (x :: fl P l) (fl P l)
/-- the VARIABLES that the EVENT e of the role r binds, as they stand in it -/
noncomputable def bls (σ : kS) (r e : Nat) : List Nat := fl (fun u => nbv σ r e (fN (σ 241 u))) (ddl [] (tvs (σ 233) (σ 234) (σ 235) (fN (σ 248 (6 * r + e)))))
/-- u is neither GROUND nor a VARIABLE -/
def opn (σ : kS) (u : Nat) : Prop := tgd (σ 233) (σ 234) (σ 235) u = false ∧ σ 233 u ≠ nI 3
/-- the plan of an EVENT that receives, in the cells from a on -/
def aP (σ : kS) (a t : Nat) (bl : List Nat) : Prop := ∃ pl : List Nat, pl.length ≤ 24 ∧ σ a 7 = nI pl.length ∧ lst (σ (a + 3)) pl ∧ t ∈ pl ∧ (∀ u ∈ pl, u ≤ t ∧ ∀ v ∈ tvs (σ 233) (σ 234) (σ 235) u, v ∈ tvs (σ 233) (σ 234) (σ 235) t) ∧
  (∀ i (h : i < pl.length), opn σ (pl[i]'h) → (∃ j, ∃ (hj : j < pl.length), j < i ∧ σ 234 (pl[i]'h) = nI (pl[j]'hj)) ∧ (σ 235 (pl[i]'h) = -1 ∨ ∃ j, ∃ (hj : j < pl.length), j < i ∧ σ 235 (pl[i]'h) = nI (pl[j]'hj))) ∧
  ∀ j, j < bl.length → ∃ f, f ≤ pl.length ∧ σ (a + 4) (j + 1) = nI f ∧ ∀ i (h : i < pl.length), i < f → ∀ v ∈ tvs (σ 233) (σ 234) (σ 235) (pl[i]'h), ∀ j', ∀ (hj : j' < bl.length), j ≤ j' → v ≠ bl[j']'hj
def aE (σ : kS) (r e : Nat) : Prop := σ (28 + 35 * r + 5 * e) 1 = σ 248 (6 * r + e) ∧ (σ (28 + 35 * r + 5 * e) 0 ≠ 0 ↔ σ 249 (6 * r + e) ≠ 0) ∧ (σ 249 (6 * r + e) ≠ 0 → σ (28 + 35 * r + 5 * e) 4 = 0) ∧
  (σ 249 (6 * r + e) = 0 → σ (28 + 35 * r + 5 * e) 4 = nI (bls σ r e).length ∧ (bls σ r e).length ≤ 6 ∧ (∀ j (h : j < (bls σ r e).length), σ (29 + 35 * r + 5 * e) j = σ 241 ((bls σ r e)[j]'h) ∧ σ (30 + 35 * r + 5 * e) j = σ 240 ((bls σ r e)[j]'h)) ∧ aP σ (28 + 35 * r + 5 * e) (fN (σ 248 (6 * r + e))) (bls σ r e))
def aR1 (σ : kS) (r : Nat) : Prop := σ (23 + 35 * r) 3 = σ 244 r ∧ σ (23 + 35 * r) 5 = σ 247 r ∧ (σ (23 + 35 * r) 6 ≠ 0 ↔ σ 250 r ≠ 0) ∧
  (∀ k, k < fN (σ 244 r) → σ (24 + 35 * r) k = σ 246 (6 * r + k) ∧ σ (25 + 35 * r) k = σ 240 (fN (σ 245 (6 * r + k))) ∧ (σ 246 (6 * r + k) = nI 2 → (σ (26 + 35 * r) k ≠ 0 ↔ bdv σ r (fN (σ 247 r)) k))) ∧ ∀ e, e < fN (σ 247 r) → aE σ r e
def aR (σ : kS) (R : Nat) : Prop := ∀ r, r < R → aR1 σ r
/-- all PARAMETERS of the session s are HONEST, as it was made -/
def hoF (σ : kS) (s : Nat) : Prop := ∀ k, k < fN (σ 244 (fN (σ 255 s))) → σ 246 (6 * fN (σ 255 s) + k) = 0 → σ 238 (fN (σ 256 (6 * s + k))) ≠ 0
def aS1 (σ : kS) (s : Nat) : Prop := σ 15 s = σ 255 s ∧ σ 17 (7 * s) = 0 ∧ (∀ k, k < 6 → nnI (σ 17 (7 * s + 1 + k)) = if k < fN (σ 244 (fN (σ 255 s))) then σ 256 (6 * s + k) else -6) ∧ (σ 16 s ≠ 0 ↔ hoF σ s)
def aS (σ : kS) (S : Nat) : Prop := ∀ s, s < S → aS1 σ s
def aC1 (σ : kS) (c : Nat) : Prop := (σ (163 + 3 * c) 0 ≠ 0 ↔ σ 257 c ≠ 0) ∧ σ (163 + 3 * c) 1 = σ 258 c ∧ (σ 257 c ≠ 0 → σ (163 + 3 * c) 3 = σ 259 c) ∧ (σ 257 c = 0 → σ (163 + 3 * c) 2 = σ 259 c ∧ σ (163 + 3 * c) 3 = σ 260 c) ∧ σ (163 + 3 * c) 6 = σ 261 c ∧ ∀ i, i < fN (σ 261 c) → σ (164 + 3 * c) i = σ 262 (4 * c + i) ∧ σ (165 + 3 * c) i = σ 263 (4 * c + i)
def aC (σ : kS) (C : Nat) : Prop := ∀ c, c < C → aC1 σ c
def aK (σ : kS) (kl : List Nat) : Prop := σ 13 10 = nI kl.length ∧ lst (σ 19) kl
/-- TERMS of an intruder -/
def kV (n st u t : Nat) : Prop := t < n ∨ (st ≤ t ∧ t < st + u)
def kTv (σ : kS) (t : Nat) : Jvm.Term := tvl (σ 2) (σ 3) (σ 4) t
def kAG (σ : kS) (n y : Nat) : Prop := y < n ∧ (σ 2 y = nI 0 ∨ (σ 2 y = nI 3 ∧ σ 11 y = nI 0))
/-- how deep a TERM is -/
def tdp (K F S : Nat → Int32) (t : Nat) : Nat := tA (fun _ => 0) (fun _ a b => 1 + max a (b.getD 0)) K F S t
/-- the table of an intruder: n TERMS, u without number -/
def kTb (σ : kS) (K st n u : Nat) : Prop := u ≤ 576 ∧ σ K 3 = nI u ∧ σ K 1 = nI st ∧ tbW (kV n st u) (kAG σ n) (σ 2) (σ 3) (σ 4) (σ 5) ∧ (∀ g, st ≤ g → g < st + u → 3 < fN (σ 2 g) ∧ tgd (σ 2) (σ 3) (σ 4) g = true ∧ tdp (σ 2) (σ 3) (σ 4) g ≤ 47) ∧ hcP 256 1928 (fun g => st ≤ g ∧ g < st + u) (cpt σ) (σ (K + 1)) (σ 6)
/-- the marks of an intruder that began m times -/
def kMs (σ : kS) (K m : Nat) : Prop := σ K 12 = nI m ∧ (∀ g, g < 1928 → ∃ q, q ≤ m ∧ σ (K + 5) g = nI q) ∧ (∀ g, g < 1928 → ∃ q, q ≤ m ∧ (σ (K + 6) g = nI q ∨ σ (K + 6) g = -(nI q))) ∧ ∀ a, a < 200 → ∃ q, q ≤ m ∧ σ (K + 7) a = nI q
def kIn (σ : kS) (l : rwT) (g : Jvm.Term) : Prop := ∃ t, rwI l t ∧ kTv σ t = g
/-- what an intruder's row makes -/
def kMk (σ : kS) (l : rwT) (t : Nat) : Prop := vmk (kIn σ l) (mA σ) (σ 238) (kTv σ t)
/-- the row l of an intruder that began m times -/
def kRw (σ : kS) (K st n u m : Nat) (l : rwT) : Prop := σ K 7 = nI l.length ∧ (∀ i (h : i < l.length), σ (K + 2) i = nI (l[i]'h).1 ∧ σ (K + 3) i = (l[i]'h).2.1 ∧ σ (K + 4) i = (l[i]'h).2.2) ∧ (∀ t, rwI l t → kV n st u t ∧ tgd (σ 2) (σ 3) (σ 4) t = true) ∧ (l.map (fun q => q.1)).Pairwise (fun x y => x ≠ y) ∧
  (∀ g, kV n st u g → (σ (K + 5) g = nI m ↔ rwI l g)) ∧ (∀ a, a < n → (σ (K + 7) a = nI m ↔ ∃ t, rwI l t ∧ σ 2 t = nI 7 ∧ σ 3 t = nI a)) ∧
  (∀ t, rwI l t → σ (K + 6) t = nI m) ∧ ∀ g, kV n st u g → tgd (σ 2) (σ 3) (σ 4) g = true → (σ (K + 6) g = nI m → kMk σ l g) ∧ (σ (K + 6) g = -(nI m) → σ K 13 ≠ 0 ∧ ¬ kMk σ l g)
/-- no mark of this start where there is no TERM -/
def kQf (σ : kS) (K st n u m : Nat) : Prop := ∀ g, g < 1928 → ¬ kV n st u g → σ (K + 5) g ≠ nI m ∧ σ (K + 6) g ≠ nI m ∧ σ (K + 6) g ≠ -(nI m)
/-- .. as trees -/
def kTr (σ : kS) (l : rwT) : trT := l.map (fun q => (kTv σ q.1, q.2.1, nnI q.2.2))
/-- an intruder whose row is whole: tr -/
def kOk (σ : kS) (K st n : Nat) (tr : trT) : Prop := ∃ u m l, 0 < m ∧ m < 2147483647 ∧ kTb σ K st n u ∧ kMs σ K m ∧ kRw σ K st n u m l ∧ kTr σ l = tr ∧ σ K 13 = 1 ∧ kQf σ K st n u m
/-- the RUN -/
def aU (σ : kS) (n S : Nat) (kl : List Nat) : Prop := (σ 181 8 ≠ 0 ↔ σ 232 52 ≠ 0) ∧ (σ 232 52 ≠ 0 → σ 181 7 = σ 232 55 ∧ (∀ i, i < fN (σ 232 55) → σ 183 i = σ 274 i) ∧ (∀ s, s < S → σ 182 (7 * s) = σ 264 s ∧ ∀ k, k < 6 → nnI (σ 182 (7 * s + 1 + k)) = σ 265 (6 * s + k)) ∧ (∀ s, s < S → ∀ k, k < 6 → σ 17 (7 * s + 1 + k) ≠ -1 → σ 182 (7 * s + 1 + k) = σ 17 (7 * s + 1 + k)) ∧
  (σ 181 9 = nI n → ∃ ds, σ 232 55 = nI ds.length ∧ lst (σ 274) ds ∧ ds.length ≤ 24 ∧ (∀ s ∈ ds, s < S) ∧ kOk σ 186 200 n (trRun σ kl ds)))
/-- what was found -/
def aF (σ : kS) (n R S : Nat) : Prop := σ 196 5 = σ 232 69 ∧ σ 195 10 = σ 232 70 ∧ σ 195 11 = σ 232 71 ∧ nnI (σ 195 9) = σ 232 72 ∧ (∃ N, N ≤ 600 ∧ σ 232 69 = nI N) ∧
  (σ 195 9 ≠ -1 → ∃ (as : List Nat) (N : Nat), 0 < N ∧ N ≤ 600 ∧ σ 232 69 = nI N ∧ as.length ≤ 24 ∧ σ 232 72 = nI as.length ∧ lst (σ 288) as ∧ lst (σ 203) as ∧ (∀ s ∈ as, s < S ∧ as.count s ≤ fN (σ 247 (fN (σ 255 s)))) ∧
    ∀ i (h : i < as.length), ∃ st, st < 600 ∧ σ 289 i = nI st ∧ ∀ k, k < 6 → σ 285 (24 * st + 6 * (as[i]'h) + k) = cit (bdv σ (fN (σ 255 (as[i]'h))) ((as.take i).count (as[i]'h) + 1) k) (nnI (σ 197 (28 * (N - 1) + 7 * (as[i]'h) + 1 + k))) (-6))
/-- the three intruders began at most m times -/
def aM (σ : kS) (m : Nat) : Prop := ∃ m1 m2 m3, m1 ≤ m ∧ m2 ≤ m ∧ m3 ≤ m ∧ kMs σ 186 m1 ∧ kMs σ 204 m2 ∧ kMs σ 213 m3
def aB (σ : kS) (n R S C : Nat) (kl : List Nat) (m : Nat) : Prop := aR σ R ∧ aS σ S ∧ aC σ C ∧ aK σ kl ∧ aU σ n S kl ∧ aF σ n R S ∧ aM σ m
/-- both sides are alike -/
def aJ (σ : kS) (n b R S C : Nat) (kl : List Nat) (m : Nat) : Prop := mI σ n b R S C kl ∧ cJ σ n R S C ∧ aT σ n ∧ aB σ n R S C kl m
def bJ (m : Nat) (σ : kS) : Prop := ∃ n b R S C kl, aJ σ n b R S C kl m
