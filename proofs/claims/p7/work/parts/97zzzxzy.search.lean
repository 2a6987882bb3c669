/-! alike: THE SEARCH, one function for both sides -/
/-- STATES with parent and mover; ways; finished; the answer (0: none, -7: open, 1 + c) -/
abbrev sX := List ((Nat → Int32) × Int32 × Int32) × Nat × Nat × Int32
/-- a STATE comes to be -/
noncomputable def sRe (σ : kS) (kl : List Nat) (S C : Nat) (x : sX) (a : Nat → Int32) (f s : Int32) : sX := cit (∃ q ∈ x.1, q.1 = a) x (cit (600 ≤ x.1.length) (x.1, x.2.1, x.2.2.1, -7) (x.1 ++ [(a, f, s)], x.2.1, x.2.2.1 + cit (∀ s, s < S → adN (stI σ a) s) 1 0, fsB (fun c => mBt (stI σ a) (trSt (stI σ a) kl S) c S) C 0))
/-- one EVENT more of the session s -/
def aUp (a : Nat → Int32) (s : Nat) : Nat → Int32 := upd a (7 * s) (a (7 * s) + 1)
/-- VARIABLES come to stand for TERMS -/
def aSet (a : Nat → Int32) (s : Nat) : List (Nat × Nat) → Nat → Int32
  | [] => a
  | q :: l => aSet (upd a (7 * s + 1 + q.1) (nI q.2)) s l
/-- the way w: what each VARIABLE comes to stand for -/
def wyT (os : List (List Nat)) (w : Nat) : List Nat := (os.zip (dg (os.map List.length) w)).map (fun q => q.1.getD q.2 0)
/-- m ways from w on, while there is no answer: from the STATE a (the i-th), the EVENT's TERM t, places ps -/
noncomputable def sWy (σ : kS) (kl : List Nat) (S C i s : Nat) (a : Nat → Int32) (t : Nat) (ps : List Nat) (os : List (List Nat)) : Nat → Nat → sX → sX
  | 0, _, x => x
  | m + 1, w, x => cit (x.2.2.2 = 0) (sWy σ kl S C i s a t ps os m (w + 1) (cit (trM σ (trSt (stI σ a) kl S) (tin (stI σ (aSet (aUp a s) s (ps.zip (wyT os w)))) s t)) (sRe σ kl S C x (aSet (aUp a s) s (ps.zip (wyT os w))) (nI i) (nI s)) x)) x
/-- a session of the STATE a goes on -/
noncomputable def sSe (σ : kS) (kl : List Nat) (n S C i s : Nat) (a : Nat → Int32) (x : sX) : sX :=
  let r := fN (σ 255 s)
  let e := fN (a (7 * s))
  cit (e < fN (σ 247 r)) (cit (σ 249 (6 * r + e) ≠ 0) (sRe σ kl S C x (aUp a s) (nI i) (nI s))
    (let os := (bls σ r e).map (fun u => opL σ (fN (σ 240 u)) n)
     let W := wyN (os.map List.length)
     cit (20000 < x.2.1 + W) (x.1, 20001, x.2.2.1, -7) (sWy σ kl S C i s a (fN (σ 248 (6 * r + e))) ((bls σ r e).map (fun u => fN (σ 241 u))) os W 0 (x.1, x.2.1 + W, x.2.2.1, x.2.2.2)))) x
/-- m sessions from s on, while there is no answer -/
noncomputable def sGo (σ : kS) (kl : List Nat) (n S C i : Nat) (a : Nat → Int32) : Nat → Nat → sX → sX
  | 0, _, x => x
  | m + 1, s, x => cit (x.2.2.2 = 0) (sGo σ kl n S C i a m (s + 1) (sSe σ kl n S C i s a x)) x
/-- m STATES from the i-th on, while there is no answer -/
noncomputable def sAll (σ : kS) (kl : List Nat) (n S C : Nat) : Nat → Nat → sX → sX
  | 0, _, x => x
  | m + 1, i, x => cit (x.2.2.2 = 0 ∧ i < x.1.length) (sAll σ kl n S C m (i + 1) (sGo σ kl n S C i ((x.1.getD i (fun _ => 0, 0, 0)).1) S 0 x)) x
/-- THE SEARCH from the STATE a -/
noncomputable def sSr (σ : kS) (kl : List Nat) (n S C : Nat) (a : Nat → Int32) : sX := sAll σ kl n S C 600 0 (sRe σ kl S C ([], 0, 0, 0) a (-1) (-1))
