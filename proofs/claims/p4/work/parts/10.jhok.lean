section JHOK
variable {p : Program} {l : Launch} {e : Env} {R : Room} {s : State} {m : MethodId} {args : Array Value} {below : List Frame} {meth : Method} {c : Code} {H : Heap} {locs : List Loc} {cells slots : Nat} {Q : State → Prop}
variable {D : va_G} {dA : Nat → ClassId} {b b0 L mi pc len : Nat} {xs : Nat → Int32} {ls : Array Slot} {lv : jL} {st rest : List Value} {h : List jC}
/-- the row of multianewarray, proved in a late part: what it stands on is built late -/
def jMna (l : Launch) : Prop := ∀ (p : Program) (e : Env) (R : Room) (s : State) (m : MethodId) (args : Array Value) (below : List Frame) (meth : Method) (c : Code) (H : Heap) (locs : List Loc) (cells slots : Nat) (Q : State → Prop) (D : va_G) (dA : Nat → ClassId) (b b0 L mi pc : Nat) (xs : Nat → Int32) (ls : Array Slot) (rest : List Value) (h : List jC) (idx : Nat) (t : Nat × Nat) (n w : Int32),
    jcx D dA b b0 L xs p s m args meth c mi → jWd D dA b b0 h H → va_S (fun q => b0 ≤ q) s.heap H locs → jm_mna (jm_own mi) idx = some t → ¬ n < 0 → ¬ w < 0 → n.toNatClampNeg ≤ 1000 → w.toNatClampNeg ≤ 1000 → decode (jm_code mi) pc = .ok (.multianewarray idx 2, 4) → cells + (1 + n.toNatClampNeg) ≤ R.cells → slots + (n.toNatClampNeg + n.toNatClampNeg * w.toNatClampNeg) ≤ R.slots →
    jKH p l e R s m args below meth c (cells + (1 + n.toNatClampNeg)) (slots + (n.toNatClampNeg + n.toNatClampNeg * w.toNatClampNeg)) Q D dA b b0 ((h ++ [.inl (t.1, n.toNatClampNeg, .inr (.inr (.inr (.inr (fun i => if i < n.toNatClampNeg then some (h.length + 1 + i) else none)))))]) ++ List.replicate n.toNatClampNeg (.inl (0, w.toNatClampNeg, .inl (fun _ => 0)))) (F0 m (pc + 4) ls (.ref (b0 + h.length) :: rest)) →
    W p l e R s m args below meth c H locs cells slots Q (F0 m pc ls (.int w :: .int n :: rest))
theorem jsl_rep (n : Nat) (c : jC) : jsl (List.replicate n c) = n * jsz c := by
  induction n with
  | zero => simp [jsl]
  | succ n ih =>
    rw [List.replicate_succ, show (c :: List.replicate n c) = [c] ++ List.replicate n c from rfl, jsl_app, jsl_one, ih, Nat.succ_mul, Nat.add_comm]
theorem jk_same {g : JFrame} (hW : jWd D dA b b0 h H) (hS : va_S (fun q => b0 ≤ q) s.heap H locs) (kk : jKH p l e R s m args below meth c (cells + (h.length - h.length)) (slots + (jsl h - jsl h)) Q D dA b b0 h g) : W p l e R s m args below meth c H locs cells slots Q g := by
  have := kk H locs hW hS
  simpa using this
theorem jk_set {g : JFrame} {a : Nat} {c0 c9 : jC} (ha : h[a]? = some c0) (hz : jsz c9 = jsz c0) (kk : jKH p l e R s m args below meth c (cells + ((h.set a c9).length - h.length)) (slots + (jsl (h.set a c9) - jsl h)) Q D dA b b0 (h.set a c9) g) : jKH p l e R s m args below meth c cells slots Q D dA b b0 (h.set a c9) g := by
  rw [List.length_set, Nat.sub_self, jsl_set h a c0 c9 ha hz, Nat.sub_self] at kk
  exact kk
theorem jk_push {g : JFrame} {c9 : jC} (kk : jKH p l e R s m args below meth c (cells + ((h ++ [c9]).length - h.length)) (slots + (jsl (h ++ [c9]) - jsl h)) Q D dA b b0 (h ++ [c9]) g) : jKH p l e R s m args below meth c (cells + 1) (slots + jsz c9) Q D dA b b0 (h ++ [c9]) g := by
  rw [jsl_app, jsl_one, List.length_append, Nat.add_sub_cancel_left, Nat.add_sub_cancel_left] at kk
  exact kk
theorem jn_push {c9 : jC} (hc : cells + ((h ++ [c9]).length - h.length) ≤ R.cells) (hsl : slots + (jsl (h ++ [c9]) - jsl h) ≤ R.slots) : cells + 1 ≤ R.cells ∧ slots + jsz c9 ≤ R.slots := by
  rw [jsl_app, jsl_one, Nat.add_sub_cancel_left] at hsl
  rw [List.length_append, Nat.add_sub_cancel_left] at hc
  exact ⟨hc, hsl⟩
set_option maxHeartbeats 4000000 in
theorem jh_ok (hmna : jMna l) (cx : jcx D dA b b0 L xs p s m args meth c mi) (hW : jWd D dA b b0 h H) (hS : va_S (fun q => b0 ≤ q) s.heap H locs) (hl : ls.size = jm_maxL mi) (hfr : 1 ≤ R.frames) (hlo : 40 ≤ R.locals) {i : Instr} (hlen : jlen i = 0 ∨ len = jlen i) (hd : decode (jm_code mi) pc = .ok (i, len)) {r : Nat × jL × List Value × List jC}
    (hs : jH L xs (decide (mi = 0)) (jm_ini mi) (jm_own mi) pc lv st h i = some r) (hc : cells + (r.2.2.2.length - h.length) ≤ R.cells) (hsl : slots + (jsl r.2.2.2 - jsl h) ≤ R.slots)
    (kk : jKH p l e R s m args below meth c (cells + (r.2.2.2.length - h.length)) (slots + (jsl r.2.2.2 - jsl h)) Q D dA b b0 r.2.2.2 (F0 m r.1 ls (r.2.2.1.map (jv b b0)))) :
    W p l e R s m args below meth c H locs cells slots Q (F0 m pc ls (st.map (jv b b0))) := by
  cases i with
  | getfield idx =>
    simp only [jH] at hs
    split at hs
    · split at hs
      · next ci f ci' fs hf ha =>
        split at hs
        · next he =>
          subst he
          cases hv : fs[f]? with
          | none => rw [hv] at hs; cases hs
          | some v =>
            rw [hv] at hs
            cases hs
            exact jh_get cx hW hf ha hv (jq_len rfl (by decide) hlen hd) (jk_same hW hS kk)
        · cases hs
      · cases hs
    · cases hs
  | putfield idx =>
    simp only [jH] at hs
    split at hs
    · split at hs
      · next ci f ci' fs hf ha =>
        split at hs
        · next he =>
          obtain ⟨rfl, h1, h2, h3⟩ := he
          cases hs
          exact jh_put cx hW hS hf ha h1 h2 h3 (jq_len rfl (by decide) hlen hd) (jk_set ha (by simp [jsz]) kk)
        · cases hs
      · cases hs
    · cases hs
  | iaload =>
    simp only [jH] at hs
    split at hs
    · split at hs
      · next t n f ha =>
        split at hs
        · next he =>
          obtain ⟨rfl, h1⟩ := he
          cases hs
          exact jh_iald cx hW ha h1 (jq_len rfl (by decide) hlen hd) (jk_same hW hS kk)
        · cases hs
      · cases hs
    · split at hs
      · next he =>
        cases hs
        exact jh_sld cx (of_decide_eq_true he.1) hS he.2 (jq_len rfl (by decide) hlen hd) (jk_same hW hS kk)
      · cases hs
    · cases hs
  | baload =>
    simp only [jH] at hs
    split at hs
    · split at hs
      · next t n f ha =>
        split at hs
        · next he =>
          obtain ⟨rfl, h1⟩ := he
          cases hs
          exact jh_bald cx hW ha h1 (jq_len rfl (by decide) hlen hd) (jk_same hW hS kk)
        · cases hs
      · cases hs
    · cases hs
  | aaload =>
    simp only [jH] at hs
    split at hs
    · split at hs
      · next t n f ha =>
        split at hs
        · next he =>
          cases hs
          exact jh_aald cx hW ha he.1 he.2.1 he.2.2 (jq_len rfl (by decide) hlen hd) (jk_same hW hS kk)
        · cases hs
      · cases hs
    · cases hs
  | arraylength =>
    simp only [jH] at hs
    split at hs
    · split at hs
      · next t n x ha =>
        split at hs
        · next he =>
          cases hs
          exact jh_alen cx hW ha he (jq_len rfl (by decide) hlen hd) (jk_same hW hS kk)
        · cases hs
      · cases hs
    · split at hs
      · next he =>
        cases hs
        exact jh_slen cx (of_decide_eq_true he) hS (jq_len rfl (by decide) hlen hd) (jk_same hW hS kk)
      · cases hs
    · cases hs
  | iastore =>
    simp only [jH] at hs
    split at hs
    · split at hs
      · next t n f ha =>
        split at hs
        · next he =>
          obtain ⟨rfl, h1⟩ := he
          cases hs
          exact jh_iast cx hW hS ha h1 (jq_len rfl (by decide) hlen hd) (jk_set ha rfl kk)
        · cases hs
      · cases hs
    · cases hs
  | bastore =>
    simp only [jH] at hs
    split at hs
    · split at hs
      · next t n f ha =>
        split at hs
        · next he =>
          obtain ⟨rfl, h1, h2⟩ := he
          cases hs
          exact jh_bast cx hW hS ha h1 h2 (jq_len rfl (by decide) hlen hd) (jk_set ha rfl kk)
        · cases hs
      · cases hs
    · cases hs
  | aastore =>
    simp only [jH] at hs
    split at hs
    · split at hs
      · next t n f ci vs ha hv =>
        split at hs
        · next he =>
          cases hs
          exact jh_aast cx hW hS ha hv he.1 he.2.1 he.2.2 (jq_len rfl (by decide) hlen hd) (jk_set ha rfl kk)
        · cases hs
      · cases hs
    · cases hs
  | new idx =>
    simp only [jH] at hs
    split at hs
    · next ci hn =>
      cases hs
      obtain ⟨g1, g2⟩ := jn_push hc hsl
      have g3 : jsz (.inr (ci, (List.range (jm_nf ci)).map (fun j => defaultValue (jm_ty ci j)))) = jm_nf ci := by simp [jsz]
      have kk := jk_push kk
      rw [g3] at g2 kk
      exact jh_new cx hW hS hn (jq_len rfl (by decide) hlen hd) g1 g2 kk
    · cases hs
  | newarray ty =>
    simp only [jH] at hs
    split at hs
    · split at hs
      · next he =>
        split at hs
        · next hty =>
          cases hs
          obtain ⟨g1, g2⟩ := jn_push hc hsl
          exact jh_newa cx hW hS (t := 0) (Nat.lt_of_lt_of_le (by decide) jm_nat2) (by rw [jm_aty0]; exact hty) (by rw [jm_aty0]; exact jm_ar.1) (by rw [jm_aty0]; rfl) (by rw [jm_aty0]; decide) (fun U cA hU => by rw [jm_aty0] at hU ⊢; exact hU) he.1 he.2 (jq_len rfl (by decide) hlen hd) g1 g2 (jk_push kk)
        · next hty =>
          cases hs
          obtain ⟨g1, g2⟩ := jn_push hc hsl
          exact jh_newa cx hW hS (t := 1) (Nat.lt_of_lt_of_le (by decide) jm_nat2) (by rw [jm_aty1]; exact hty) (by rw [jm_aty1]; exact jm_ar.2) (by rw [jm_aty1]; rfl) (by rw [jm_aty1]; decide) (fun U cA hU => by rw [jm_aty1] at hU ⊢; exact hU) he.1 he.2 (jq_len rfl (by decide) hlen hd) g1 g2 (jk_push kk)
        · cases hs
      · cases hs
    · cases hs
  | anewarray idx =>
    simp only [jH] at hs
    split at hs
    · next n st t hq =>
      split at hs
      · next he =>
        cases hs
        obtain ⟨g1, g2⟩ := jn_push hc hsl
        exact jh_newq cx hW hS hq he.1 he.2 (jq_len rfl (by decide) hlen hd) g1 g2 (jk_push kk)
      · cases hs
    · cases hs
  | multianewarray idx dm =>
    by_cases hdm : dm = 2
    · subst hdm
      simp only [jH] at hs
      split at hs
      · next w n st t hq =>
        split at hs
        · next he =>
          cases hs
          obtain ⟨-, h1, h2, h3, h4⟩ := he
          have e1 : ((h ++ [((.inl (t.1, n.toNatClampNeg, .inr (.inr (.inr (.inr (fun i => if i < n.toNatClampNeg then some (h.length + 1 + i) else none)))))) : jC)]) ++ List.replicate n.toNatClampNeg ((.inl (0, w.toNatClampNeg, .inl (fun _ => 0))) : jC)).length - h.length = 1 + n.toNatClampNeg := by
            rw [List.length_append, List.length_append, List.length_replicate]
            simp only [List.length_cons, List.length_nil]
            omega
          have e2 : jsl ((h ++ [((.inl (t.1, n.toNatClampNeg, .inr (.inr (.inr (.inr (fun i => if i < n.toNatClampNeg then some (h.length + 1 + i) else none)))))) : jC)]) ++ List.replicate n.toNatClampNeg ((.inl (0, w.toNatClampNeg, .inl (fun _ => 0))) : jC)) - jsl h = n.toNatClampNeg + n.toNatClampNeg * w.toNatClampNeg := by
            rw [jsl_app, jsl_app, jsl_one, jsl_rep]
            show jsl h + n.toNatClampNeg + n.toNatClampNeg * w.toNatClampNeg - jsl h = _
            omega
          dsimp only at hc hsl kk
          rw [e1] at hc kk
          rw [e2] at hsl kk
          exact hmna p e R s m args below meth c H locs cells slots Q D dA b b0 L mi pc xs ls _ h idx t n w cx hW hS hq h1 h2 h3 h4 (jq_len rfl (by decide) hlen hd) hc hsl kk
        · cases hs
      · cases hs
    · have : jH L xs (decide (mi = 0)) (jm_ini mi) (jm_own mi) pc lv st h (.multianewarray idx dm) = none := by
        unfold jH
        split <;> simp_all
      rw [this] at hs
      cases hs
  | invokestatic idx =>
    simp only [jH] at hs
    split at hs
    · next v hv =>
      split at hs
      · split at hs
        · next he =>
          cases hs
          exact jh_mm cx hl hv (jq_len rfl (by decide) hlen hd) hfr hlo (by simpa [jv_cat, Function.comp_def] using he.1) he.2 (by simpa using hc) (by simpa using hsl) (jk_same hW hS kk)
        · cases hs
      · cases hs
    · next hnm =>
      split at hs
      · split at hs
        · next t0 n0 f t1 n1 g ho ha0 ha =>
          split at hs
          · next he =>
            obtain ⟨rfl, rfl, h1, h2, h3, h4, h5, h6⟩ := he
            cases hs
            exact jh_copy cx hW hS hl ho ha0 ha h1 h2 h3 h4 h5 (jq_len rfl (by decide) hlen hd) hfr hlo (by simpa [jv_cat, Function.comp_def] using h6) (jk_set ha rfl kk)
          · cases hs
        · cases hs
      · cases hs
  | invokespecial idx =>
    simp only [jH] at hs
    split at hs
    · split at hs
      · next he =>
        cases hs
        exact jh_oi cx hl he.1 (jq_len rfl (by decide) hlen hd) hfr hlo (by simpa [jv_cat, Function.comp_def] using he.2) (jk_same hW hS kk)
      · cases hs
    · cases hs
  | _ => cases hs
end JHOK
