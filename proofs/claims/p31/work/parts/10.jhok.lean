section
section JHOK
variable {p : Program} {l : Launch} {e : Env} {R : Room} {s : State} {m : MethodId} {args : Array Value} {below : List Frame} {meth : Method} {c : Code} {H : Heap} {locs : List Loc} {cells slots : Nat} {Q : State → Prop}
variable {D : va_G} {dA : Nat → ClassId} {b b0 L mi pc len : Nat} {xs : Nat → Int32} {ls : Array Slot} {lv : jL} {st rest : List Value} {h : List jC}
/-- the row of multianewarray, proved in a late part: what it stands on is built late -/
def jMna (l : Launch) : Prop := ∀ (p : Program) (e : Env) (R : Room) (s : State) (m : MethodId) (args : Array Value) (below : List Frame) (meth : Method) (c : Code) (H : Heap) (locs : List Loc) (cells slots : Nat) (Q : State → Prop) (D : va_G) (dA : Nat → ClassId) (b b0 L mi pc : Nat) (xs : Nat → Int32) (ls : Array Slot) (rest : List Value) (h : List jC) (idx : Nat) (t : Nat × Nat) (n w : Int32),
    jcx D dA b b0 L xs p s m args meth c mi → jWd D dA b b0 h H → va_S (fun q => b0 ≤ q) s.heap H locs → jm_mna (jm_own mi) idx = some t → ¬ n < 0 → ¬ w < 0 → n.toNatClampNeg ≤ 1000 → w.toNatClampNeg ≤ 1000 → decode (jm_code mi) pc = .ok (.multianewarray idx 2, 4) → cells + (1 + n.toNatClampNeg) ≤ R.cells → slots + (n.toNatClampNeg + n.toNatClampNeg * w.toNatClampNeg) ≤ R.slots →
    jKH p l e R s m args below meth c (cells + (1 + n.toNatClampNeg)) (slots + (n.toNatClampNeg + n.toNatClampNeg * w.toNatClampNeg)) Q D dA b b0 ((h ++ [.inl (t.1, n.toNatClampNeg, .inr (.inr (.inr (.inr (fun i => if i < n.toNatClampNeg then some (h.length + 1 + i) else none)))))]) ++ List.replicate n.toNatClampNeg (.inl (0, w.toNatClampNeg, .inl (fun _ => 0)))) (F0 m (pc + 4) ls (.ref (b0 + h.length) :: rest)) →
    W p l e R s m args below meth c H locs cells slots Q (F0 m pc ls (.int w :: .int n :: rest))
theorem jsl_rep (n : Nat) (c : jC) : jsl (List.replicate n c) = n * jsz c := by
  induction n with
  | zero => simp [jsl]
  | succ n ih =>
    rw [List.replicate_succ, show (c :: List.replicate n c) = [c] ++ List.replicate n c from rfl, jsl_app, jsl_one, ih, Nat.succ_mul, Nat.add_comm]
theorem jk_same {g : JFrame} (hW : jWd D dA b b0 h H) (hS : va_S (fun q => b0 ≤ q) s.heap H locs) (kk : jKH p l e R s m args below meth c (cells + (h.length - h.length)) (slots + (jsl h - jsl h)) Q D dA b b0 h g) : W p l e R s m args below meth c H locs cells slots Q g := by
  have := kk H locs hW hS
  simpa using this
theorem jk_set {g : JFrame} {a : Nat} {c0 c9 : jC} (ha : h[a]? = some c0) (hz : jsz c9 = jsz c0) (kk : jKH p l e R s m args below meth c (cells + ((h.set a c9).length - h.length)) (slots + (jsl (h.set a c9) - jsl h)) Q D dA b b0 (h.set a c9) g) : jKH p l e R s m args below meth c cells slots Q D dA b b0 (h.set a c9) g := by
  rw [List.length_set, Nat.sub_self, jsl_set h a c0 c9 ha hz, Nat.sub_self] at kk
  exact kk
theorem jk_push {g : JFrame} {c9 : jC} (kk : jKH p l e R s m args below meth c (cells + ((h ++ [c9]).length - h.length)) (slots + (jsl (h ++ [c9]) - jsl h)) Q D dA b b0 (h ++ [c9]) g) : jKH p l e R s m args below meth c (cells + 1) (slots + jsz c9) Q D dA b b0 (h ++ [c9]) g := by
  rw [jsl_app, jsl_one, List.length_append, Nat.add_sub_cancel_left, Nat.add_sub_cancel_left] at kk
  exact kk
theorem jn_push {c9 : jC} (hc : cells + ((h ++ [c9]).length - h.length) ≤ R.cells) (hsl : slots + (jsl (h ++ [c9]) - jsl h) ≤ R.slots) : cells + 1 ≤ R.cells ∧ slots + jsz c9 ≤ R.slots := by
  rw [jsl_app, jsl_one, Nat.add_sub_cancel_left] at hsl
  rw [List.length_append, Nat.add_sub_cancel_left] at hc
  exact ⟨hc, hsl⟩
set_option maxHeartbeats 4000000 in
theorem jh_ok (hmna : jMna l) (cx : jcx D dA b b0 L xs p s m args meth c mi) (hW : jWd D dA b b0 h H) (hS : va_S (fun q => b0 ≤ q) s.heap H locs) (hl : ls.size = jm_maxL mi) (hfr : 1 ≤ R.frames) (hlo : 40 ≤ R.locals) {i : Instr} (hlen : jlen i = 0 ∨ len = jlen i) (hd : decode (jm_code mi) pc = .ok (i, len)) {r : Nat × jL × List Value × List jC}
    (hs : jH L xs (decide (mi = 0)) (jm_ini mi) (jm_own mi) pc lv st h i = some r) (hc : cells + (r.2.2.2.length - h.length) ≤ R.cells) (hsl : slots + (jsl r.2.2.2 - jsl h) ≤ R.slots)
    (kk : jKH p l e R s m args below meth c (cells + (r.2.2.2.length - h.length)) (slots + (jsl r.2.2.2 - jsl h)) Q D dA b b0 r.2.2.2 (F0 m r.1 ls (r.2.2.1.map (jv b b0)))) :
    W p l e R s m args below meth c H locs cells slots Q (F0 m pc ls (st.map (jv b b0))) := by
  cases i with
  | getfield idx =>
    simp only [jH] at hs
    split at hs
    · split at hs
      · next ci f ci' fs hf ha =>
        split at hs
        · next he =>
          subst he
          cases hv : fs[f]? with
          | none => rw [hv] at hs; cases hs
          | some v =>
            rw [hv] at hs
            cases hs
            exact jh_get cx hW hf ha hv (jq_len rfl (by decide) hlen hd) (jk_same hW hS kk)
        · cases hs
      · cases hs
    · cases hs
  | putfield idx =>
    simp only [jH] at hs
    split at hs
    · split at hs
      · next ci f ci' fs hf ha =>
        split at hs
        · next he =>
          obtain ⟨rfl, h1, h2, h3⟩ := he
          cases hs
          exact jh_put cx hW hS hf ha h1 h2 h3 (jq_len rfl (by decide) hlen hd) (jk_set ha (by simp [jsz]) kk)
        · cases hs
      · cases hs
    · cases hs
  | iaload =>
    simp only [jH] at hs
    split at hs
    · split at hs
      · next t n f ha =>
        split at hs
        · next he =>
          obtain ⟨rfl, h1⟩ := he
          cases hs
          exact jh_iald cx hW ha h1 (jq_len rfl (by decide) hlen hd) (jk_same hW hS kk)
        · cases hs
      · cases hs
    · split at hs
      · next he =>
        cases hs
        exact jh_sld cx (of_decide_eq_true he.1) hS he.2 (jq_len rfl (by decide) hlen hd) (jk_same hW hS kk)
      · cases hs
    · cases hs
  | baload =>
    simp only [jH] at hs
    split at hs
    · split at hs
      · next t n f ha =>
        split at hs
        · next he =>
          obtain ⟨rfl, h1⟩ := he
          cases hs
          exact jh_bald cx hW ha h1 (jq_len rfl (by decide) hlen hd) (jk_same hW hS kk)
        · cases hs
      · cases hs
    · cases hs
  | aaload =>
    simp only [jH] at hs
    split at hs
    · split at hs
      · next t n f ha =>
        split at hs
        · next he =>
          cases hs
          exact jh_aald cx hW ha he.1 he.2.1 he.2.2 (jq_len rfl (by decide) hlen hd) (jk_same hW hS kk)
        · cases hs
      · cases hs
    · cases hs
  | arraylength =>
    simp only [jH] at hs
    split at hs
    · split at hs
      · next t n x ha =>
        split at hs
        · next he =>
          cases hs
          exact jh_alen cx hW ha he (jq_len rfl (by decide) hlen hd) (jk_same hW hS kk)
        · cases hs
      · cases hs
    · split at hs
      · next he =>
        cases hs
        exact jh_slen cx (of_decide_eq_true he) hS (jq_len rfl (by decide) hlen hd) (jk_same hW hS kk)
      · cases hs
    · cases hs
  | iastore =>
    simp only [jH] at hs
    split at hs
    · split at hs
      · next t n f ha =>
        split at hs
        · next he =>
          obtain ⟨rfl, h1⟩ := he
          cases hs
          exact jh_iast cx hW hS ha h1 (jq_len rfl (by decide) hlen hd) (jk_set ha rfl kk)
        · cases hs
      · cases hs
    · cases hs
  | bastore =>
    simp only [jH] at hs
    split at hs
    · split at hs
      · next t n f ha =>
        split at hs
        · next he =>
          obtain ⟨rfl, h1, h2⟩ := he
          cases hs
          exact jh_bast cx hW hS ha h1 h2 (jq_len rfl (by decide) hlen hd) (jk_set ha rfl kk)
        · cases hs
      · cases hs
    · cases hs
  | aastore =>
    simp only [jH] at hs
    split at hs
    · split at hs
      · next t n f ci vs ha hv =>
        split at hs
        · next he =>
          cases hs
          exact jh_aast cx hW hS ha hv he.1 he.2.1 he.2.2 (jq_len rfl (by decide) hlen hd) (jk_set ha rfl kk)
        · cases hs
      · cases hs
    · cases hs
  | new idx =>
    simp only [jH] at hs
    split at hs
    · next ci hn =>
      cases hs
      obtain ⟨g1, g2⟩ := jn_push hc hsl
      have g3 : jsz (.inr (ci, (List.range (jm_nf ci)).map (fun j => defaultValue (jm_ty ci j)))) = jm_nf ci := by simp [jsz]
      have kk := jk_push kk
      rw [g3] at g2 kk
      exact jh_new cx hW hS hn (jq_len rfl (by decide) hlen hd) g1 g2 kk
    · cases hs
  | newarray ty =>
    simp only [jH] at hs
    split at hs
    · split at hs
      · next he =>
        split at hs
        · next hty =>
          cases hs
          obtain ⟨g1, g2⟩ := jn_push hc hsl
          exact jh_newa cx hW hS (t := 0) (Nat.lt_of_lt_of_le (by decide) jm_nat2) (by rw [jm_aty0]; exact hty) (by rw [jm_aty0]; exact jm_ar.1) (by rw [jm_aty0]; rfl) (by rw [jm_aty0]; decide) (fun U cA hU => by rw [jm_aty0] at hU ⊢; exact hU) he.1 he.2 (jq_len rfl (by decide) hlen hd) g1 g2 (jk_push kk)
        · next hty =>
          cases hs
          obtain ⟨g1, g2⟩ := jn_push hc hsl
          exact jh_newa cx hW hS (t := 1) (Nat.lt_of_lt_of_le (by decide) jm_nat2) (by rw [jm_aty1]; exact hty) (by rw [jm_aty1]; exact jm_ar.2) (by rw [jm_aty1]; rfl) (by rw [jm_aty1]; decide) (fun U cA hU => by rw [jm_aty1] at hU ⊢; exact hU) he.1 he.2 (jq_len rfl (by decide) hlen hd) g1 g2 (jk_push kk)
        · cases hs
      · cases hs
    · cases hs
  | anewarray idx =>
    simp only [jH] at hs
    split at hs
    · next n st t hq =>
      split at hs
      · next he =>
        cases hs
        obtain ⟨g1, g2⟩ := jn_push hc hsl
        exact jh_newq cx hW hS hq he.1 he.2 (jq_len rfl (by decide) hlen hd) g1 g2 (jk_push kk)
      · cases hs
    · cases hs
  | multianewarray idx dm =>
    by_cases hdm : dm = 2
    · subst hdm
      simp only [jH] at hs
      split at hs
      · next w n st t hq =>
        split at hs
        · next he =>
          cases hs
          obtain ⟨-, h1, h2, h3, h4⟩ := he
          have e1 : ((h ++ [((.inl (t.1, n.toNatClampNeg, .inr (.inr (.inr (.inr (fun i => if i < n.toNatClampNeg then some (h.length + 1 + i) else none)))))) : jC)]) ++ List.replicate n.toNatClampNeg ((.inl (0, w.toNatClampNeg, .inl (fun _ => 0))) : jC)).length - h.length = 1 + n.toNatClampNeg := by
            rw [List.length_append, List.length_append, List.length_replicate]
            simp only [List.length_cons, List.length_nil]
            omega
          have e2 : jsl ((h ++ [((.inl (t.1, n.toNatClampNeg, .inr (.inr (.inr (.inr (fun i => if i < n.toNatClampNeg then some (h.length + 1 + i) else none)))))) : jC)]) ++ List.replicate n.toNatClampNeg ((.inl (0, w.toNatClampNeg, .inl (fun _ => 0))) : jC)) - jsl h = n.toNatClampNeg + n.toNatClampNeg * w.toNatClampNeg := by
            rw [jsl_app, jsl_app, jsl_one, jsl_rep]
            show jsl h + n.toNatClampNeg + n.toNatClampNeg * w.toNatClampNeg - jsl h = _
            omega
          dsimp only at hc hsl kk
          rw [e1] at hc kk
          rw [e2] at hsl kk
          exact hmna p e R s m args below meth c H locs cells slots Q D dA b b0 L mi pc xs ls _ h idx t n w cx hW hS hq h1 h2 h3 h4 (jq_len rfl (by decide) hlen hd) hc hsl kk
        · cases hs
      · cases hs
    · have : jH L xs (decide (mi = 0)) (jm_ini mi) (jm_own mi) pc lv st h (.multianewarray idx dm) = none := by
        unfold jH
        split <;> simp_all
      rw [this] at hs
      cases hs
  | invokestatic idx =>
    simp only [jH] at hs
    split at hs
    · next v hv =>
      split at hs
      · split at hs
        · next he =>
          cases hs
          exact jh_mm cx hl hv (jq_len rfl (by decide) hlen hd) hfr hlo (by simpa [jv_cat, Function.comp_def] using he.1) he.2 (by simpa using hc) (by simpa using hsl) (jk_same hW hS kk)
        · cases hs
      · cases hs
    · next hnm =>
      split at hs
      · split at hs
        · next t0 n0 f t1 n1 g ho ha0 ha =>
          split at hs
          · next he =>
            obtain ⟨rfl, rfl, h1, h2, h3, h4, h5, h6⟩ := he
            cases hs
            exact jh_copy cx hW hS hl ho ha0 ha h1 h2 h3 h4 h5 (jq_len rfl (by decide) hlen hd) hfr hlo (by simpa [jv_cat, Function.comp_def] using h6) (jk_set ha rfl kk)
          · cases hs
        · cases hs
      · cases hs
  | invokespecial idx =>
    simp only [jH] at hs
    split at hs
    · split at hs
      · next he =>
        cases hs
        exact jh_oi cx hl he.1 (jq_len rfl (by decide) hlen hd) hfr hlo (by simpa [jv_cat, Function.comp_def] using he.2) (jk_same hW hS kk)
      · cases hs
    · cases hs
  | _ => cases hs
end JHOK
end
section
theorem jsl_one' (v : Value) (as : List Value) : (lg_sl (v :: as)).length = (if v.category = 2 then 2 else 1) + (lg_sl as).length := by
  unfold lg_sl
  rw [List.flatMap_cons, List.length_append]
  by_cases h : v.category = 2
  · rw [if_pos h, if_pos h]; rfl
  · rw [if_neg h, if_neg h]; rfl
theorem jsl_lg (b b0 : Nat) : ∀ as : List Value, (lg_sl (as.map (jv b b0))).length = (lg_sl as).length
  | [] => rfl
  | v :: as => by
    rw [List.map_cons, jsl_one', jsl_one', jv_cat, jsl_lg b b0 as]
theorem jlv_args (b b0 : Nat) : ∀ (as : List Value) (k : Nat), lv_args k (as.map (jv b b0)) = jlv b b0 (lv_args k as)
  | [], _ => rfl
  | v :: as, k => by
    simp only [List.map_cons, lv_args, jv_cat, jlv]
    rw [jlv_args b b0 as]
    rfl
theorem jAO_moved {u U : State} (hvm : u.vm.Alike U.vm) (h : (Cond.arrayOver (.array .int)).before #[] u = true) : (Cond.arrayOver (.array .int)).before #[] U = true := by
  obtain ⟨comp, c, k, h1, h2, h3, h4, h5⟩ := arrayOverA_spec h
  obtain ⟨k', hk', he⟩ := hvm.2.2 _ _ h3
  have hi : (U.vm.classes.findIdx? fun (x : Class) => match x.kind with | .array component _ => component == comp | _ => false) = some c := by
    rw [hvm.findIdx?_eq _ (fun _ => rfl)]; exact h2
  have hkind : k'.kind = .array comp (.array .int) := by rw [he]; exact h4
  have f1 : U.vm.findClass (FieldType.array .int).toString = some comp := by rw [hvm.findClass]; exact h1
  have f2 : U.vm.findClass ("[" ++ (FieldType.array .int).toString) = some c := by rw [hvm.findClass]; exact h5
  unfold Cond.before Cond.holds
  simp only [Cond.value]
  rw [f1, Option.bind_some]
  refine (congrArg (fun o : Option Nat => (o.bind (fun c => (U.vm.classes[c]?).map fun (k : Class) => match k.kind with | .array _ ty => decide (ty = FieldType.array .int) && decide (U.vm.findClass ("[" ++ (FieldType.array .int).toString) = some c) | _ => false) == some true)) hi).trans ?_
  simp [hk', hkind, f2]
theorem jov_moved {u U : State} (hW : u.WarmedH U.vm) (h : jov u) : jov U := by
  refine ⟨fun C hC => (h.1 C hC).moved hW.alike, jAO_moved hW.alike h.2.1, fun w hw => ?_⟩
  obtain ⟨a, i, x, h9, rfl⟩ := jm_nest_ok w hw
  exact va_Nw.warmM hW (h.2.2 _ hw)
def jws (y : Nat) : List Cond := Cond.code (jm_nm y) (jm_code y) (jm_maxL y) (jm_ret y) :: jm_gw
theorem jws_good {y : Nat} (hy0 : y ≠ 0) (hy : y < jm_n) : GoodIn jm_gw (jws y) := by
  intro w hw
  have hm : w ∈ jm_gw := by
    rcases List.mem_cons.mp hw with rfl | h
    · exact (jm_y_ok y hy0 hy).1
    · exact h
  exact ⟨hm, good_of_word (List.mem_filter.mp hm).2⟩
def jroom (d mc ms : Nat) : Room := { frames := d, cells := mc, slots := ms, locals := 40 * d }
def jPc (D : va_G) (dA : Nat → ClassId) (b b0 : Nat) (as : List Value) (h : List jC) : Array Value → State → Prop := fun v U => v = (as.map (jv b b0)).toArray ∧ jWd D dA b b0 h U.heap ∧ va_K D vwCl (jtys dA) U ∧ jov U
def jQc (D : va_G) (dA : Nat → ClassId) (b b0 : Nat) (r : Option Value) (h' : List jC) : Array Value → State → Outcome → State → Prop := fun _ st oc t => oc = .returned (r.map (jv b b0)) ∧ jWd D dA b b0 h' t.heap ∧ va_F (fun q => b0 ≤ q) st t
theorem jend_st {mi : Nat} {st : List Value} {i : Instr} {r : Option Value} (h : jend mi st i = some r) : st = r.toList := by
  unfold jend at h
  split at h
  · split at h
    · cases h; rfl
    · cases h
  · cases h; rfl
  · split at h
    · cases h; rfl
    · cases h
  · split at h
    · cases h; rfl
    · cases h
  · cases h; rfl
  · cases h
theorem jend_len {mi : Nat} {st : List Value} {i : Instr} {r : Option Value} (h : jend mi st i = some r) : jlen i = 1 := by
  unfold jend at h
  split at h <;> first | rfl | cases h
/-- what a run of a method's body is to give, from any place in it -/
def jBody (l : Launch) (D : va_G) (dA : Nat → ClassId) (b b0 L : Nat) (xs : Nat → Int32) (d mi pc : Nat) (lv : jL) (st : List Value) (h : List jC) (r : Option Value) (h' : List jC) : Prop :=
  ∀ (p : Program) (e : Env) (R : Room) (s : State) (m : MethodId) (args : Array Value) (below : List Frame) (meth : Method) (c : Code) (H : Heap) (locs : List Loc) (cells slots : Nat) (Q : State → Prop) (ls : Array Slot),
    jcx D dA b b0 L xs p s m args meth c mi → lv_has ls (jm_maxL mi) (jlv b b0 lv) → jWd D dA b b0 h H → va_S (fun q => b0 ≤ q) s.heap H locs → d ≤ R.frames → 40 * d ≤ R.locals → cells + (h'.length - h.length) ≤ R.cells → slots + (jsl h' - jsl h) ≤ R.slots →
    (∀ (pc' : Nat) (ls' : Array Slot) (H' : Heap) (locs' : List Loc) (i' : Instr), decode (jm_code mi) pc' = .ok (i', 1) → jend mi r.toList i' = some r → jWd D dA b b0 h' H' → va_S (fun q => b0 ≤ q) s.heap H' locs' → W p l e R s m args below meth c H' locs' (cells + (h'.length - h.length)) (slots + (jsl h' - jsl h)) Q (F0 m pc' ls' (r.toList.map (jv b b0)))) →
    W p l e R s m args below meth c H locs cells slots Q (F0 m pc ls (st.map (jv b b0)))
theorem jmet {l : Launch} {D : va_G} {dA : Nat → ClassId} {b b0 L : Nat} {xs : Nat → Int32} {d y : Nat} {as : List Value} {h h1 : List jC} {r : Option Value} (hy : y < jm_n) (hy0 : y ≠ 0) (hsl : (lg_sl as).length ≤ jm_maxL y)
    (body : jBody l D dA b b0 L xs d y 0 (lv_args 0 as) [] h r h1) :
    Met l (jm_nm y) (jws y) (jroom d (h1.length - h.length) (jsl h1 - jsl h)) (jPc D dA b b0 as h) (jQc D dA b b0 r h1) (h1.length - h.length) (jsl h1 - jsl h) (fun q => b0 ≤ q) := by
  obtain ⟨y1, y2, y3, y4, y5, y6, y7⟩ := jm_y_ok y hy0 hy
  refine Met.ofW (cc := jm_code y) (maxL := jm_maxL y) (ret := jm_ret y) y3 rfl ?_
  intro p e s m args below meth c s₁ B hml hv
  obtain ⟨rfl, hW, hK, hov⟩ := hv
  have hts := atoms_spec (ws := jws y) B.pre
  have hown : s.vm.findClass (jm_nm y).cls = some m.cls := findClass_of_methodNamed B.named
  have hlocks := B.notSynchronized
  have hnm := (name_of_methodNamed B.named B.method).1
  have hx := B.exec
  have hb := B.bytes
  have hr := B.returns
  rw [y4] at hown
  have cx : jcx D dA b b0 L xs p s m (as.map (jv b b0)).toArray meth c y := ⟨B.exec, B.bytes, hml, hown, fun w hw => hts w (List.mem_cons_of_mem _ hw), hK, hov, fun hi => hnm.trans (y7 hi), fun h => absurd h hy0, by rw [hW.2]; exact Nat.le_add_right _ _⟩
  rw [lg_entry_eq]
  have hl := lv_entry (as.map (jv b b0)) (n := jm_maxL y) (by rw [jsl_lg]; exact hsl)
  rw [jlv_args] at hl
  refine body p e _ s m _ below meth c s.heap [] 0 0 _ _ cx hl hW va_S.rf (Nat.le_refl d) (Nat.le_refl _) (by rw [Nat.zero_add]; exact Nat.le_refl _) (by rw [Nat.zero_add]; exact Nat.le_refl _) ?_
  intro pc' ls' H' locs' i' hd he hW' hS'
  rw [Nat.zero_add, Nat.zero_add]
  have fin : ∀ t : State, t.heap = H' → s.WarmedH t.vm → jQc D dA b b0 r h1 (as.map (jv b b0)).toArray s (.returned (r.map (jv b b0))) t := fun t ht _ => ⟨rfl, by rw [ht]; exact hW', hS'.F ht⟩
  unfold jend at he
  split at he
  · next x ty hrt hst =>
    split at he
    · next hf =>
      cases he
      exact W.zret hx hb (hr.trans hst) (jfit_ok b b0 hf).1 fin hS'.2.2 hd
    · cases he
  · next x hrt hst =>
    cases he
    exact W.lret hx hb (hr.trans hst) fin hS'.2.2 hd
  · next a ty hrt hst =>
    split at he
    · next hf =>
      cases he
      refine W.aret hx hb (hr.trans hst) ?_ (Or.inr ⟨_, rfl⟩) fin hS'.2.2 hd
      cases ty <;> simp_all [jfit]
    · cases he
  · next ty hrt hst =>
    split at he
    · next hf =>
      cases he
      refine W.aret hx hb (hr.trans hst) ?_ (Or.inl rfl) fin hS'.2.2 hd
      cases ty <;> simp_all [jfit]
    · cases he
  · next hrt hst =>
    cases he
    exact W.vret hx hb (hr.trans hst) fin hS'.2.2 hd
  · cases he
end
section
theorem jblind {D : va_G} {dA : Nat → ClassId} {b b0 : Nat} {as : List Value} {h : List jC} : FrameBlind (jPc D dA b b0 as h) := by
  intro a U g mk q
  obtain ⟨q1, q2, q3, q4, q5, q6⟩ := q
  refine ⟨q1, q2, va_K.moved (u := U) (U := U.calling g mk a) (Vm.Alike.refl U.vm) q3, fun C hC => (q4 C hC).moved (u := U) (U := U.calling g mk a) (Vm.Alike.refl U.vm), jAO_moved (u := U) (U := U.calling g mk a) (Vm.Alike.refl U.vm) q5, fun w hw => ?_⟩
  obtain ⟨a9, i9, x9, h9, rfl⟩ := jm_nest_ok w hw
  exact va_Nw.same rfl rfl (q6 _ hw)
section JRUN
variable {p : Program} {l : Launch} {e : Env} {R : Room} {s : State} {m : MethodId} {args : Array Value} {below : List Frame} {meth : Method} {c : Code} {H : Heap} {locs : List Loc} {cells slots : Nat} {Q : State → Prop}
variable {D : va_G} {dA : Nat → ClassId} {b b0 L mi pc len : Nat} {xs : Nat → Int32} {ls : Array Slot} {lv : jL} {st rest : List Value} {h h1 : List jC} {r : Option Value} {mc ms : Nat}
theorem jgo_call {a : Array Value} {st0 rest0 : List Value} (hr : va_Run p l e R s m args below meth c H locs cells slots mc ms (F0 m pc ls st0) rest0 (jQc D dA b b0 r h1 a) (fun q => b0 ≤ q)) (hS : va_S (fun q => b0 ≤ q) s.heap H locs)
    (kk : jKH p l e R s m args below meth c (cells + mc) (slots + ms) Q D dA b b0 h1 (F0 m (pc + 3) ls ((r.map (jv b b0)).toList ++ rest0))) : W p l e R s m args below meth c H locs cells slots Q (F0 m pc ls st0) := by
  intro T hT X
  obtain ⟨v, st₀, t, T', L9, h0, X', hL, e1, e2, ⟨hv, hWd, hz, hk⟩, step⟩ := hr T hT X
  cases hv
  rw [h0] at hz hk
  obtain ⟨t2, a1, b1⟩ := kk T'.heap (locs ++ L9) (by rw [e1]; exact hWd) ⟨Nat.le_trans hS.1 (by rw [e1]; exact hz), fun q q1 q2 => by rw [e1, hk q (Nat.lt_of_lt_of_le q1 hS.1) q2]; exact hS.2.1 q q1 q2, fun q hq => by
      rcases List.mem_append.mp hq with z | z
      · exact hS.2.2 q z
      · exact hL q z⟩ T' rfl X'
  exact ⟨t2, step t2 a1, b1⟩
set_option maxHeartbeats 1000000 in
theorem jcall_ok (cx : jcx D dA b b0 L xs p s m args meth c mi) (hl : ls.size = jm_maxL mi) (hW : jWd D dA b b0 h H) (hS : va_S (fun q => b0 ≤ q) s.heap H locs) {i : Instr} (hlen : jlen i = 0 ∨ len = jlen i) (hd : decode (jm_code mi) pc = .ok (i, len)) {y d : Nat} {as : List Value} (hc : jcall (jm_own mi) st h i = some (y, as, rest)) (hy0 : y ≠ 0) (hy : y < jm_n)
    (hM : Met l (jm_nm y) (jws y) (jroom d mc ms) (jPc D dA b b0 as h) (jQc D dA b b0 r h1) mc ms (fun q => b0 ≤ q)) (hfr : d + 1 ≤ R.frames) (hlo : 40 * (d + 1) ≤ R.locals) (hcm : cells + mc ≤ R.cells) (hsm : slots + ms ≤ R.slots)
    (kk : jKH p l e R s m args below meth c (cells + mc) (slots + ms) Q D dA b b0 h1 (F0 m (pc + 3) ls ((r.toList ++ rest).map (jv b b0)))) : W p l e R s m args below meth c H locs cells slots Q (F0 m pc ls (st.map (jv b b0))) := by
  obtain ⟨hx, hb, hml, hown, hts, hK, hov, hin, hX, hbs⟩ := cx
  obtain ⟨y1, y2, y3, y4, y5, y6, y7⟩ := jm_y_ok y hy0 hy
  have hRo : (jroom d mc ms).frames + 1 ≤ R.frames ∧ 8 + (jm_maxL y + 11) + (jroom d mc ms).locals ≤ R.locals := ⟨hfr, by show 8 + (jm_maxL y + 11) + 40 * d ≤ _; omega⟩
  have kk2 : jKH p l e R s m args below meth c (cells + mc) (slots + ms) Q D dA b b0 h1 (F0 m (pc + 3) ls ((r.map (jv b b0)).toList ++ rest.map (jv b b0))) := by
    have e9 : (r.toList ++ rest).map (jv b b0) = (r.map (jv b b0)).toList ++ rest.map (jv b b0) := by cases r <;> simp
    rw [← e9]; exact kk
  have hcat : ∀ v : List Value, (v.map fun v => v.category).sum ≤ 8 → 2 * (F0 m pc ls (st.map (jv b b0))).monitorRoom + ((v.map (jv b b0)).map fun v => v.category).sum ≤ 8 := fun v hv => by
    show 2 * 0 + _ ≤ 8
    rw [List.map_map]
    have : ((fun v => Value.category v) ∘ jv b b0) = fun v => v.category := funext fun v => jv_cat b b0 v
    rw [this]
    omega
  have hPc : ∀ U : State, U.heap = H → s.WarmedH U.vm → jPc D dA b b0 as h (as.map (jv b b0)).toArray U := fun U hU hWm => ⟨rfl, by rw [hU]; exact hW, va_K.moved hWm.alike hK, jov_moved hWm hov⟩
  cases i with
  | invokevirtual idx =>
    simp only [jcall] at hc
    split at hc
    · next kd y' n hm =>
      split at hc
      · next hkd =>
        split at hc
        · next a rest' hdr =>
          split at hc
          · next ci fs ha =>
            split at hc
            · next hcc =>
              cases hc
              obtain ⟨m1, m2, m3, m4, m5, m6⟩ := jm_mth_ok _ _ _ _ _ hm
              obtain ⟨k1, k2, k3⟩ := m4 hkd.1
              have hst : st = st.take n ++ (.ref a :: rest) := by rw [← hdr, List.take_append_drop]
              have hstack : st.map (jv b b0) = ((st.take n).reverse.map (jv b b0)).reverse ++ .ref (b0 + a) :: rest.map (jv b b0) := by
                conv => lhs; rw [hst]
                rw [List.map_append, List.map_reverse, List.reverse_reverse]
                rfl
              have hnl : ((st.take n).reverse.map (jv b b0)).length = n := by
                rw [List.length_map, List.length_reverse, List.length_take]; omega
              obtain ⟨q9, hq9, hq8⟩ : ∃ q9, vwCl[ci]? = some q9 ∧ q9.1 = (jm_nm y).cls := by
                rw [hcc.1] at k3
                cases hv9 : vwCl[ci]? with
                | none => rw [hv9] at k3; cases k3
                | some q9 => rw [hv9] at k3; exact ⟨q9, rfl, Option.some.inj k3⟩
              have hrec := va_recv hK hW.1 hq9 (jw_get ha)
              rw [hq8] at hrec
              rcases hkd.1 with rfl | rfl
              · exact jgo_call (va_runV (As := (st.take n).reverse.map (jv b b0)) (rest := rest.map (jv b b0)) (g := F0 m pc ls (st.map (jv b b0))) (Ts := jm_gw) (C := (jm_nm y).cls) ⟨hx, hb, hml, hown, hts⟩ hM ⟨callB_of n hts (jws_good hy0 hy) rfl rfl rfl (hts _ y2) (hts _ (m2 (Or.inl rfl))) ⟨y5.1, y5.2, m1⟩ hRo, hts _ k1, hts _ k2⟩ ⟨jblind, hrec, hPc⟩ rfl hnl hl hstack (hcat _ hcc.2) (jq_len rfl (by decide) hlen hd) ⟨hcm, hsm⟩) hS kk2
              · exact jgo_call (va_runVN (As := (st.take n).reverse.map (jv b b0)) (rest := rest.map (jv b b0)) (g := F0 m pc ls (st.map (jv b b0))) (Ts := jm_gw) (C := (jm_nm y).cls) ⟨hx, hb, hml, hown, hts⟩ hM ⟨va_cnB n hts (jws_good hy0 hy) rfl rfl rfl (hov.2.2 _ (m3 (Or.inl rfl))) (hts _ y2) ⟨y5.1, y5.2, m1⟩ hRo, hts _ k1, hts _ k2⟩ ⟨jblind, hrec, hPc⟩ rfl hnl hl hstack (hcat _ hcc.2) (jq_len rfl (by decide) hlen hd) ⟨hcm, hsm⟩) hS kk2
            · cases hc
          · cases hc
        · cases hc
      · cases hc
    · cases hc
  | invokespecial idx =>
    simp only [jcall] at hc
    split at hc
    · next kd y' n hm =>
      split at hc
      · next hkd =>
        split at hc
        · next a rest' hdr =>
          split at hc
          · next hcc =>
            cases hc
            obtain ⟨m1, m2, m3, m4, m5, m6⟩ := jm_mth_ok _ _ _ _ _ hm
            obtain ⟨k1, k2, k3⟩ := m5 hkd.1
            have hst : st = st.take n ++ (.ref a :: rest) := by rw [← hdr, List.take_append_drop]
            have hstack : st.map (jv b b0) = ((st.take n).reverse.map (jv b b0)).reverse ++ .ref (b0 + a) :: rest.map (jv b b0) := by
              conv => lhs; rw [hst]
              rw [List.map_append, List.map_reverse, List.reverse_reverse]
              rfl
            have hnl : ((st.take n).reverse.map (jv b b0)).length = n := by
              rw [List.length_map, List.length_reverse, List.length_take]; omega
            have hwq : jws y = Cond.code (jm_nm y) (jm_code y) (jm_maxL y) none :: jm_gw := by unfold jws; rw [k3]
            rcases hkd.1 with rfl | rfl
            · exact jgo_call (va_runI (As := (st.take n).reverse.map (jv b b0)) (rest := rest.map (jv b b0)) (g := F0 m pc ls (st.map (jv b b0))) (Ts := jm_gw) ⟨hx, hb, hml, hown, hts⟩ hM ⟨callB_of n hts (jws_good hy0 hy) hwq rfl rfl (hts _ y2) (hts _ (m2 (Or.inr (Or.inl rfl)))) ⟨y5.1, y5.2, m1⟩ hRo, k2, hts _ k1⟩ ⟨jblind, hPc⟩ rfl hnl hl hstack (hcat _ hcc) (jq_len rfl (by decide) hlen hd) ⟨hcm, hsm⟩) hS kk2
            · exact jgo_call (va_runIN (As := (st.take n).reverse.map (jv b b0)) (rest := rest.map (jv b b0)) (g := F0 m pc ls (st.map (jv b b0))) (Ts := jm_gw) ⟨hx, hb, hml, hown, hts⟩ hM ⟨va_cnB n hts (jws_good hy0 hy) hwq rfl rfl (hov.2.2 _ (m3 (Or.inr (Or.inl rfl)))) (hts _ y2) ⟨y5.1, y5.2, m1⟩ hRo, k2, hts _ k1⟩ ⟨jblind, hPc⟩ rfl hnl hl hstack (hcat _ hcc) (jq_len rfl (by decide) hlen hd) ⟨hcm, hsm⟩) hS kk2
          · cases hc
        · cases hc
      · cases hc
    · cases hc
  | invokestatic idx =>
    simp only [jcall] at hc
    split at hc
    · next kd y' n hm =>
      split at hc
      · next hkd =>
        cases hc
        obtain ⟨m1, m2, m3, m4, m5, m6⟩ := jm_mth_ok _ _ _ _ _ hm
        have k1 := m6 hkd.1
        have hstack : st.map (jv b b0) = ((st.take n).reverse.map (jv b b0)).reverse ++ (st.drop n).map (jv b b0) := by
          conv => lhs; rw [← List.take_append_drop n st]
          rw [List.map_append, List.map_reverse, List.reverse_reverse]
        have hnl : ((st.take n).reverse.map (jv b b0)).length = n := by
          rw [List.length_map, List.length_reverse, List.length_take]; omega
        rcases hkd.1 with rfl | rfl
        · exact jgo_call (va_runS (As := (st.take n).reverse.map (jv b b0)) (rest := (st.drop n).map (jv b b0)) (g := F0 m pc ls (st.map (jv b b0))) (Ts := jm_gw) ⟨hx, hb, hml, hown, hts⟩ hM ⟨callB_of n hts (jws_good hy0 hy) rfl rfl rfl (hts _ y2) (hts _ (m2 (Or.inr (Or.inr rfl)))) ⟨y5.1, y5.2, m1⟩ hRo, hts _ k1⟩ ⟨jblind, hPc⟩ rfl hnl hl hstack (hcat _ hkd.2.2) (jq_len rfl (by decide) hlen hd) ⟨hcm, hsm⟩) hS kk2
        · exact jgo_call (va_runSN (As := (st.take n).reverse.map (jv b b0)) (rest := (st.drop n).map (jv b b0)) (g := F0 m pc ls (st.map (jv b b0))) (Ts := jm_gw) ⟨hx, hb, hml, hown, hts⟩ hM ⟨va_cnB n hts (jws_good hy0 hy) rfl rfl rfl (hov.2.2 _ (m3 (Or.inr (Or.inr rfl)))) (hts _ y2) ⟨y5.1, y5.2, m1⟩ hRo, hts _ k1, trivial⟩ ⟨jblind, hPc⟩ rfl hnl hl hstack (hcat _ hkd.2.2) (jq_len rfl (by decide) hlen hd) ⟨hcm, hsm⟩) hS kk2
      · cases hc
    · cases hc
  | _ => cases hc
end JRUN
end
section
theorem jm_same {h : List jC} : h.length ≤ h.length ∧ jsl h ≤ jsl h := ⟨Nat.le_refl _, Nat.le_refl _⟩
theorem jm_set {h : List jC} {a : Nat} {c0 c9 : jC} (ha : h[a]? = some c0) (hz : jsz c9 = jsz c0) : h.length ≤ (h.set a c9).length ∧ jsl h ≤ jsl (h.set a c9) := by
  rw [List.length_set, jsl_set h a c0 c9 ha hz]
  exact jm_same
theorem jm_app {h g : List jC} : h.length ≤ (h ++ g).length ∧ jsl h ≤ jsl (h ++ g) := by
  rw [List.length_append, jsl_app]
  exact ⟨Nat.le_add_right _ _, Nat.le_add_right _ _⟩
set_option maxHeartbeats 4000000 in
theorem jH_mono {L : Nat} {xs : Nat → Int32} {il ini : Bool} {k pc : Nat} {lv : jL} {st : List Value} {h : List jC} {i : Instr} {r : Nat × jL × List Value × List jC} (hs : jH L xs il ini k pc lv st h i = some r) : r.2.1 = lv ∧ h.length ≤ r.2.2.2.length ∧ jsl h ≤ jsl r.2.2.2 := by
  cases i with
  | getfield idx =>
    simp only [jH] at hs
    split at hs
    · split at hs
      · next ci f ci' fs hf ha =>
        split at hs
        · cases hv : fs[f]? with
          | none => rw [hv] at hs; cases hs
          | some v => rw [hv] at hs; cases hs; exact ⟨rfl, jm_same⟩
        · cases hs
      · cases hs
    · cases hs
  | putfield idx =>
    simp only [jH] at hs
    split at hs
    · split at hs
      · next ci f ci' fs hf ha =>
        split at hs
        · next he =>
          cases hs
          exact ⟨rfl, jm_set ha (by simp [jsz])⟩
        · cases hs
      · cases hs
    · cases hs
  | iaload =>
    simp only [jH] at hs
    split at hs
    · split at hs
      · split at hs
        · cases hs; exact ⟨rfl, jm_same⟩
        · cases hs
      · cases hs
    · split at hs
      · cases hs; exact ⟨rfl, jm_same⟩
      · cases hs
    · cases hs
  | baload =>
    simp only [jH] at hs
    split at hs
    · split at hs
      · split at hs
        · cases hs; exact ⟨rfl, jm_same⟩
        · cases hs
      · cases hs
    · cases hs
  | aaload =>
    simp only [jH] at hs
    split at hs
    · split at hs
      · split at hs
        · cases hs; exact ⟨rfl, jm_same⟩
        · cases hs
      · cases hs
    · cases hs
  | arraylength =>
    simp only [jH] at hs
    split at hs
    · split at hs
      · split at hs
        · cases hs; exact ⟨rfl, jm_same⟩
        · cases hs
      · cases hs
    · split at hs
      · cases hs; exact ⟨rfl, jm_same⟩
      · cases hs
    · cases hs
  | iastore =>
    simp only [jH] at hs
    split at hs
    · split at hs
      · next ha =>
        split at hs
        · cases hs; exact ⟨rfl, jm_set ha rfl⟩
        · cases hs
      · cases hs
    · cases hs
  | bastore =>
    simp only [jH] at hs
    split at hs
    · split at hs
      · next ha =>
        split at hs
        · cases hs; exact ⟨rfl, jm_set ha rfl⟩
        · cases hs
      · cases hs
    · cases hs
  | aastore =>
    simp only [jH] at hs
    split at hs
    · split at hs
      · next ha hv =>
        split at hs
        · cases hs; exact ⟨rfl, jm_set ha rfl⟩
        · cases hs
      · cases hs
    · cases hs
  | new idx =>
    simp only [jH] at hs
    split at hs
    · cases hs; exact ⟨rfl, jm_app⟩
    · cases hs
  | newarray ty =>
    simp only [jH] at hs
    split at hs
    · split at hs
      · split at hs
        · cases hs; exact ⟨rfl, jm_app⟩
        · cases hs; exact ⟨rfl, jm_app⟩
        · cases hs
      · cases hs
    · cases hs
  | anewarray idx =>
    simp only [jH] at hs
    split at hs
    · split at hs
      · cases hs; exact ⟨rfl, jm_app⟩
      · cases hs
    · cases hs
  | multianewarray idx dm =>
    by_cases hdm : dm = 2
    · subst hdm
      simp only [jH] at hs
      split at hs
      · split at hs
        · cases hs
          exact ⟨rfl, Nat.le_trans jm_app.1 jm_app.1, Nat.le_trans jm_app.2 jm_app.2⟩
        · cases hs
      · cases hs
    · have : jH L xs il ini k pc lv st h (.multianewarray idx dm) = none := by
        unfold jH
        split <;> simp_all
      rw [this] at hs
      cases hs
  | invokestatic idx =>
    simp only [jH] at hs
    split at hs
    · split at hs
      · split at hs
        · cases hs; exact ⟨rfl, jm_same⟩
        · cases hs
      · cases hs
    · split at hs
      · split at hs
        · next ho ha0 ha =>
          split at hs
          · cases hs; exact ⟨rfl, jm_set ha rfl⟩
          · cases hs
        · cases hs
      · cases hs
  | invokespecial idx =>
    simp only [jH] at hs
    split at hs
    · split at hs
      · cases hs; exact ⟨rfl, jm_same⟩
      · cases hs
    · cases hs
  | _ => cases hs
set_option maxHeartbeats 4000000 in
/-- THE INTERPRETER IS SOUND: what it answers the machine answers -/
theorem jrun_ok (l : Launch) (hmna : jMna l) (D : va_G) (dA : Nat → ClassId) (b b0 L : Nat) (xs : Nat → Int32) : ∀ (n d mi pc : Nat) (lv : jL) (st : List Value) (h : List jC) (r : Option Value) (h' : List jC), jrun L xs n d mi pc lv st h = some (r, h') →
    (h.length ≤ h'.length ∧ jsl h ≤ jsl h') ∧ jBody l D dA b b0 L xs d mi pc lv st h r h' := by
  intro n
  induction n with
  | zero => intro d mi pc lv st h r h' hs; cases hs
  | succ n ih =>
    intro d mi pc lv st h r h' hs
    unfold jrun at hs
    split at hs
    · cases hs
    · next i len hi =>
      have hd := jm_ins_ok _ _ _ _ hi
      split at hs
      · next hlen =>
        split at hs
        · next r0 he =>
          cases hs
          refine ⟨jm_same, ?_⟩
          intro p e R s m args below meth c H locs cells slots Q ls cx hl hW hS hfr hlo hc hsl kret
          have h1 := jend_st he
          subst h1
          have := kret pc ls H locs i (jq_len (jend_len he) (by decide) hlen hd) he hW hS
          simpa using this
        · next hne =>
          split at hs
          · next y as rest d' hcl =>
            split at hs
            · next hy =>
              split at hs
              · next r1 h1 hr1 =>
                obtain ⟨m1, b1⟩ := ih d' y 0 (lv_args 0 as) [] h r1 h1 hr1
                obtain ⟨m2, b2⟩ := ih (d' + 1) mi (pc + 3) lv (r1.toList ++ rest) h1 r h' hs
                refine ⟨⟨Nat.le_trans m1.1 m2.1, Nat.le_trans m1.2 m2.2⟩, ?_⟩
                intro p e R s m args below meth c H locs cells slots Q ls cx hl hW hS hfr hlo hc hsl kret
                have hM := jmet hy.2.1 hy.1 hy.2.2 b1
                refine jcall_ok cx hl.1 hW hS hlen hd hcl hy.1 hy.2.1 hM hfr hlo (by omega) (by omega) ?_
                intro H1 locs1 hW1 hS1
                refine b2 p e R s m args below meth c H1 locs1 _ _ Q ls cx hl hW1 hS1 hfr hlo (by omega) (by omega) ?_
                intro pc' ls' H' locs' i' q1 q2 q3 q4
                have := kret pc' ls' H' locs' i' q1 q2 q3 q4
                rw [show cells + (h1.length - h.length) + (h'.length - h1.length) = cells + (h'.length - h.length) by omega, show slots + (jsl h1 - jsl h) + (jsl h' - jsl h1) = slots + (jsl h' - jsl h) by omega]
                exact this
              · cases hs
            · cases hs
          · cases hs
          · next hcl =>
            split at hs
            · next pc1 lv1 st1 h1 hst =>
              obtain ⟨m2, b2⟩ := ih _ mi pc1 lv1 st1 h1 r h' hs
              unfold jstep at hst
              split at hst
              · next pc2 lv2 st2 hA =>
                cases hst
                refine ⟨m2, ?_⟩
                intro p e R s m args below meth c H locs cells slots Q ls cx hl hW hS hfr hlo hc hsl kret
                refine ja_ok cx.1 cx.2.1 cx.2.2.2.1 (fun idx v hv => cx.2.2.2.2.1 _ (jm_lng_ok _ _ _ hv)) hlen hd hA hl ?_
                intro ls' hl'
                exact b2 p e R s m args below meth c H locs cells slots Q ls' cx hl' hW hS hfr hlo hc hsl kret
              · next hA =>
                split at hst
                · cases hst
                · next hd0 =>
                  obtain ⟨e1, g1, g2⟩ := jH_mono hst
                  dsimp only at e1 g1 g2
                  subst e1
                  refine ⟨⟨Nat.le_trans g1 m2.1, Nat.le_trans g2 m2.2⟩, ?_⟩
                  intro p e R s m args below meth c H locs cells slots Q ls cx hl hW hS hfr hlo hc hsl kret
                  have m21 := m2.1
                  have m22 := m2.2
                  refine jh_ok hmna cx hW hS hl.1 (by omega) (by omega) hlen hd hst (by dsimp only; omega) (by dsimp only; omega) ?_
                  intro H1 locs1 hW1 hS1
                  dsimp only at hW1 ⊢
                  refine b2 p e R s m args below meth c H1 locs1 _ _ Q ls cx hl hW1 hS1 hfr hlo (by omega) (by omega) ?_
                  intro pc' ls' H' locs' i' q1 q2 q3 q4
                  have := kret pc' ls' H' locs' i' q1 q2 q3 q4
                  rw [show cells + (h1.length - h.length) + (h'.length - h1.length) = cells + (h'.length - h.length) by omega, show slots + (jsl h1 - jsl h) + (jsl h' - jsl h1) = slots + (jsl h' - jsl h) by omega]
                  exact this
            · cases hs
      · cases hs
end
section
/-! THE CLAIM OUT OF ONE WALK OF THE LAW'S BODY. Your part is whole_start (and what it stands on); all else here is the same for every law, but numbers. -/
def R_law : String := "SealProbeLaw"
def lw_P (b : Addr) (xs : List Int32) (args : Array Value) (s : State) : Prop := args = #[.ref b] ∧ s.IntsAt b xs ∧ xs.length ≤ 2560 ∧ (Jvm.Cond.and given_1 narrow_1).before args s = true
def lw_Q (_ : Array Value) (s : State) (o : Outcome) (t : State) : Prop := o = .returned (some (.int 1)) ∧ Framed s o t [] 600000 7302250
def lw_Z (below : List Frame) (a : Array Value) (s : State) : State → Prop := fun t => ∃ o, t.status = .running ∧ Ended t below o ∧ lw_Q a s o t
/-- the law's own end, with 1 on the stack, nothing written that was there before, its room as the claim has it -/
theorem lw_ret {p : Program} {l : Launch} {e : Env} {s : State} {m : MethodId} {below : List Frame} {meth : Method} {c : Code} {b : Nat} (hx : p.tables.exec = Jvm.exec) (hb : c.code = code) (hr : meth.sig.returnType = ret) (hlocks : meth.locks = false) {pc : Nat} {H : Heap} {ls : Array Slot} (hdg : decode code pc = .ok (.ireturn, 1)) : W p l e room_1 s m #[Value.ref b] below meth c H [] 600000 7302250 (lw_Z below #[Value.ref b] s) (F0 m pc ls [.int 1]) := by
  intro T hT X
  obtain ⟨fs, hret, hrun, hended, hW, hframe⟩ := X.leave (v := some (.int 1)) (hlocks := hlocks) (fun h => by rw [hr] at h; cases h)
  have hmeth' : T.vm.method? m = some meth := X.method'
  refine ⟨T.setFrames fs, ?_, .returned (some (.int 1)), hrun, hended, rfl, ⟨_, rfl⟩, hW, hframe⟩
  jvm_step X.here [X.here.top, hx, hb, hdg, hmeth', hr, ret, narrow_b1]
  (try refine ⟨rfl, ?_⟩); (try refine ⟨rfl, ?_⟩)
  first | (intro acts; rw [hret _ acts rfl rfl rfl]) | rw [hret _ _ rfl rfl rfl]
  exact Steps.refl _
/-- what holds at the law's entry: the machine, the code, the tables' words (any of lw_tbl by 'hts w (by decide +kernel)'), the script of L ints xs at the cell b, what the Statement gives of the start (any of its parts by flat_of_before) -/
def lw_At (p : Program) (s : State) (m : MethodId) (meth : Method) (c : Code) (b L : Nat) (xs : Nat → Int32) : Prop :=
  p.tables.exec = Jvm.exec ∧ c.code = code ∧ meth.sig.returnType = ret ∧ c.maxLocals = 4 ∧ s.vm.findClass R_law = some m.cls ∧ (∀ w ∈ lw_tbl, w.before #[Value.ref b] s = true) ∧ va_X b L xs s s.heap ∧ b < s.heap.size ∧ meth.locks = false ∧ (Jvm.Cond.and given_1 narrow_1).before #[Value.ref b] s = true
end
section
theorem jst_arr {s : State} {args : Array Value} {ty : FieldType} (h : (Cond.arrayClass ty).before args s = true) : ∃ cA : ClassId, ArrOfT s cA ty ∧ s.vm.findClass ("[" ++ ty.toString) = some cA := by
  obtain ⟨cA, kA, comp, h1, h2, h3⟩ := Cond.arrayClass_spec h
  exact ⟨cA, fun n z => ⟨fun k h => (by cases h), kA, h2, comp, h3⟩, h1⟩
theorem jst_ao {s : State} {C : String} (h : va_AO C s) : ∃ cA : ClassId, ArrOfT s cA (.object C) ∧ va_RA s cA (.object C) := by
  obtain ⟨comp, c, k, h1, h2, h3, h4, h5⟩ := Cond.arrayOver_spec h
  exact ⟨c, fun n z => ⟨fun k h => (by cases h), k, h3, comp, h4⟩, k, comp, h3, h4, h1, h5⟩
theorem jst_aoA {s : State} (h : (Cond.arrayOver (.array .int)).before #[] s = true) : ∃ cA : ClassId, ArrOfT s cA (.array .int) ∧ s.vm.findClass ("[" ++ (FieldType.array .int).toString) = some cA := by
  obtain ⟨comp, c, k, h1, h2, h3, h4, h5⟩ := arrayOverA_spec h
  exact ⟨c, fun n z => ⟨fun k h => (by cases h), k, h3, comp, h4⟩, h5⟩
theorem jst_K {s : State} {args : Array Value} (hts : ∀ w ∈ jm_gw, w.before args s = true) (hov : jov s) : ∃ (D : va_G) (dA : Nat → ClassId), va_K D vwCl (jtys dA) s := by
  have hc : ∀ ci : Nat, ∃ (cC : ClassId) (iS : Nat → Nat), ∀ q : vw_C, vwCl[ci]? = some q → u_Kn s q.1 q.2.1 q.2.2 cC iS := by
    intro ci
    cases hq : vwCl[ci]? with
    | none => exact ⟨0, fun _ => 0, fun q h => by cases h⟩
    | some q =>
      obtain ⟨C, T, N⟩ := q
      obtain ⟨k1, k2, k3, k4, -⟩ := jm_cl_ok ci C T N hq
      obtain ⟨cC, iS, hK⟩ := u_known (n := N) hts k1 (hts _ k4)
      exact ⟨cC, iS, fun q h => by cases h; exact hK⟩
  have ha : ∀ t : Nat, ∃ cA : ClassId, t < jm_nat → ArrOfT s cA (jm_aty t) ∧ va_RA s cA (jm_aty t) := by
    intro t
    by_cases ht : t < jm_nat
    · by_cases h0 : t = 0
      · subst h0
        obtain ⟨cA, g1, g2⟩ := jst_arr (hts _ jm_ar.1)
        exact ⟨cA, fun _ => ⟨g1, g2⟩⟩
      · by_cases h1 : t = 1
        · subst h1
          obtain ⟨cA, g1, g2⟩ := jst_arr (hts _ jm_ar.2)
          exact ⟨cA, fun _ => ⟨g1, g2⟩⟩
        · rcases jm_atyk t (by omega) ht with ⟨C, hC, he⟩ | he
          · obtain ⟨cA, g1, g2⟩ := jst_ao (hov.1 C hC)
            exact ⟨cA, fun _ => by rw [he]; exact ⟨g1, g2⟩⟩
          · obtain ⟨cA, g1, g2⟩ := jst_aoA hov.2.1
            exact ⟨cA, fun _ => by rw [he]; exact ⟨g1, g2⟩⟩
    · exact ⟨0, fun h => absurd h ht⟩
  obtain ⟨dC, hdC⟩ := Classical.axiomOfChoice hc
  obtain ⟨dI, hdI⟩ := Classical.axiomOfChoice hdC
  obtain ⟨dA, hdA⟩ := Classical.axiomOfChoice ha
  refine ⟨(dC, dI), dA, fun ci q hq => hdI ci q hq, fun k q hk => ?_⟩
  unfold jtys at hk
  rw [List.getElem?_map] at hk
  by_cases hk2 : k < jm_nat
  · rw [List.getElem?_range hk2] at hk
    cases hk
    exact hdA k hk2
  · rw [List.getElem?_eq_none (by rw [List.length_range]; omega)] at hk
    cases hk
theorem jst_ov {s : State} {args : Array Value} (hts : ∀ w ∈ lw_tbl, w.before args s = true) : jov s := by
  refine ⟨fun C hC => va_AO.of (hts _ (jm_over_ok C hC)), hts _ jm_overA, fun w hw => ?_⟩
  have h1 := hts _ (jm_nest_in w hw)
  obtain ⟨a, i, x, h, rfl⟩ := jm_nest_ok w hw
  exact va_Nw.of rfl h1
/-- what is left of the claim: the interpreter answers 1 on every script -/
def jAns (N : Nat) : Prop := ∀ (L : Nat) (xs : Nat → Int32), L ≤ N → ∃ (n d : Nat) (h' : List jC), jrun L xs n d 0 0 [(0, .retAddr 0)] [] [] = some (some (.int 1), h') ∧ d ≤ 2048 ∧ h'.length ≤ 600000 ∧ jsl h' ≤ 7302250
theorem jstart {p : Program} {e : Env} {s : State} {m : MethodId} {below : List Frame} {meth : Method} {c : Code} (l : Launch) (hmna : jMna l) {b L : Nat} {xs : Nat → Int32} (hrun : ∃ (n d : Nat) (h' : List jC), jrun L xs n d 0 0 [(0, .retAddr 0)] [] [] = some (some (.int 1), h') ∧ d ≤ 2048 ∧ h'.length ≤ 600000 ∧ jsl h' ≤ 7302250) (C0 : lw_At p s m meth c b L xs) : W p l e room_1 s m #[Value.ref b] below meth c s.heap [] 0 0 (lw_Z below #[Value.ref b] s) (entryFrame m ([Value.ref b] : List Value).toArray 4) := by
  obtain ⟨hx, hb, hr, hml, hown, hts, hX, hbl, hlocks, hgv⟩ := C0
  obtain ⟨n, d, h', hj, hd, hc1, hc2⟩ := hrun
  have hgw : ∀ w ∈ jm_gw, w.before #[Value.ref b] s = true := fun w hw => hts w (List.mem_filter.mp hw).1
  have hov := jst_ov hts
  obtain ⟨D, dA, hK⟩ := jst_K hgw hov
  have cx : jcx D dA b s.heap.size L xs p s m #[Value.ref b] meth c 0 := ⟨hx, hb, hml, hown, hgw, hK, hov, fun h => (by cases h), fun _ => ⟨hX, hbl, hbl⟩, Nat.le_refl _⟩
  have hl := lv_entry ([.ref b]) (n := 4) (Nat.le_of_ble_eq_true rfl)
  rw [lg_entry_eq]
  refine (jrun_ok l hmna D dA b s.heap.size L xs n d 0 0 _ _ _ _ _ hj).2 p e room_1 s m _ below meth c s.heap [] 0 0 _ _ cx hl ⟨fun k q h => by simp [jw] at h, by simp⟩ va_S.rf hd (by show 40 * d ≤ 84000; omega) (by show 0 + (h'.length - 0) ≤ 600000; omega) (by show 0 + (jsl h' - 0) ≤ 7302250; omega) ?_
  intro pc' ls' H' locs' i' hdd he hW hS
  refine va_forget (fun q hq => hS.2.2 q hq) ?_
  refine W.widen (k := 600000) (n := 7302250) (by show 0 + (h'.length - 0) ≤ 600000; omega) (by show 0 + (jsl h' - 0) ≤ 7302250; omega) ?_
  have hi : i' = .ireturn := by
    unfold jend at he
    split at he
    · rfl
    · next h9 _ => simp at h9
    · next h9 _ => simp at h9
    · next h9 _ => simp at h9
    · next h9 _ => simp at h9
    · cases he
  subst hi
  exact lw_ret hx hb hr hlocks hdd
end
section
theorem jmna_outer (c : ClassId) (N h0 : Nat) : ∀ i : Nat, Jvm.Free.Multi.outerC c N h0 i = arrV c N (fun j => va_rf (if j < i then some (h0 + 1 + j) else none))
  | 0 => by
    show ({ cls := c, slots := Array.replicate N .null, vm := .none } : Cell) = _
    rw [arrV_new]
    exact congrArg (arrV c N) (funext fun j => by simp [va_rf])
  | i + 1 => by
    show (Jvm.Free.Multi.outerC c N h0 i).setSlot i (.ref (h0 + 1 + i)) = _
    rw [jmna_outer c N h0 i, arrV_store]
    refine congrArg (arrV c N) (funext fun j => ?_)
    by_cases e : j = i
    · subst e
      simp [updV, va_rf]
    · have : (j < i + 1) = (j < i) := propext ⟨fun h => by omega, fun h => by omega⟩
      simp [updV, e, this]
theorem jmna (l : Launch) : jMna l := by
  intro p e R s m args below meth c H locs cells slots Q D dA b b0 L mi pc xs ls rest h idx t n w cx hW hS hq hn hw hn2 hw2 hd hcells hslots kk
  obtain ⟨hx, hb, hml, hown, hts, hK, hov, hin, hX, hbs⟩ := cx
  obtain ⟨t2, ht, hty, hlk, har⟩ := jm_mna_ok _ _ _ hq
  intro T hT X
  obtain ⟨vm₁, cA, comp, -, fA, fC, hO, -, X', step⟩ := X.multianewarray2F hx (ty := .int) hown (hts _ hlk) hov.2.1 (hts _ har) (g := F0 m pc ls (.int w :: .int n :: rest)) rfl (by rw [hb]; exact hd) rfl hn hw (by omega) (by show w.toNatClampNeg * 4 ≤ _; omega) (by omega) rfl rfl hcells hslots
  have hTh : (T.setVm vm₁).heap = H := hT
  have hK1 := (hK.2 t.1 _ (jtys_get ht)).2
  rw [hty] at hK1
  have hcA : cA = dA t.1 := Option.some.inj (fA.symm.trans hK1)
  have hK0 := (hK.2 0 _ (jtys_get (dA := dA) (t := 0) (Nat.lt_of_lt_of_le (by decide) jm_nat2))).2
  have hcy : comp = dA 0 := Option.some.inj (fC.symm.trans hK0)
  subst hcA
  subst hcy
  generalize hF : Jvm.Free.Multi.fill (T.setVm vm₁) (dA t.1) (dA 0) n.toNatClampNeg w.toNatClampNeg (defaultValue .int) n.toNatClampNeg = F at X' step
  obtain ⟨f1, f2, -, -⟩ := Jvm.Free.Multi.fill_facts (T.setVm vm₁) (dA t.1) (dA 0) n.toNatClampNeg w.toNatClampNeg (defaultValue .int) n.toNatClampNeg
  rw [hF, hTh] at f1 f2
  have hold : ∀ x : Nat, x < H.size → F.heap[x]? = H[x]? := fun x hx9 => by
    have := Jvm.Free.Multi.fill_old (T.setVm vm₁) (dA t.1) (dA 0) n.toNatClampNeg w.toNatClampNeg (defaultValue .int) (a := x) (by rw [hTh]; exact hx9) n.toNatClampNeg
    rw [hF, hTh] at this
    exact this
  have hrow : ∀ j : Nat, j < n.toNatClampNeg → F.heap[H.size + 1 + j]? = some (arrV (dA 0) w.toNatClampNeg (fun _ => .int 0)) := fun j hj => by
    have := Jvm.Free.Multi.fill_inner (T.setVm vm₁) (dA t.1) (dA 0) n.toNatClampNeg w.toNatClampNeg (defaultValue .int) n.toNatClampNeg j hj
    rw [hF, hTh] at this
    rw [this]
    show some ({ cls := dA 0, slots := Array.replicate w.toNatClampNeg (.int 0), vm := .none } : Cell) = _
    rw [arrV_new]
  rw [jmna_outer] at f2
  have hsz := hW.2
  have hWd : jWd D dA b b0 ((h ++ [.inl (t.1, n.toNatClampNeg, .inr (.inr (.inr (.inr (fun i => if i < n.toNatClampNeg then some (h.length + 1 + i) else none)))))]) ++ List.replicate n.toNatClampNeg (.inl (0, w.toNatClampNeg, .inl (fun _ => 0)))) F.heap := by
    refine ⟨fun k q hk => ?_, by rw [f1, hsz, List.length_append, List.length_append, List.length_replicate]; simp only [List.length_cons, List.length_nil]; omega⟩
    obtain ⟨c', hc', rfl⟩ := jw_inv hk
    by_cases h1 : k < h.length
    · rw [List.getElem?_append_left (by rw [List.length_append]; omega), List.getElem?_append_left h1] at hc'
      exact (hW.at hc').kept (hold _ (by show b0 + k < H.size; omega))
    · by_cases h2 : k = h.length
      · subst h2
        rw [List.getElem?_append_left (by rw [List.length_append]; simp), List.getElem?_append_right (Nat.le_refl _), Nat.sub_self] at hc'
        cases hc'
        show F.heap[b0 + h.length]? = some (arrV (dA t.1) n.toNatClampNeg (fun i => va_rf ((if i < n.toNatClampNeg then some (h.length + 1 + i) else none).map (fun a => b0 + a))))
        rw [← hsz, f2]
        refine congrArg (fun g => some (arrV (dA t.1) n.toNatClampNeg g)) (funext fun j => ?_)
        by_cases hj : j < n.toNatClampNeg
        · rw [if_pos hj, if_pos hj, hsz]
          exact congrArg Value.ref (show b0 + h.length + 1 + j = b0 + (h.length + 1 + j) by omega)
        · rw [if_neg hj, if_neg hj]
          rfl
      · rw [List.getElem?_append_right (by rw [List.length_append]; simp; omega)] at hc'
        rw [List.length_append, List.getElem?_replicate] at hc'
        simp only [List.length_cons, List.length_nil] at hc'
        split at hc'
        · next hlt =>
          cases hc'
          show F.heap[b0 + k]? = some (arrV (dA 0) w.toNatClampNeg (fun _ => .int 0))
          have := hrow (k - (h.length + 1)) (by omega)
          rw [hsz, show b0 + h.length + 1 + (k - (h.length + 1)) = b0 + k by omega] at this
          exact this
        · cases hc'
  obtain ⟨t9, a1, b1⟩ := kk F.heap locs hWd ⟨by rw [f1]; have := hS.1; omega, fun x h1 h2 => (hold x (Nat.lt_of_lt_of_le h1 hS.1)).trans (hS.2.1 x h1 h2), hS.2.2⟩ F rfl (by
    rw [show cells + (1 + n.toNatClampNeg) = cells + 1 + n.toNatClampNeg by omega, show slots + (n.toNatClampNeg + n.toNatClampNeg * w.toNatClampNeg) = slots + n.toNatClampNeg + n.toNatClampNeg * w.toNatClampNeg by omega]
    exact X')
  refine ⟨t9, step t9 ?_, b1⟩
  have e : T.heap.size = b0 + h.length := by rw [hT]; exact hsz
  rw [e]
  exact a1
end
section
/-! fuel; and the interpreter with summaries of methods -/
theorem jrun_succ (L : Nat) (xs : Nat → Int32) : ∀ (n d mi pc : Nat) (lv : jL) (st : List Value) (h : List jC) (r : Option Value × List jC), jrun L xs n d mi pc lv st h = some r → jrun L xs (n + 1) d mi pc lv st h = some r := by
  intro n
  induction n with
  | zero => intro d mi pc lv st h r hs; cases hs
  | succ n ih =>
    intro d mi pc lv st h r hs
    rw [jrun] at hs
    rw [jrun]
    cases hi : jm_ins mi pc with
    | none => rw [hi] at hs; cases hs
    | some q =>
      obtain ⟨i, len⟩ := q
      rw [hi] at hs
      dsimp only at hs ⊢
      by_cases hl : jlen i = 0 ∨ len = jlen i
      · rw [if_pos hl] at hs ⊢
        cases he : jend mi st i with
        | some r0 => rw [he] at hs; exact hs
        | none =>
          rw [he] at hs
          dsimp only at hs ⊢
          cases hc : jcall (jm_own mi) st h i with
          | some q =>
            obtain ⟨y, as, rest⟩ := q
            rw [hc] at hs
            cases d with
            | zero => cases hs
            | succ d' =>
              dsimp only at hs ⊢
              by_cases hy : y ≠ 0 ∧ y < jm_n ∧ (lg_sl as).length ≤ jm_maxL y
              · rw [if_pos hy] at hs ⊢
                cases hr : jrun L xs n d' y 0 (lv_args 0 as) [] h with
                | none => rw [hr] at hs; cases hs
                | some q1 =>
                  obtain ⟨r1, h1⟩ := q1
                  rw [hr] at hs
                  rw [ih _ _ _ _ _ _ _ hr]
                  exact ih _ _ _ _ _ _ _ hs
              · rw [if_neg hy] at hs; cases hs
          | none =>
            rw [hc] at hs
            dsimp only at hs ⊢
            cases hst : jstep L xs d mi pc lv st h i len with
            | none => rw [hst] at hs; cases hs
            | some q =>
              obtain ⟨pc1, lv1, st1, h1⟩ := q
              rw [hst] at hs
              exact ih _ _ _ _ _ _ _ hs
      · rw [if_neg hl] at hs; cases hs
theorem jrun_le {L : Nat} {xs : Nat → Int32} {n n' d mi pc : Nat} {lv : jL} {st : List Value} {h : List jC} {r : Option Value × List jC} (hn : n ≤ n') (hs : jrun L xs n d mi pc lv st h = some r) : jrun L xs n' d mi pc lv st h = some r := by
  induction hn with
  | refl => exact hs
  | step _ ih => exact jrun_succ L xs _ _ _ _ _ _ _ _ ih
/-- a method's run from its entry, whatever the fuel -/
def jMR (L : Nat) (xs : Nat → Int32) (d y : Nat) (as : List Value) (h : List jC) (r : Option Value × List jC) : Prop := ∃ n, jrun L xs n d y 0 (lv_args 0 as) [] h = some r
abbrev jSm : Type := Nat → List Value → List jC → Option (Option Value × List jC)
/-- summaries: what a method answers and leaves, at every depth from dep on -/
def jSmOK (L : Nat) (xs : Nat → Int32) (dep : Nat → Nat) (S : jSm) : Prop := ∀ (y : Nat) (as : List Value) (h : List jC) (r : Option Value × List jC), S y as h = some r → ∀ d, dep y ≤ d → jMR L xs d y as h r
/-- the interpreter, a method with a summary by its summary -/
def qrun (dep : Nat → Nat) (S : jSm) (L : Nat) (xs : Nat → Int32) : Nat → Nat → Nat → Nat → jL → List Value → List jC → Option (Option Value × List jC)
  | 0, _, _, _, _, _, _ => none
  | n + 1, d, mi, pc, lv, st, h => match jm_ins mi pc with
    | none => none
    | some (i, len) => if jlen i = 0 ∨ len = jlen i then
        (match jend mi st i with
        | some r => some (r, h)
        | none => match jcall (jm_own mi) st h i, d with
          | some (y, as, rest), d' + 1 => if y ≠ 0 ∧ y < jm_n ∧ (lg_sl as).length ≤ jm_maxL y then
              (match (if dep y ≤ d' then S y as h else none) with
              | some (r, h1) => qrun dep S L xs n (d' + 1) mi (pc + 3) lv (r.toList ++ rest) h1
              | none => match qrun dep S L xs n d' y 0 (lv_args 0 as) [] h with
                | some (r, h1) => qrun dep S L xs n (d' + 1) mi (pc + 3) lv (r.toList ++ rest) h1
                | none => none) else none
          | some _, 0 => none
          | none, d => match jstep L xs d mi pc lv st h i len with
            | some (pc', lv', st', h') => qrun dep S L xs n d mi pc' lv' st' h'
            | none => none) else none
theorem jrun_call {L : Nat} {xs : Nat → Int32} {n1 n2 d mi pc : Nat} {lv : jL} {st : List Value} {h : List jC} {i : Instr} {len y : Nat} {as rest : List Value} {r1 : Option Value} {h1 : List jC} {r : Option Value × List jC} (hi : jm_ins mi pc = some (i, len)) (hl : jlen i = 0 ∨ len = jlen i) (he : jend mi st i = none) (hc : jcall (jm_own mi) st h i = some (y, as, rest)) (hy : y ≠ 0 ∧ y < jm_n ∧ (lg_sl as).length ≤ jm_maxL y)
    (h1r : jrun L xs n1 d y 0 (lv_args 0 as) [] h = some (r1, h1)) (h2r : jrun L xs n2 (d + 1) mi (pc + 3) lv (r1.toList ++ rest) h1 = some r) : jrun L xs (n1 + n2 + 1) (d + 1) mi pc lv st h = some r := by
  rw [jrun, hi]
  dsimp only
  rw [if_pos hl, he]
  dsimp only
  rw [hc]
  dsimp only
  rw [if_pos hy, jrun_le (Nat.le_add_right n1 n2) h1r]
  exact jrun_le (Nat.le_add_left n2 n1) h2r
theorem qrun_ok (dep : Nat → Nat) (S : jSm) (L : Nat) (xs : Nat → Int32) (hS : jSmOK L xs dep S) : ∀ (n d mi pc : Nat) (lv : jL) (st : List Value) (h : List jC) (r : Option Value × List jC), qrun dep S L xs n d mi pc lv st h = some r → ∃ n', jrun L xs n' d mi pc lv st h = some r := by
  intro n
  induction n with
  | zero => intro d mi pc lv st h r hs; cases hs
  | succ n ih =>
    intro d mi pc lv st h r hs
    rw [qrun] at hs
    cases hi : jm_ins mi pc with
    | none => rw [hi] at hs; cases hs
    | some q =>
      obtain ⟨i, len⟩ := q
      rw [hi] at hs
      dsimp only at hs
      by_cases hl : jlen i = 0 ∨ len = jlen i
      · rw [if_pos hl] at hs
        cases he : jend mi st i with
        | some r0 =>
          rw [he] at hs
          refine ⟨1, ?_⟩
          rw [jrun, hi]
          dsimp only
          rw [if_pos hl, he]
          exact hs
        | none =>
          rw [he] at hs
          dsimp only at hs
          cases hc : jcall (jm_own mi) st h i with
          | some q =>
            obtain ⟨y, as, rest⟩ := q
            rw [hc] at hs
            cases d with
            | zero => cases hs
            | succ d' =>
              dsimp only at hs
              by_cases hy : y ≠ 0 ∧ y < jm_n ∧ (lg_sl as).length ≤ jm_maxL y
              · rw [if_pos hy] at hs
                split at hs
                · next r1 h1 hsm =>
                  have hdp : dep y ≤ d' := by
                    by_cases hd : dep y ≤ d'
                    · exact hd
                    · rw [if_neg hd] at hsm; cases hsm
                  rw [if_pos hdp] at hsm
                  obtain ⟨n1, hn1⟩ := hS y as h _ hsm d' hdp
                  obtain ⟨n2, hn2⟩ := ih _ _ _ _ _ _ _ hs
                  exact ⟨_, jrun_call hi hl he hc hy hn1 hn2⟩
                · split at hs
                  · next r1 h1 hq =>
                    obtain ⟨n1, hn1⟩ := ih _ _ _ _ _ _ _ hq
                    obtain ⟨n2, hn2⟩ := ih _ _ _ _ _ _ _ hs
                    exact ⟨_, jrun_call hi hl he hc hy hn1 hn2⟩
                  · cases hs
              · rw [if_neg hy] at hs; cases hs
          | none =>
            rw [hc] at hs
            dsimp only at hs
            cases hst : jstep L xs d mi pc lv st h i len with
            | none => rw [hst] at hs; cases hs
            | some q =>
              obtain ⟨pc1, lv1, st1, h1⟩ := q
              rw [hst] at hs
              obtain ⟨n2, hn2⟩ := ih _ _ _ _ _ _ _ hs
              refine ⟨n2 + 1, ?_⟩
              rw [jrun, hi]
              dsimp only
              rw [if_pos hl, he]
              dsimp only
              rw [hc]
              dsimp only
              rw [hst]
              exact hn2
      · rw [if_neg hl] at hs; cases hs
end
section
/-! a run from a place in a method, whatever the fuel -/
def jG (L : Nat) (xs : Nat → Int32) (d mi pc : Nat) (lv : jL) (st : List Value) (h : List jC) (r : Option Value × List jC) : Prop := ∃ n, jrun L xs n d mi pc lv st h = some r
section JG
variable {L : Nat} {xs : Nat → Int32} {d mi pc : Nat} {lv : jL} {st : List Value} {h : List jC} {r : Option Value × List jC}
theorem jG_seg (k : Nat) {pc' : Nat} {lv' : jL} {st' : List Value} {h' : List jC} (e : ∀ N, jrun L xs (N + k) d mi pc lv st h = jrun L xs N d mi pc' lv' st' h') (g : jG L xs d mi pc' lv' st' h' r) : jG L xs d mi pc lv st h r := by
  obtain ⟨n, hn⟩ := g
  exact ⟨n + k, by rw [e]; exact hn⟩
theorem jG_step {i : Instr} {len pc' : Nat} {lv' : jL} {st' : List Value} {h' : List jC} (hi : jm_ins mi pc = some (i, len)) (hl : jlen i = 0 ∨ len = jlen i) (he : jend mi st i = none) (hc : jcall (jm_own mi) st h i = none) (hs : jstep L xs d mi pc lv st h i len = some (pc', lv', st', h')) (g : jG L xs d mi pc' lv' st' h' r) : jG L xs d mi pc lv st h r := by
  obtain ⟨n, hn⟩ := g
  refine ⟨n + 1, ?_⟩
  rw [jrun, hi]
  dsimp only
  rw [if_pos hl, he]
  dsimp only
  rw [hc]
  dsimp only
  rw [hs]
  exact hn
theorem jG_ret {i : Instr} {len : Nat} {v : Option Value} (hi : jm_ins mi pc = some (i, len)) (hl : jlen i = 0 ∨ len = jlen i) (he : jend mi st i = some v) : jG L xs d mi pc lv st h (v, h) := by
  refine ⟨1, ?_⟩
  rw [jrun, hi]
  dsimp only
  rw [if_pos hl, he]
theorem jG_call {i : Instr} {len y : Nat} {as rest : List Value} {r1 : Option Value} {h1 : List jC} (hi : jm_ins mi pc = some (i, len)) (hl : jlen i = 0 ∨ len = jlen i) (he : jend mi st i = none) (hc : jcall (jm_own mi) st h i = some (y, as, rest)) (hy : y ≠ 0 ∧ y < jm_n ∧ (lg_sl as).length ≤ jm_maxL y)
    (hm : jMR L xs d y as h (r1, h1)) (g : jG L xs (d + 1) mi (pc + 3) lv (r1.toList ++ rest) h1 r) : jG L xs (d + 1) mi pc lv st h r := by
  obtain ⟨n1, hn1⟩ := hm
  obtain ⟨n2, hn2⟩ := g
  exact ⟨_, jrun_call hi hl he hc hy hn1 hn2⟩
theorem jG_iast {x j : Int32} {a n : Nat} {f : Nat → Int32} {rest : List Value} (hi : jm_ins mi pc = some (.iastore, 1)) (ha : h[a]? = some (.inl (0, n, .inl f))) (hj : jin j n = true) (g : jG L xs (d + 1) mi (pc + 1) lv rest (h.set a (.inl (0, n, .inl (upd f j.toNatClampNeg x)))) r) : jG L xs (d + 1) mi pc lv (.int x :: .int j :: .ref a :: rest) h r :=
  jG_step hi (Or.inr rfl) rfl rfl (by
    show (if d + 1 = 0 then none else jH L xs (decide (mi = 0)) (jm_ini mi) (jm_own mi) pc lv (.int x :: .int j :: .ref a :: rest) h .iastore) = _
    rw [if_neg (Nat.succ_ne_zero d)]
    simp only [jH, ha, hj]
    rfl) g
end JG
def jm_fill : Nat := 227
theorem jfill_loop (L : Nat) (xs : Nat → Int32) (d a n : Nat) (v : Int32) (hn : n < 2 ^ 31) : ∀ (m i : Nat) (f : Nat → Int32) (h : List jC), i + m = n → h[a]? = some (.inl (0, n, .inl f)) → jG L xs (d + 1) 227 5 [(2, .int (nI i)), (3, .int (nI n)), (0, .ref a), (1, .int v)] [] h (none, h.set a (.inl (0, n, .inl (fun j => if i ≤ j ∧ j < n then v else f j)))) := by
  intro m
  induction m with
  | zero =>
    intro i f h hi ha
    have hin : i = n := by omega
    subst hin
    refine jG_seg 3 (pc' := 20) (lv' := [(2, .int (nI i)), (3, .int (nI i)), (0, .ref a), (1, .int v)]) (st' := []) (h' := h) (fun N => ?_) ?_
    · have e : jcmp .ge (nI i) (nI i) = true := decide_eq_true (Int32.le_refl _)
      show jrun L xs N (d + 1) 227 (if jcmp .ge (nI i) (nI i) then 20 else 10) _ _ _ = _
      rw [e]
      rfl
    · have e : h.set a (.inl (0, i, .inl (fun j => if i ≤ j ∧ j < i then v else f j))) = h := by
        have hf : (fun j => if i ≤ j ∧ j < i then v else f j) = f := funext fun j => if_neg (by omega)
        rw [hf]
        have hl := (List.getElem?_eq_some_iff.mp ha)
        obtain ⟨hlt, he⟩ := hl
        rw [← he]
        exact List.set_getElem_self hlt
      rw [e]
      exact jG_ret (i := .return_) (len := 1) rfl (Or.inr rfl) rfl
  | succ m ih =>
    intro i f h hi ha
    have hlt : i < n := by omega
    have e : jcmp .ge (nI i) (nI n) = false := decide_eq_false (nI_ge hlt hn)
    refine jG_seg 6 (pc' := 13) (lv' := [(2, .int (nI i)), (3, .int (nI n)), (0, .ref a), (1, .int v)]) (st' := [.int v, .int (nI i), .ref a]) (h' := h) (fun N => ?_) ?_
    · show jrun L xs (N + 3) (d + 1) 227 (if jcmp .ge (nI i) (nI n) then 20 else 10) _ _ _ = _
      rw [e]
      rfl
    · refine jG_iast rfl ha (decide_eq_true (nI_in hlt hn)) ?_
      rw [nI_clamp (Nat.lt_trans hlt hn)]
      refine jG_seg 2 (pc' := 5) (lv' := [(2, .int (nI i + 1)), (3, .int (nI n)), (0, .ref a), (1, .int v)]) (st' := []) (fun N => rfl) ?_
      rw [← nI_succ]
      have hl := (List.getElem?_eq_some_iff.mp ha).1
      have := ih (i + 1) (upd f i v) (h.set a (.inl (0, n, .inl (upd f i v)))) (by omega) (List.getElem?_set_self hl)
      rw [List.set_set] at this
      have hf : (fun j => if i + 1 ≤ j ∧ j < n then v else upd f i v j) = (fun j => if i ≤ j ∧ j < n then v else f j) := by
        funext j
        by_cases hj : j = i
        · subst hj
          rw [if_neg (by omega), if_pos ⟨Nat.le_refl _, hlt⟩, pk_us]
        · rw [pk_un hj]
          by_cases h1 : i ≤ j ∧ j < n
          · rw [if_pos h1, if_pos (by omega)]
          · rw [if_neg h1, if_neg (by omega)]
      rw [hf] at this
      exact this
end
section
/-! the interpreter over a fixed shape: which cells there are, and their references, is T; σ k j is the int at place j of cell k -/
abbrev kS : Type := Nat → Nat → Int32
def kval (f : Nat → Int32) (j : Nat) (v : Value) : Value := match v with
  | .int _ => .int (f j)
  | v => v
def kR (t c : jC) (f : Nat → Int32) : Prop := match t, c with
  | .inr (ci, ts), .inr (ci', fs) => ci' = ci ∧ fs = ts.mapIdx (kval f)
  | .inl (t, n, .inl _), .inl (t', n', .inl g) => t' = t ∧ n' = n ∧ ∀ j, j < n → g j = f j
  | .inl (t, n, .inr (.inr (.inr (.inr g)))), .inl (t', n', .inr (.inr (.inr (.inr g')))) => t' = t ∧ n' = n ∧ ∀ j, j < n → g' j = g j
  | _, _ => False
def kE (T : List jC) (σ : kS) (h : List jC) : Prop := h.length = T.length ∧ ∀ (k : Nat) (t : jC), T[k]? = some t → ∃ c, h[k]? = some c ∧ kR t c (σ k)
theorem kE.set {T : List jC} {σ : kS} {h : List jC} (hE : kE T σ h) {a : Nat} {t c : jC} {f : Nat → Int32} (ha : T[a]? = some t) (hR : kR t c f) : kE T (va_up σ a f) (h.set a c) := by
  refine ⟨by rw [List.length_set]; exact hE.1, ?_⟩
  intro k t' hk
  obtain ⟨c0, h0, hr⟩ := hE.2 k t' hk
  by_cases e : k = a
  · subst e
    cases ha.symm.trans hk
    exact ⟨c, List.getElem?_set_self (List.getElem?_eq_some_iff.mp h0).1, by simp [va_up]; exact hR⟩
  · exact ⟨c0, by rw [List.getElem?_set_ne (Ne.symm e)]; exact h0, by simp [va_up, e]; exact hr⟩
theorem kE.obj {T : List jC} {σ : kS} {h : List jC} (hE : kE T σ h) {a ci : Nat} {ts : List Value} (ha : T[a]? = some (.inr (ci, ts))) : h[a]? = some (.inr (ci, ts.mapIdx (kval (σ a)))) := by
  obtain ⟨c, h0, hr⟩ := hE.2 a _ ha
  obtain q | ⟨ci', fs⟩ := c
  · exact hr.elim
  · obtain ⟨rfl, rfl⟩ := hr
    exact h0
theorem kE.arr {T : List jC} {σ : kS} {h : List jC} (hE : kE T σ h) {a t n : Nat} {g0 : Nat → Int32} (ha : T[a]? = some (.inl (t, n, .inl g0))) : ∃ g, h[a]? = some (.inl (t, n, .inl g)) ∧ ∀ j, j < n → g j = σ a j := by
  obtain ⟨c, h0, hr⟩ := hE.2 a _ ha
  obtain ⟨t', n', g | g | g | g | g⟩ | q := c
  · obtain ⟨rfl, rfl, hg⟩ := hr
    exact ⟨g, h0, hg⟩
  all_goals exact hr.elim
theorem kE.refs {T : List jC} {σ : kS} {h : List jC} (hE : kE T σ h) {a t n : Nat} {g0 : Nat → Option Nat} (ha : T[a]? = some (.inl (t, n, .inr (.inr (.inr (.inr g0)))))) : ∃ g, h[a]? = some (.inl (t, n, .inr (.inr (.inr (.inr g))))) ∧ ∀ j, j < n → g j = g0 j := by
  obtain ⟨c, h0, hr⟩ := hE.2 a _ ha
  obtain ⟨t', n', g | g | g | g | g⟩ | q := c
  · exact hr.elim
  · exact hr.elim
  · exact hr.elim
  · exact hr.elim
  · obtain ⟨rfl, rfl, hg⟩ := hr
    exact ⟨g, h0, hg⟩
  · exact hr.elim
theorem kmap_set {ts : List Value} {f : Nat → Int32} {j : Nat} {x y : Int32} (h : ts[j]? = some (.int y)) : (ts.mapIdx (kval f)).set j (.int x) = ts.mapIdx (kval (upd f j x)) := by
  apply List.ext_getElem?
  intro k
  rw [List.getElem?_mapIdx]
  by_cases e : k = j
  · subst e
    rw [List.getElem?_set_self (by rw [List.length_mapIdx]; exact (List.getElem?_eq_some_iff.mp h).1), h]
    simp [kval, upd]
  · rw [List.getElem?_set_ne (Ne.symm e), List.getElem?_mapIdx]
    cases ts[k]? with
    | none => rfl
    | some v => cases v <;> simp [kval, upd, e]
theorem kR_sz {t c : jC} {f : Nat → Int32} (h : kR t c f) : jsz c = jsz t := by
  obtain ⟨t, n, g | g | g | g | g⟩ | ⟨ci, ts⟩ := t <;> obtain ⟨t', n', g' | g' | g' | g' | g'⟩ | ⟨ci', fs⟩ := c <;> first | exact h.elim | skip
  · exact h.2.1
  · exact h.2.1
  · obtain ⟨-, rfl⟩ := h
    exact List.length_mapIdx
theorem kE.sl {T : List jC} {σ : kS} {h : List jC} (hE : kE T σ h) : jsl h = jsl T := by
  have : h.map jsz = T.map jsz := by
    apply List.ext_getElem?
    intro k
    rw [List.getElem?_map, List.getElem?_map]
    cases hk : T[k]? with
    | none =>
      have h1 : T.length ≤ k := List.getElem?_eq_none_iff.mp hk
      rw [List.getElem?_eq_none (by rw [hE.1]; exact h1)]
    | some t =>
      obtain ⟨c, h0, hr⟩ := hE.2 k t hk
      rw [h0]
      show some (jsz c) = some (jsz t)
      rw [kR_sz hr]
  unfold jsl
  rw [this]
abbrev kQ : Type := Option (Nat × jL × List Value × kS)
def kH (T : List jC) (L : Nat) (xs : Nat → Int32) (isLaw : Bool) (k pc : Nat) (lv : jL) (st : List Value) (σ : kS) (i : Instr) : kQ := match i with
  | .getfield idx => match st with
    | .ref a :: st => match jm_fld k idx, T[a]? with
      | some (ci, f), some (.inr (ci', ts)) => if ci = ci' then (match ts[f]? with
          | some v => some (pc + 3, lv, kval (σ a) f v :: st, σ)
          | none => none) else none
      | _, _ => none
    | _ => none
  | .putfield idx => match st with
    | .int x :: .ref a :: st => match jm_fld k idx, T[a]? with
      | some (ci, f), some (.inr (ci', ts)) => (match ts[f]? with
          | some (.int _) => if ci = ci' ∧ jfit (jm_ty ci f) (.int x) = true ∧ jm_fin ci f = false then some (pc + 3, lv, st, va_up σ a (upd (σ a) f x)) else none
          | _ => none)
      | _, _ => none
    | _ => none
  | .iaload => match st with
    | .int j :: .ref a :: st => match T[a]? with
      | some (.inl (t, n, .inl _)) => if t = 0 ∧ jin j n = true then some (pc + 1, lv, .int (σ a j.toNatClampNeg) :: st, σ) else none
      | _ => none
    | .int j :: .retAddr _ :: st => if isLaw = true ∧ jin j L = true then some (pc + 1, lv, .int (xs j.toNatClampNeg) :: st, σ) else none
    | _ => none
  | .baload => match st with
    | .int j :: .ref a :: st => match T[a]? with
      | some (.inl (t, n, .inl _)) => if t = 1 ∧ jin j n = true then some (pc + 1, lv, .int (σ a j.toNatClampNeg) :: st, σ) else none
      | _ => none
    | _ => none
  | .aaload => match st with
    | .int j :: .ref a :: st => match T[a]? with
      | some (.inl (t, n, .inr (.inr (.inr (.inr f))))) => if 2 ≤ t ∧ t < jm_nat ∧ jin j n = true then some (pc + 1, lv, jrf (f j.toNatClampNeg) :: st, σ) else none
      | _ => none
    | _ => none
  | .arraylength => match st with
    | .ref a :: st => match T[a]? with
      | some (.inl (t, n, .inl _)) => if t < jm_nat then some (pc + 1, lv, .int (Int32.ofNat n) :: st, σ) else none
      | _ => none
    | .retAddr _ :: st => if isLaw = true then some (pc + 1, lv, .int (Int32.ofNat L) :: st, σ) else none
    | _ => none
  | .iastore => match st with
    | .int x :: .int j :: .ref a :: st => match T[a]? with
      | some (.inl (t, n, .inl _)) => if t = 0 ∧ jin j n = true then some (pc + 1, lv, st, va_up σ a (upd (σ a) j.toNatClampNeg x)) else none
      | _ => none
    | _ => none
  | .bastore => match st with
    | .int x :: .int j :: .ref a :: st => match T[a]? with
      | some (.inl (t, n, .inl _)) => if t = 1 ∧ jin j n = true ∧ (x = 0 ∨ x = 1) then some (pc + 1, lv, st, va_up σ a (upd (σ a) j.toNatClampNeg x)) else none
      | _ => none
    | _ => none
  | .invokestatic idx => match jm_mm k idx with
    | some v => (match st with
      | .int y :: .int x :: st => if (st.map fun v => v.category).sum ≤ 8 ∧ (v = 2 → y ≠ 0) then some (pc + 3, lv, .int (jmmv v x y) :: st, σ) else none
      | _ => none)
    | none => match st with
    | .int n :: .int dp :: .ref a :: .int sp :: .ref a0 :: st => match jm_ac k idx, T[a0]?, T[a]? with
      | true, some (.inl (t0, n0, .inl _)), some (.inl (t1, n1, .inl _)) => if t0 = 0 ∧ t1 = 0 ∧ ¬ sp < 0 ∧ ¬ dp < 0 ∧ ¬ n < 0 ∧ sp.toNatClampNeg + n.toNatClampNeg ≤ n0 ∧ dp.toNatClampNeg + n.toNatClampNeg ≤ n1 ∧ (st.map fun v => v.category).sum ≤ 8 then
          some (pc + 3, lv, st, va_up σ a (va_cpy (σ a0) (σ a) sp.toNatClampNeg dp.toNatClampNeg n.toNatClampNeg)) else none
      | _, _, _ => none
    | _ => none
  | _ => none
set_option maxHeartbeats 4000000 in
theorem kH_ok {T : List jC} {L : Nat} {xs : Nat → Int32} {il ini : Bool} {k pc : Nat} {lv : jL} {st : List Value} {σ : kS} {i : Instr} {r : Nat × jL × List Value × kS} {h : List jC} (hE : kE T σ h) (hs : kH T L xs il k pc lv st σ i = some r) : ∃ h', jH L xs il ini k pc lv st h i = some (r.1, r.2.1, r.2.2.1, h') ∧ kE T r.2.2.2 h' := by
  cases i with
  | getfield idx =>
    simp only [kH] at hs
    split at hs
    · split at hs
      · next ci f ci' ts hf ha =>
        split at hs
        · next he =>
          split at hs
          · next v hv =>
            cases hs
            refine ⟨h, ?_, hE⟩
            have := hE.obj ha
            simp only [jH, hf, this, if_pos he, List.getElem?_mapIdx, hv]
            rfl
          · cases hs
        · cases hs
      · cases hs
    · cases hs
  | putfield idx =>
    simp only [kH] at hs
    split at hs
    · next x a st =>
      split at hs
      · next ci f ci' ts hf ha =>
        split at hs
        · next y hv =>
          split at hs
          · next he =>
            obtain ⟨rfl, h1, h2⟩ := he
            cases hs
            have hob := hE.obj ha
            refine ⟨h.set a (.inr (ci, (ts.mapIdx (kval (σ a))).set f (.int x))), ?_, hE.set ha ⟨rfl, kmap_set hv⟩⟩
            simp only [jH, hf, hob, h1, h2, List.length_mapIdx]
            rw [if_pos ⟨trivial, (List.getElem?_eq_some_iff.mp hv).1, trivial, Or.inl trivial⟩]
            rfl
          · cases hs
        · cases hs
      · cases hs
    · cases hs
  | iaload =>
    simp only [kH] at hs
    split at hs
    · split at hs
      · next t n g0 ha =>
        split at hs
        · next he =>
          cases hs
          obtain ⟨g, h0, hg⟩ := hE.arr ha
          refine ⟨h, ?_, hE⟩
          simp only [jH, h0, if_pos he]
          rw [hg _ (Nat.not_le.mp fun q => jin_spec he.2 (Or.inr q))]
        · cases hs
      · cases hs
    · split at hs
      · next he =>
        cases hs
        refine ⟨h, ?_, hE⟩
        simp only [jH, if_pos he]
      · cases hs
    · cases hs
  | baload =>
    simp only [kH] at hs
    split at hs
    · split at hs
      · next t n g0 ha =>
        split at hs
        · next he =>
          cases hs
          obtain ⟨g, h0, hg⟩ := hE.arr ha
          refine ⟨h, ?_, hE⟩
          simp only [jH, h0, if_pos he]
          rw [hg _ (Nat.not_le.mp fun q => jin_spec he.2 (Or.inr q))]
        · cases hs
      · cases hs
    · cases hs
  | aaload =>
    simp only [kH] at hs
    split at hs
    · split at hs
      · next t n g0 ha =>
        split at hs
        · next he =>
          cases hs
          obtain ⟨g, h0, hg⟩ := hE.refs ha
          refine ⟨h, ?_, hE⟩
          simp only [jH, h0, if_pos he]
          rw [hg _ (Nat.not_le.mp fun q => jin_spec he.2.2 (Or.inr q))]
        · cases hs
      · cases hs
    · cases hs
  | arraylength =>
    simp only [kH] at hs
    split at hs
    · split at hs
      · next t n g0 ha =>
        split at hs
        · next he =>
          cases hs
          obtain ⟨g, h0, hg⟩ := hE.arr ha
          refine ⟨h, ?_, hE⟩
          simp only [jH, h0, if_pos he]
        · cases hs
      · cases hs
    · split at hs
      · next he =>
        cases hs
        refine ⟨h, ?_, hE⟩
        simp only [jH, if_pos he]
      · cases hs
    · cases hs
  | iastore =>
    simp only [kH] at hs
    split at hs
    · next x j a st =>
      split at hs
      · next t n g0 ha =>
        split at hs
        · next he =>
          cases hs
          obtain ⟨g, h0, hg⟩ := hE.arr ha
          refine ⟨h.set a (.inl (t, n, .inl (upd g j.toNatClampNeg x))), ?_, hE.set ha ⟨rfl, rfl, fun i hi => ?_⟩⟩
          · simp only [jH, h0, if_pos he]
            rfl
          · unfold upd
            split
            · rfl
            · exact hg i hi
        · cases hs
      · cases hs
    · cases hs
  | bastore =>
    simp only [kH] at hs
    split at hs
    · next x j a st =>
      split at hs
      · next t n g0 ha =>
        split at hs
        · next he =>
          cases hs
          obtain ⟨g, h0, hg⟩ := hE.arr ha
          refine ⟨h.set a (.inl (t, n, .inl (upd g j.toNatClampNeg x))), ?_, hE.set ha ⟨rfl, rfl, fun i hi => ?_⟩⟩
          · simp only [jH, h0, if_pos he]
            rfl
          · unfold upd
            split
            · rfl
            · exact hg i hi
        · cases hs
      · cases hs
    · cases hs
  | invokestatic idx =>
    simp only [kH] at hs
    split at hs
    · next v hv =>
      split at hs
      · split at hs
        · next he =>
          cases hs
          refine ⟨h, ?_, hE⟩
          simp only [jH, hv, if_pos he]
        · cases hs
      · cases hs
    · next hnm =>
      split at hs
      · next n dp a sp a0 st =>
        split at hs
        · next t0 n0 g1 t1 n1 g2 ho ha0 ha =>
          split at hs
          · next he =>
            cases hs
            obtain ⟨f, h0, hf⟩ := hE.arr ha0
            obtain ⟨g, h1, hg⟩ := hE.arr ha
            refine ⟨h.set a (.inl (t1, n1, .inl (va_cpy f g sp.toNatClampNeg dp.toNatClampNeg n.toNatClampNeg))), ?_, hE.set ha ⟨rfl, rfl, fun i hi => ?_⟩⟩
            · simp only [jH, hnm, ho, h0, h1, if_pos he]
              rfl
            · unfold va_cpy
              split
              · next hi2 => exact hf _ (by omega)
              · exact hg i hi
          · cases hs
        · cases hs
      · cases hs
  | _ => cases hs
end
section
theorem kcall_ok {T : List jC} {σ : kS} {h : List jC} (hE : kE T σ h) {k : Nat} {st : List Value} {i : Instr} {x : Nat × List Value × List Value} (hc : jcall k st T i = some x) : jcall k st h i = some x := by
  cases i with
  | invokevirtual idx =>
    simp only [jcall] at hc ⊢
    split at hc
    · next kd y n hm =>
      split at hc
      · next hkd =>
        split at hc
        · next a rest hdr =>
          split at hc
          · next ci ts ha =>
            have := hE.obj ha
            rw [if_pos hkd, this]
            exact hc
          · cases hc
        · cases hc
      · cases hc
    · cases hc
  | invokespecial idx => exact hc
  | invokestatic idx => exact hc
  | _ => cases hc
def kplain (i : Instr) : Bool := match i with
  | .invokevirtual _ => false
  | _ => true
theorem kcall_none {T : List jC} {σ : kS} {h : List jC} (hE : kE T σ h) {k : Nat} {st : List Value} {i : Instr} (hi : kplain i = true) (hc : jcall k st T i = none) : jcall k st h i = none := by
  cases i with
  | invokevirtual idx => cases hi
  | _ => exact hc
/-- one instruction that is no call and no end -/
def kone (T : List jC) (L : Nat) (xs : Nat → Int32) (d mi pc : Nat) (lv : jL) (st : List Value) (σ : kS) : kQ := match jm_ins mi pc with
  | none => none
  | some (i, len) => if (jlen i = 0 ∨ len = jlen i) ∧ kplain i = true then
      (match jend mi st i with
      | some _ => none
      | none => match jcall (jm_own mi) st T i with
        | some _ => none
        | none => match jA (jm_own mi) (jm_maxL mi) pc len lv st i with
          | some (pc', lv', st') => some (pc', lv', st', σ)
          | none => if d = 0 then none else kH T L xs (decide (mi = 0)) (jm_own mi) pc lv st σ i) else none
def kmany (T : List jC) (L : Nat) (xs : Nat → Int32) (d mi : Nat) : Nat → Nat → jL → List Value → kS → kQ
  | 0, pc, lv, st, σ => some (pc, lv, st, σ)
  | n + 1, pc, lv, st, σ => match kone T L xs d mi pc lv st σ with
    | some (pc', lv', st', σ') => kmany T L xs d mi n pc' lv' st' σ'
    | none => none
def kG (T : List jC) (L : Nat) (xs : Nat → Int32) (d mi pc : Nat) (lv : jL) (st : List Value) (σ : kS) (r : Option Value) (σ' : kS) : Prop := ∀ h, kE T σ h → ∃ h', jG L xs d mi pc lv st h (r, h') ∧ kE T σ' h'
/-- a method's run from its entry -/
def kM (T : List jC) (L : Nat) (xs : Nat → Int32) (d y : Nat) (as : List Value) (σ : kS) (r : Option Value) (σ' : kS) : Prop := kG T L xs d y 0 (lv_args 0 as) [] σ r σ'
section KG
variable {T : List jC} {L : Nat} {xs : Nat → Int32} {d mi pc : Nat} {lv : jL} {st : List Value} {σ : kS} {r : Option Value} {σ' : kS}
theorem kG_one {pc1 : Nat} {lv1 : jL} {st1 : List Value} {σ1 : kS} (hs : kone T L xs d mi pc lv st σ = some (pc1, lv1, st1, σ1)) (g : kG T L xs d mi pc1 lv1 st1 σ1 r σ') : kG T L xs d mi pc lv st σ r σ' := by
  intro h hE
  unfold kone at hs
  split at hs
  · cases hs
  · next i len hi =>
    split at hs
    · next hl =>
      split at hs
      · cases hs
      · next he =>
        split at hs
        · cases hs
        · next hc =>
          have hcn := kcall_none hE hl.2 hc
          split at hs
          · next pc2 lv2 st2 hA =>
            cases hs
            obtain ⟨h', g1, g2⟩ := g h hE
            refine ⟨h', jG_step hi hl.1 he hcn ?_ g1, g2⟩
            unfold jstep
            rw [hA]
          · next hA =>
            split at hs
            · cases hs
            · next hd =>
              obtain ⟨h1, q1, q2⟩ := kH_ok (ini := jm_ini mi) hE hs
              obtain ⟨h', g1, g2⟩ := g h1 q2
              refine ⟨h', jG_step hi hl.1 he hcn ?_ g1, g2⟩
              unfold jstep
              rw [hA]
              dsimp only
              rw [if_neg hd]
              exact q1
    · cases hs
theorem kG_many : ∀ (n : Nat) {pc : Nat} {lv : jL} {st : List Value} {σ : kS} {pc1 : Nat} {lv1 : jL} {st1 : List Value} {σ1 : kS}, kmany T L xs d mi n pc lv st σ = some (pc1, lv1, st1, σ1) → kG T L xs d mi pc1 lv1 st1 σ1 r σ' → kG T L xs d mi pc lv st σ r σ'
  | 0, _, _, _, _, _, _, _, _, hs, g => by cases hs; exact g
  | n + 1, _, _, _, _, _, _, _, _, hs, g => by
    unfold kmany at hs
    split at hs
    · next pc2 lv2 st2 σ2 h1 => exact kG_one h1 (kG_many n hs g)
    · cases hs
theorem kG_ret {i : Instr} {len : Nat} (hi : jm_ins mi pc = some (i, len)) (hl : jlen i = 0 ∨ len = jlen i) (he : jend mi st i = some r) : kG T L xs d mi pc lv st σ r σ := fun h hE => ⟨h, jG_ret hi hl he, hE⟩
theorem kG_call {i : Instr} {len y : Nat} {as rest : List Value} {r1 : Option Value} {σ1 : kS} (hi : jm_ins mi pc = some (i, len)) (hl : jlen i = 0 ∨ len = jlen i) (he : jend mi st i = none) (hc : jcall (jm_own mi) st T i = some (y, as, rest)) (hy : y ≠ 0 ∧ y < jm_n ∧ (lg_sl as).length ≤ jm_maxL y)
    (hm : kM T L xs d y as σ r1 σ1) (g : kG T L xs (d + 1) mi (pc + 3) lv (r1.toList ++ rest) σ1 r σ') : kG T L xs (d + 1) mi pc lv st σ r σ' := by
  intro h hE
  obtain ⟨h1, q1, q2⟩ := hm h hE
  obtain ⟨h', g1, g2⟩ := g h1 q2
  exact ⟨h', jG_call hi hl he (kcall_ok hE hc) hy q1 g1, g2⟩
theorem kG_if {c : Bool} {p1 p2 : Nat} (ht : c = true → kG T L xs d mi p1 lv st σ r σ') (hf : c = false → kG T L xs d mi p2 lv st σ r σ') : kG T L xs d mi (if c = true then p1 else p2) lv st σ r σ' := by
  cases c with
  | true => exact ht rfl
  | false => exact hf rfl
theorem kG_iald {j : Int32} {a n : Nat} {g0 : Nat → Int32} {rest : List Value} (hi : jm_ins mi pc = some (.iaload, 1)) (ha : T[a]? = some (.inl (0, n, .inl g0))) (hj : jin j n = true) (g : kG T L xs (d + 1) mi (pc + 1) lv (.int (σ a j.toNatClampNeg) :: rest) σ r σ') : kG T L xs (d + 1) mi pc lv (.int j :: .ref a :: rest) σ r σ' :=
  kG_one (by unfold kone; rw [hi]; simp [jlen, kplain, jend, jcall, jA, kH, ha, hj]) g
theorem kG_bald {j : Int32} {a n : Nat} {g0 : Nat → Int32} {rest : List Value} (hi : jm_ins mi pc = some (.baload, 1)) (ha : T[a]? = some (.inl (1, n, .inl g0))) (hj : jin j n = true) (g : kG T L xs (d + 1) mi (pc + 1) lv (.int (σ a j.toNatClampNeg) :: rest) σ r σ') : kG T L xs (d + 1) mi pc lv (.int j :: .ref a :: rest) σ r σ' :=
  kG_one (by unfold kone; rw [hi]; simp [jlen, kplain, jend, jcall, jA, kH, ha, hj]) g
theorem kG_iast {x j : Int32} {a n : Nat} {g0 : Nat → Int32} {rest : List Value} (hi : jm_ins mi pc = some (.iastore, 1)) (ha : T[a]? = some (.inl (0, n, .inl g0))) (hj : jin j n = true) (g : kG T L xs (d + 1) mi (pc + 1) lv rest (va_up σ a (upd (σ a) j.toNatClampNeg x)) r σ') : kG T L xs (d + 1) mi pc lv (.int x :: .int j :: .ref a :: rest) σ r σ' :=
  kG_one (by unfold kone; rw [hi]; simp [jlen, kplain, jend, jcall, jA, kH, ha, hj]) g
theorem kG_bast {x j : Int32} {a n : Nat} {g0 : Nat → Int32} {rest : List Value} (hi : jm_ins mi pc = some (.bastore, 1)) (ha : T[a]? = some (.inl (1, n, .inl g0))) (hj : jin j n = true) (hx : x = 0 ∨ x = 1) (g : kG T L xs (d + 1) mi (pc + 1) lv rest (va_up σ a (upd (σ a) j.toNatClampNeg x)) r σ') : kG T L xs (d + 1) mi pc lv (.int x :: .int j :: .ref a :: rest) σ r σ' :=
  kG_one (by unfold kone; rw [hi]; simp [jlen, kplain, jend, jcall, jA, kH, ha, hj, hx]) g
theorem kG_aald {j : Int32} {a n t : Nat} {g0 : Nat → Option Nat} {rest : List Value} (hi : jm_ins mi pc = some (.aaload, 1)) (ha : T[a]? = some (.inl (t, n, .inr (.inr (.inr (.inr g0)))))) (h2 : 2 ≤ t) (ht : t < jm_nat) (hj : jin j n = true) (g : kG T L xs (d + 1) mi (pc + 1) lv (jrf (g0 j.toNatClampNeg) :: rest) σ r σ') : kG T L xs (d + 1) mi pc lv (.int j :: .ref a :: rest) σ r σ' :=
  kG_one (by unfold kone; rw [hi]; simp [jlen, kplain, jend, jcall, jA, kH, ha, hj, h2, ht]) g
end KG
end
