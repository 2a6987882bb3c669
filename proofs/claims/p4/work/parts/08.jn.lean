section JN
variable {p : Program} {l : Launch} {e : Env} {R : Room} {s : State} {m : MethodId} {args : Array Value} {below : List Frame} {meth : Method} {c : Code} {H : Heap} {locs : List Loc} {cells slots : Nat} {Q : State → Prop}
variable {D : va_G} {dA : Nat → ClassId} {b b0 L mi pc : Nat} {xs : Nat → Int32} {ls : Array Slot} {rest : List Value} {h : List jC}
theorem jS_push {H1 : Heap} (hS : va_S (fun q => b0 ≤ q) s.heap H locs) (hz : H1.size = H.size + 1) (oq : ∀ q : Nat, q < H.size → H1[q]? = H[q]?) : va_S (fun q => b0 ≤ q) s.heap H1 locs :=
  ⟨Nat.le_trans hS.1 (by omega), fun q h1 h2 => (oq q (Nat.lt_of_lt_of_le h1 hS.1)).trans (hS.2.1 q h1 h2), hS.2.2⟩
theorem jv_def (b b0 : Nat) (ty : FieldType) : jv b b0 (defaultValue ty) = defaultValue ty := by
  cases ty <;> rfl
theorem jh_new (cx : jcx D dA b b0 L xs p s m args meth c mi) (hW : jWd D dA b b0 h H) (hS : va_S (fun q => b0 ≤ q) s.heap H locs) {idx ci : Nat} (hn : jm_new (jm_own mi) idx = some ci) (hd : decode (jm_code mi) pc = .ok (.new idx, 3)) (hcells : cells + 1 ≤ R.cells) (hslots : slots + jm_nf ci ≤ R.slots)
    (kk : jKH p l e R s m args below meth c (cells + 1) (slots + jm_nf ci) Q D dA b b0 (h ++ [.inr (ci, (List.range (jm_nf ci)).map (fun j => defaultValue (jm_ty ci j)))]) (F0 m (pc + 3) ls (.ref (b0 + h.length) :: rest))) : W p l e R s m args below meth c H locs cells slots Q (F0 m pc ls rest) := by
  obtain ⟨hx, hb, hml, hown, hts, hK, hov, hin, hX, hbs⟩ := cx
  obtain ⟨C, T, N, hc, hlk⟩ := jm_new_ok _ _ _ hn
  obtain ⟨k1, k2, k3, k4, k5, k6, k7, k8⟩ := jm_cl_ok ci C T N hc
  subst k6
  have hKn := hK.1 ci _ hc
  refine W.newcK hx hb hown (hts _ hlk) (hts _ k4) (hts _ k5) rfl hd hcells hslots hKn.2.1 hW.2 fun H1 kC hkC e1 z1 o1 => ?_
  have z1' : H1.size = H.size + 1 := by rw [z1, hW.2]
  have o1' : ∀ q : Nat, q < H.size → H1[q]? = H[q]? := fun q hq => o1 q (by rw [← hW.2]; exact hq)
  refine kk H1 _ (hW.push ?_ z1' o1') (jS_push hS z1' o1')
  refine ⟨_, hc, (u_born (jm_ty ci) hts k1 hKn hkC e1 k2).to ?_⟩
  intro j hj
  simp [vp_V, List.getD_eq_getElem?_getD, List.getElem?_map, List.getElem?_range hj, jv_def]
theorem jh_newa (cx : jcx D dA b b0 L xs p s m args meth c mi) (hW : jWd D dA b b0 h H) (hS : va_S (fun q => b0 ≤ q) s.heap H locs) {at9 : ArrayType} {t : Nat} (ht : t < jm_nat) (hty : newarray.typeOf at9 = jm_aty t) (har : Cond.arrayClass (jm_aty t) ∈ jm_gw) (hdv : defaultValue (jm_aty t) = .int 0) (hcb : componentBytes (jm_aty t) ≤ 4) (hra : ∀ (U : State) (cA : ClassId), va_RA U cA (jm_aty t) → U.vm.findClass ("[" ++ (jm_aty t).toString) = some cA) {n : Int32} (hn : ¬ n < 0) (hn2 : n.toNatClampNeg ≤ 100000) (hd : decode (jm_code mi) pc = .ok (.newarray at9, 2)) (hcells : cells + 1 ≤ R.cells) (hslots : slots + n.toNatClampNeg ≤ R.slots)
    (kk : jKH p l e R s m args below meth c (cells + 1) (slots + n.toNatClampNeg) Q D dA b b0 (h ++ [.inl (t, n.toNatClampNeg, .inl (fun _ => 0))]) (F0 m (pc + 2) ls (.ref (b0 + h.length) :: rest))) : W p l e R s m args below meth c H locs cells slots Q (F0 m pc ls (.int n :: rest)) := by
  obtain ⟨hx, hb, hml, hown, hts, hK, hov, hin, hX, hbs⟩ := cx
  have hbytes : n.toNatClampNeg * componentBytes (jm_aty t) ≤ 536870912 := Nat.le_trans (Nat.mul_le_mul hn2 hcb) (by decide)
  refine va_newaK hx hb (by rw [hty]; exact hts _ har) rfl hd rfl hn rfl (by rw [hty]; exact hbytes) hcells hslots hW.2 fun H1 cA e1 z1 o1 hAr hNm => ?_
  have z1' : H1.size = H.size + 1 := by rw [z1, hW.2]
  have o1' : ∀ q : Nat, q < H.size → H1[q]? = H[q]? := fun q hq => o1 q (by rw [← hW.2]; exact hq)
  rw [hty] at e1 hNm
  have hcA : cA = dA t := Option.some.inj (hNm.symm.trans (hra s _ (hK.2 t _ (jtys_get ht)).2))
  subst hcA
  refine kk H1 _ (hW.push ?_ z1' o1') (jS_push hS z1' o1')
  show H1[b0 + h.length]? = some (arrV (dA t) n.toNatClampNeg (fun _ => .int 0))
  rw [e1, hdv]
theorem jh_newq (cx : jcx D dA b b0 L xs p s m args meth c mi) (hW : jWd D dA b b0 h H) (hS : va_S (fun q => b0 ≤ q) s.heap H locs) {idx t : Nat} (hq : jm_anew (jm_own mi) idx = some t) {n : Int32} (hn : ¬ n < 0) (hn2 : n.toNatClampNeg ≤ 100000) (hd : decode (jm_code mi) pc = .ok (.anewarray idx, 3)) (hcells : cells + 1 ≤ R.cells) (hslots : slots + n.toNatClampNeg ≤ R.slots)
    (kk : jKH p l e R s m args below meth c (cells + 1) (slots + n.toNatClampNeg) Q D dA b b0 (h ++ [.inl (t, n.toNatClampNeg, .inr (.inr (.inr (.inr (fun _ => none)))))]) (F0 m (pc + 3) ls (.ref (b0 + h.length) :: rest))) : W p l e R s m args below meth c H locs cells slots Q (F0 m pc ls (.int n :: rest)) := by
  obtain ⟨hx, hb, hml, hown, hts, hK, hov, hin, hX, hbs⟩ := cx
  obtain ⟨t2, ht, C, hty, hC, hlk⟩ := jm_anew_ok _ _ _ hq
  refine W.anew hx hb hown (hts _ hlk) (va_AO.use (hov.1 C hC)) rfl hd rfl hn (by omega) hcells hslots fun cA kA comp f1 f2 f3 f4 => ?_
  generalize hH1 : H.push ({ cls := cA, slots := Array.replicate n.toNatClampNeg .null, vm := .none } : Cell) = H1
  have z1 : H1.size = H.size + 1 := by rw [← hH1, Array.size_push]
  have e1 : H1[H.size]? = some (arrV cA n.toNatClampNeg (fun _ => .null)) := by rw [← hH1, Array.getElem?_push_size, ← arrV_new]
  have o1 : ∀ q : Nat, q < H.size → H1[q]? = H[q]? := fun q hq => by rw [← hH1, Array.getElem?_push, if_neg (Nat.ne_of_lt hq)]
  have hK2 := (hK.2 t _ (jtys_get ht)).2
  simp only [hty] at hK2
  obtain ⟨kA9, comp9, k1, k2, k3, k4⟩ := hK2
  have hcA : cA = dA t := Option.some.inj (f1.symm.trans k4)
  subst hcA
  have := kk H1 locs (hW.push (c := .inl (t, n.toNatClampNeg, .inr (.inr (.inr (.inr (fun _ => none)))))) (by
    show H1[b0 + h.length]? = some (arrV (dA t) n.toNatClampNeg (fun _ => va_rf (Option.map (fun a => b0 + a) none)))
    rw [← hW.2, e1]
    rfl) z1 o1) (jS_push hS z1 o1)
  rw [hW.2]
  exact this
theorem jh_oi (cx : jcx D dA b b0 L xs p s m args meth c mi) (hl : ls.size = jm_maxL mi) {idx : Nat} {a : Nat} (ho : jm_oi (jm_own mi) idx = true) (hd : decode (jm_code mi) pc = .ok (.invokespecial idx, 3)) (hfr : 1 ≤ R.frames) (hlo : 40 ≤ R.locals) (hcat : (rest.map fun v => v.category).sum ≤ 8)
    (kk : W p l e R s m args below meth c H locs cells slots Q (F0 m (pc + 3) ls rest)) : W p l e R s m args below meth c H locs cells slots Q (F0 m pc ls (.ref a :: rest)) := by
  obtain ⟨hx, hb, hml, hown, hts, hK, hov, hin, hX, hbs⟩ := cx
  obtain ⟨g1, g2, g3⟩ := jm_oi_ok _ _ ho
  exact W.objInit hx hb hown (hts _ g1) (hts _ g2) (hts _ g3) rfl (by rw [hml]; exact hl) rfl hd hfr (by show 2 * 0 + _ + 12 ≤ _; omega) kk
theorem va_mfmod (hexec : p.tables.exec = Jvm.exec) {cc : ByteArray} (hb : c.code = cc) (hml : c.maxLocals = ls.size) {own : String} {index : Nat} (hown : s.vm.findClass own = some m.cls) (hlink : (Cond.methodLink own index Jvm.Free.MCB.FloorMod.yN).before args s = true) (hstat : (Cond.static Jvm.Free.MCB.FloorMod.yN).before args s = true) (hini : (Cond.initialized "java/lang/Math").before args s = true) (hcode : Jvm.Free.MCB.FloorMod.tab.before args s = true)
    (hframes : 1 ≤ R.frames) (hlocals : 40 ≤ R.locals) (hcat : (rest.map fun v => v.category).sum ≤ 8) (hc : cells ≤ R.cells) (hs : slots ≤ R.slots) {x y : Int32} (hy : y ≠ 0) (hdg : decode cc pc = .ok (.invokestatic index, 3))
    (kk : W p l e R s m args below meth c H locs cells slots Q (F0 m (pc + 3) ls (.int (Jvm.Free.MCB.fmod x y) :: rest))) : W p l e R s m args below meth c H locs cells slots Q (F0 m pc ls (.int y :: .int x :: rest)) := by
  intro T hT X
  obtain ⟨v, vm₁, ⟨U', l2, c2, s2⟩, hW₁, X', ⟨⟨e1, e2, e3, e4⟩, hq⟩, st⟩ := callS X hexec (own := own) (index := index) (y := Jvm.Free.MCB.FloorMod.yN) (bytes := Jvm.Free.MCB.FloorMod.yB) (maxL := 3) (ret := some .int) hown hlink hstat hini hcode (by decide) (W := 8) (Jvm.Free.MCB.FloorMod.pays (len := 3) (W := 8) hframes (by omega) hcode hini) (g := F0 m pc ls (.int y :: .int x :: rest)) rfl (by rw [hml]) (argsL := [.int x, .int y]) (rest := rest) (fun sig hs => by
      have h : parseMethodDescriptor "(II)I" = some { parameters := [.int, .int], returnType := some .int } := by decide +kernel
      rw [show Jvm.Free.MCB.FloorMod.yN.desc = "(II)I" from rfl, h] at hs
      rw [← Option.some.inj hs]
      rfl) rfl (by show 2 * 0 + _ ≤ 8; omega) (by rw [hb]; exact hdg) (fun vm₁ hW => ⟨hc, hs, (x, y), rfl, hy⟩)
  dsimp only [Pt.U, Pt.locs, Pt.cells, Pt.slots] at X' e1 e2 e3 e4 st
  have hv := hq (x, y) ⟨rfl, hy⟩
  subst hv
  subst e2; subst e3; subst e4
  obtain ⟨t, a1, b1⟩ := kk U' (e1.trans hT) X'
  exact ⟨t, st t a1, b1⟩
theorem jh_mm (cx : jcx D dA b b0 L xs p s m args meth c mi) (hl : ls.size = jm_maxL mi) {idx v : Nat} {x y : Int32} (ho : jm_mm (jm_own mi) idx = some v) (hd : decode (jm_code mi) pc = .ok (.invokestatic idx, 3)) (hfr : 1 ≤ R.frames) (hlo : 40 ≤ R.locals) (hcat : (rest.map fun v => v.category).sum ≤ 8) (hy : v = 2 → y ≠ 0) (hc : cells ≤ R.cells) (hs : slots ≤ R.slots)
    (kk : W p l e R s m args below meth c H locs cells slots Q (F0 m (pc + 3) ls (.int (jmmv v x y) :: rest))) : W p l e R s m args below meth c H locs cells slots Q (F0 m pc ls (.int y :: .int x :: rest)) := by
  obtain ⟨hx, hb, hml, hown, hts, hK, hov, hin, hX, hbs⟩ := cx
  have hlk := jm_mm_ok _ _ _ ho
  unfold jmmv at kk
  by_cases hv : v = 1
  · rw [if_pos hv] at hlk kk
    exact va_mmax hx hb (by rw [hml]; exact hl.symm) hown (hts _ hlk) (hts _ jm_max_ok.1) (hts _ jm_max_ok.2.1) (hts _ jm_max_ok.2.2) hfr (by omega) hc hs hd kk
  · rw [if_neg hv] at hlk kk
    by_cases hv2 : v = 2
    · rw [if_pos hv2] at hlk kk
      exact va_mfmod hx hb (by rw [hml]; exact hl.symm) hown (hts _ hlk) (hts _ jm_fmd_ok.1) (hts _ jm_fmd_ok.2.1) (hts _ jm_fmd_ok.2.2) hfr hlo hcat hc hs (hy hv2) hd kk
    · rw [if_neg hv2] at hlk kk
      exact va_mmin hx hb (by rw [hml]; exact hl.symm) hown (hts _ hlk) (hts _ jm_min_ok.1) (hts _ jm_min_ok.2.1) (hts _ jm_min_ok.2.2) hfr (by omega) hc hs hd kk
end JN
