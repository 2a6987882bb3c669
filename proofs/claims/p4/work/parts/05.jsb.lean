section JB
variable {p : Program} {l : Launch} {e : Env} {R : Room} {s : State} {m : MethodId} {args : Array Value} {below : List Frame} {meth : Method} {c : Code} {H : Heap} {locs : List Loc} {cells slots : Nat} {Q : State → Prop}
variable {cc : ByteArray} {b b0 k mL pc len : Nat} {ls : Array Slot} {lv : jL} {st : List Value}
theorem jq_len {i : Instr} {n : Nat} (hn : jlen i = n) (h0 : n ≠ 0) (hlen : jlen i = 0 ∨ len = jlen i) (hd : decode cc pc = .ok (i, len)) : decode cc pc = .ok (i, n) := by
  rcases hlen with h | h
  · exact absurd (hn.symm.trans h) h0
  · rw [← hn, ← h]; exact hd
theorem jb_st1i {i : Nat} {r : Nat × jL × List Value} (hs : jst1 mL pc len lv i true st = some r) : ∃ x rest, st = .int x :: rest ∧ i < mL ∧ r = (pc + len, js1 lv i (.int x), rest) := by
  unfold jst1 at hs
  split at hs <;> simp at hs
  next x rest => exact ⟨x, rest, rfl, hs.1, hs.2.symm⟩
theorem jb_st1a {i : Nat} {r : Nat × jL × List Value} (hs : jst1 mL pc len lv i false st = some r) : ∃ v rest, st = v :: rest ∧ (v = .null ∨ ∃ a, v = .ref a) ∧ i < mL ∧ r = (pc + len, js1 lv i v, rest) := by
  unfold jst1 at hs
  split at hs <;> simp at hs
  next a rest => exact ⟨_, rest, rfl, Or.inr ⟨a, rfl⟩, hs.1, hs.2.symm⟩
  next rest => exact ⟨_, rest, rfl, Or.inl rfl, hs.1, hs.2.symm⟩
theorem jb_st2 {i : Nat} {r : Nat × jL × List Value} (hs : jst2 mL pc len lv i st = some r) : ∃ x rest, st = .long x :: rest ∧ i + 1 < mL ∧ r = (pc + len, js2 lv i (.long x), rest) := by
  unfold jst2 at hs
  split at hs <;> simp at hs
  next x rest => exact ⟨x, rest, rfl, hs.1, hs.2.symm⟩

theorem jb_if (hx : p.tables.exec = Jvm.exec) (hb : c.code = cc) {cd : ClassFile.Cond} {off : Int} (hd : decode cc pc = .ok (.ifCond cd off, 3)) {x : Int32} {r : Nat × jL × List Value} (hs : jbr pc lv st off (jcmp cd x 0) = some r) (hl : lv_has ls mL (jlv b b0 lv)) (kk : jK p l e R s m args below meth c H locs cells slots Q b b0 mL r) :
    W p l e R s m args below meth c H locs cells slots Q (F0 m pc ls (.int x :: st.map (jv b b0))) := by
  unfold jbr at hs
  cases ht0 : jt pc off with
  | none => rw [ht0] at hs; cases hs
  | some t =>
    rw [ht0] at hs
    cases hs
    have ht := jt_spec ht0
    have hW := kk ls hl
    dsimp only at hW
    cases cd with
    | eq => exact lv_if_eq hx hb hd ht (fun h => by rw [show jcmp .eq x 0 = true from decide_eq_true h] at hW; exact hW) (fun h => by rw [show jcmp .eq x 0 = false from decide_eq_false h] at hW; exact hW)
    | ne => exact lv_if_ne hx hb hd ht (fun h => by rw [show jcmp .ne x 0 = true from decide_eq_true h] at hW; exact hW) (fun h => by rw [show jcmp .ne x 0 = false from decide_eq_false (fun g => g h)] at hW; exact hW)
    | lt => exact lv_if_lt hx hb hd ht (fun h => by rw [show jcmp .lt x 0 = true from decide_eq_true h] at hW; exact hW) (fun h => by rw [show jcmp .lt x 0 = false from decide_eq_false h] at hW; exact hW)
    | ge => exact lv_if_ge hx hb hd ht (fun h => by rw [show jcmp .ge x 0 = true from decide_eq_true h] at hW; exact hW) (fun h => by rw [show jcmp .ge x 0 = false from decide_eq_false h] at hW; exact hW)
    | gt => exact lv_if_gt hx hb hd ht (fun h => by rw [show jcmp .gt x 0 = true from decide_eq_true h] at hW; exact hW) (fun h => by rw [show jcmp .gt x 0 = false from decide_eq_false h] at hW; exact hW)
    | le => exact lv_if_le hx hb hd ht (fun h => by rw [show jcmp .le x 0 = true from decide_eq_true h] at hW; exact hW) (fun h => by rw [show jcmp .le x 0 = false from decide_eq_false h] at hW; exact hW)
theorem jb_icmp (hx : p.tables.exec = Jvm.exec) (hb : c.code = cc) {cd : ClassFile.Cond} {off : Int} (hd : decode cc pc = .ok (.if_icmp cd off, 3)) {x y : Int32} {r : Nat × jL × List Value} (hs : jbr pc lv st off (jcmp cd x y) = some r) (hl : lv_has ls mL (jlv b b0 lv)) (kk : jK p l e R s m args below meth c H locs cells slots Q b b0 mL r) :
    W p l e R s m args below meth c H locs cells slots Q (F0 m pc ls (.int y :: .int x :: st.map (jv b b0))) := by
  unfold jbr at hs
  cases ht0 : jt pc off with
  | none => rw [ht0] at hs; cases hs
  | some t =>
    rw [ht0] at hs
    cases hs
    have ht := jt_spec ht0
    have hW := kk ls hl
    dsimp only at hW
    cases cd with
    | eq => exact lv_icmp_eq hx hb hd ht (fun h => by rw [show jcmp .eq x y = true from decide_eq_true h] at hW; exact hW) (fun h => by rw [show jcmp .eq x y = false from decide_eq_false h] at hW; exact hW)
    | ne => exact lv_icmp_ne hx hb hd ht (fun h => by rw [show jcmp .ne x y = true from decide_eq_true h] at hW; exact hW) (fun h => by rw [show jcmp .ne x y = false from decide_eq_false (fun g => g h)] at hW; exact hW)
    | lt => exact lv_icmp_lt hx hb hd ht (fun h => by rw [show jcmp .lt x y = true from decide_eq_true h] at hW; exact hW) (fun h => by rw [show jcmp .lt x y = false from decide_eq_false h] at hW; exact hW)
    | ge => exact lv_icmp_ge hx hb hd ht (fun h => by rw [show jcmp .ge x y = true from decide_eq_true h] at hW; exact hW) (fun h => by rw [show jcmp .ge x y = false from decide_eq_false h] at hW; exact hW)
    | gt => exact lv_icmp_gt hx hb hd ht (fun h => by rw [show jcmp .gt x y = true from decide_eq_true h] at hW; exact hW) (fun h => by rw [show jcmp .gt x y = false from decide_eq_false h] at hW; exact hW)
    | le => exact lv_icmp_le hx hb hd ht (fun h => by rw [show jcmp .le x y = true from decide_eq_true h] at hW; exact hW) (fun h => by rw [show jcmp .le x y = false from decide_eq_false h] at hW; exact hW)
set_option maxHeartbeats 4000000 in
theorem ja_ok (hx : p.tables.exec = Jvm.exec) (hb : c.code = cc) (hown : s.vm.findClass (jm_cn k) = some m.cls) (hlng : ∀ (idx : Nat) (v : Int64), jm_lng k idx = some v → (Jvm.Cond.constantLong (jm_cn k) idx v).before args s = true) {i : Instr} (hlen : jlen i = 0 ∨ len = jlen i) (hd : decode cc pc = .ok (i, len)) {r : Nat × jL × List Value}
    (hs : jA k mL pc len lv st i = some r) (hl : lv_has ls mL (jlv b b0 lv)) (kk : jK p l e R s m args below meth c H locs cells slots Q b b0 mL r) :
    W p l e R s m args below meth c H locs cells slots Q (F0 m pc ls (st.map (jv b b0))) := by
  have L1 : ∀ {i : Instr} {n : Nat}, jlen i = n → n ≠ 0 → (jlen i = 0 ∨ len = jlen i) → decode cc pc = .ok (i, len) → decode cc pc = .ok (i, n) := fun a b c d => jq_len a b c d
  cases i with
  | iconst n => exact (let ⟨w, hw, hW⟩ := jp_push hs hl kk; by cases hw; exact lv_iconst hx hb (jq_len rfl (by decide) hlen hd) rfl hW)
  | bipush n => exact (let ⟨w, hw, hW⟩ := jp_push hs hl kk; by cases hw; exact lv_bipush hx hb (jq_len rfl (by decide) hlen hd) rfl hW)
  | sipush n => exact (let ⟨w, hw, hW⟩ := jp_push hs hl kk; by cases hw; exact lv_sipush hx hb (jq_len rfl (by decide) hlen hd) rfl hW)
  | lconst n => exact (let ⟨w, hw, hW⟩ := jp_push hs hl kk; by cases hw; exact lv_lconst hx hb (jq_len rfl (by decide) hlen hd) rfl hW)
  | aconst_null => exact (let ⟨w, hw, hW⟩ := jp_push hs hl kk; by cases hw; exact lv_null hx hb (jq_len rfl (by decide) hlen hd) hW)
  | ldc2_w idx => 
    obtain ⟨w, hw, hW⟩ := jp_push hs hl kk
    cases hv : jm_lng k idx with
    | none => rw [hv] at hw; cases hw
    | some v =>
      rw [hv] at hw
      cases hw
      exact lv_ldc2 hx hb hown (hlng idx v hv) (jq_len rfl (by decide) hlen hd) hW
  | iload i => 
    obtain ⟨w, hw, hW⟩ := jp_push hs hl kk
    obtain ⟨x, rfl, hx1⟩ := jp_ldi hw
    exact lv_iload hx hb (jq_len rfl (by decide) hlen hd) (jl_has hl hx1) hW
  | iload_n i => 
    obtain ⟨w, hw, hW⟩ := jp_push hs hl kk
    obtain ⟨x, rfl, hx1⟩ := jp_ldi hw
    exact lv_iload_n hx hb (jq_len rfl (by decide) hlen hd) rfl (jl_has hl hx1) hW
  | lload i => 
    obtain ⟨w, hw, hW⟩ := jp_push hs hl kk
    obtain ⟨x, rfl, hx1⟩ := jp_ldl hw
    exact lv_lload hx hb (jq_len rfl (by decide) hlen hd) (jl_has hl hx1) hW
  | lload_n i => 
    obtain ⟨w, hw, hW⟩ := jp_push hs hl kk
    obtain ⟨x, rfl, hx1⟩ := jp_ldl hw
    exact lv_lload_n hx hb (jq_len rfl (by decide) hlen hd) rfl (jl_has hl hx1) hW
  | aload i => 
    obtain ⟨w, hw, hW⟩ := jp_push hs hl kk
    obtain ⟨hx1, rfl | ⟨a, rfl⟩ | ⟨a, rfl⟩⟩ := jp_lda hw
    · exact lv_aloadN hx hb (jq_len rfl (by decide) hlen hd) (jl_has hl hx1) hW
    · exact lv_aload hx hb (jq_len rfl (by decide) hlen hd) (jl_has hl hx1) hW
    · exact lv_aload hx hb (jq_len rfl (by decide) hlen hd) (jl_has hl hx1) hW
  | aload_n i => 
    obtain ⟨w, hw, hW⟩ := jp_push hs hl kk
    obtain ⟨hx1, rfl | ⟨a, rfl⟩ | ⟨a, rfl⟩⟩ := jp_lda hw
    · exact lv_aload_nN hx hb (jq_len rfl (by decide) hlen hd) rfl (jl_has hl hx1) hW
    · exact lv_aload_n hx hb (jq_len rfl (by decide) hlen hd) rfl (jl_has hl hx1) hW
    · exact lv_aload_n hx hb (jq_len rfl (by decide) hlen hd) rfl (jl_has hl hx1) hW
  | istore i => 
    obtain ⟨x, rest, rfl, hi, rfl⟩ := jb_st1i hs
    exact lv_istore hx hb (jq_len rfl (by decide) hlen hd) hl hi (jlv_js1 b b0 lv _ (.int x)) (fun ls' h' => kk ls' h')
  | istore_n i => 
    obtain ⟨x, rest, rfl, hi, rfl⟩ := jb_st1i hs
    exact lv_istore_n hx hb (jq_len rfl (by decide) hlen hd) rfl hl hi (jlv_js1 b b0 lv _ (.int x)) (fun ls' h' => kk ls' h')
  | astore i => 
    obtain ⟨v, rest, rfl, rfl | ⟨a, rfl⟩, hi, rfl⟩ := jb_st1a hs
    · exact lv_astoreN hx hb (jq_len rfl (by decide) hlen hd) hl hi (jlv_js1 b b0 lv _ .null) (fun ls' h' => kk ls' h')
    · exact lv_astore hx hb (jq_len rfl (by decide) hlen hd) hl hi (jlv_js1 b b0 lv _ (.ref a)) (fun ls' h' => kk ls' h')
  | astore_n i => 
    obtain ⟨v, rest, rfl, rfl | ⟨a, rfl⟩, hi, rfl⟩ := jb_st1a hs
    · exact lv_astore_nN hx hb (jq_len rfl (by decide) hlen hd) rfl hl hi (jlv_js1 b b0 lv _ .null) (fun ls' h' => kk ls' h')
    · exact lv_astore_n hx hb (jq_len rfl (by decide) hlen hd) rfl hl hi (jlv_js1 b b0 lv _ (.ref a)) (fun ls' h' => kk ls' h')
  | lstore i => 
    obtain ⟨x, rest, rfl, hi, rfl⟩ := jb_st2 hs
    exact lv_lstore hx hb (jq_len rfl (by decide) hlen hd) hl hi (jlv_js2 b b0 lv _ (.long x)) (fun ls' h' => kk ls' h')
  | lstore_n i => 
    obtain ⟨x, rest, rfl, hi, rfl⟩ := jb_st2 hs
    exact lv_lstore_n hx hb (jq_len rfl (by decide) hlen hd) rfl hl hi (jlv_js2 b b0 lv _ (.long x)) (fun ls' h' => kk ls' h')
  | iinc i n => 
    simp only [jA] at hs
    split at hs
    · next x hx1 =>
      split at hs
      · next hi =>
        cases hs
        obtain ⟨x', e', hx2⟩ := jp_ldi hx1
        cases e'
        obtain ⟨k9, hk9⟩ := List.getElem?_of_mem (List.mem_map.mpr ⟨(i, Value.int x), jl_mem hx2, rfl⟩ : (i, jv b b0 (.int x)) ∈ jlv b b0 lv)
        exact lv_iinc hx hb (jq_len rfl (by decide) hlen hd) hl hk9 rfl hi (jlv_js1 b b0 lv _ (.int _)) (fun ls' h' => kk ls' h')
      · cases hs
    · cases hs
  | iadd => exact jp_bin hs hl kk (fun x y rest h => lv_iadd hx hb (jq_len rfl (by decide) hlen hd) h)
  | isub => exact jp_bin hs hl kk (fun x y rest h => lv_isub hx hb (jq_len rfl (by decide) hlen hd) h)
  | imul => exact jp_bin hs hl kk (fun x y rest h => lv_imul hx hb (jq_len rfl (by decide) hlen hd) h)
  | iand => exact jp_bin hs hl kk (fun x y rest h => lv_iand hx hb (jq_len rfl (by decide) hlen hd) h)
  | ior => exact jp_bin hs hl kk (fun x y rest h => lv_ior hx hb (jq_len rfl (by decide) hlen hd) h)
  | ixor => exact jp_bin hs hl kk (fun x y rest h => lv_ixor hx hb (jq_len rfl (by decide) hlen hd) h)
  | ishl => exact jp_bin hs hl kk (fun x y rest h => lv_ishl hx hb (jq_len rfl (by decide) hlen hd) h)
  | ishr => exact jp_bin hs hl kk (fun x y rest h => lv_ishr hx hb (jq_len rfl (by decide) hlen hd) h)
  | iushr => exact jp_bin hs hl kk (fun x y rest h => lv_iushr hx hb (jq_len rfl (by decide) hlen hd) rfl h)
  | ladd => exact jp_bil hs hl kk (fun x y rest h => lv_ladd hx hb (jq_len rfl (by decide) hlen hd) h)
  | lmul => exact jp_bil hs hl kk (fun x y rest h => lv_lmul hx hb (jq_len rfl (by decide) hlen hd) h)
  | idiv => 
    simp only [jA] at hs
    split at hs
    · split at hs
      · cases hs
      · next hy =>
        cases hs
        exact lv_idiv hx hb (jq_len rfl (by decide) hlen hd) hy (kk ls hl)
    · cases hs
  | irem => 
    simp only [jA] at hs
    split at hs
    · split at hs
      · cases hs
      · next hy =>
        cases hs
        exact lv_irem hx hb (jq_len rfl (by decide) hlen hd) hy (kk ls hl)
    · cases hs
  | ineg => 
    simp only [jA] at hs
    split at hs
    · cases hs
      exact lv_ineg hx hb (jq_len rfl (by decide) hlen hd) (kk ls hl)
    · cases hs
  | i2l => 
    simp only [jA] at hs
    split at hs
    · cases hs
      exact lv_i2l hx hb (jq_len rfl (by decide) hlen hd) rfl (kk ls hl)
    · cases hs
  | l2i => 
    simp only [jA] at hs
    split at hs
    · cases hs
      exact lv_l2i hx hb (jq_len rfl (by decide) hlen hd) rfl (kk ls hl)
    · cases hs
  | lcmp => 
    simp only [jA] at hs
    split at hs
    · cases hs
      exact W.lcmp hx hb (jq_len rfl (by decide) hlen hd) (kk ls hl)
    · cases hs
  | dup => 
    simp only [jA] at hs
    split at hs
    · split at hs
      · next hc =>
        cases hs
        exact lv_dup hx hb (jq_len rfl (by decide) hlen hd) ((jv_cat b b0 _).trans hc) (kk ls hl)
      · cases hs
    · cases hs
  | pop => 
    simp only [jA] at hs
    split at hs
    · split at hs
      · next hc =>
        cases hs
        exact lv_pop hx hb (jq_len rfl (by decide) hlen hd) ((jv_cat b b0 _).trans hc) (kk ls hl)
      · cases hs
    · cases hs
  | dup2 => 
    simp only [jA] at hs
    split at hs
    · split at hs
      · next hc =>
        cases hs
        exact lv_dup2_11 hx hb (jq_len rfl (by decide) hlen hd) ((jv_cat b b0 _).trans hc.1) ((jv_cat b b0 _).trans hc.2) (kk ls hl)
      · cases hs
    · cases hs
  | ifCond cd off => 
    simp only [jA] at hs
    split at hs
    · exact jb_if hx hb (jq_len rfl (by decide) hlen hd) hs hl kk
    · cases hs
  | if_icmp cd off => 
    simp only [jA] at hs
    split at hs
    · exact jb_icmp hx hb (jq_len rfl (by decide) hlen hd) hs hl kk
    · cases hs
  | goto off => 
    obtain ⟨t, ht, hW⟩ := jp_go hs hl kk
    exact lv_goto hx hb (jq_len rfl (by decide) hlen hd) ht hW
  | ifnull off => 
    simp only [jA] at hs
    split at hs
    · obtain ⟨t, ht, hW⟩ := jp_go hs hl kk
      exact lv_ifnullN hx hb (jq_len rfl (by decide) hlen hd) ht hW
    · cases hs
      exact lv_ifnull hx hb (jq_len rfl (by decide) hlen hd) (kk ls hl)
    · cases hs
  | ifnonnull off => 
    simp only [jA] at hs
    split at hs
    · obtain ⟨t, ht, hW⟩ := jp_go hs hl kk
      exact lv_ifnonnull hx hb (jq_len rfl (by decide) hlen hd) ht hW
    · cases hs
      exact lv_ifnonnullN hx hb (jq_len rfl (by decide) hlen hd) (kk ls hl)
    · cases hs
  | tableswitch dflt lo hi offs => 
    simp only [jA] at hs
    split at hs
    · split at hs
      · next hc =>
        obtain ⟨t, ht, hW⟩ := jp_go hs hl kk
        exact lv_tableOut hx hb hd hc ht hW
      · next hc =>
        split at hs
        · next off ho =>
          obtain ⟨t, ht, hW⟩ := jp_go hs hl kk
          exact lv_tableIn hx hb hd (fun h => hc (Or.inl h)) (fun h => hc (Or.inr h)) ho ht hW
        · cases hs
    · cases hs
  | _ => cases hs
end JB
