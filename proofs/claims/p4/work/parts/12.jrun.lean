theorem jblind {D : va_G} {dA : Nat → ClassId} {b b0 : Nat} {as : List Value} {h : List jC} : FrameBlind (jPc D dA b b0 as h) := by
  intro a U g mk q
  obtain ⟨q1, q2, q3, q4, q5, q6⟩ := q
  refine ⟨q1, q2, va_K.moved (u := U) (U := U.calling g mk a) (Vm.Alike.refl U.vm) q3, fun C hC => (q4 C hC).moved (u := U) (U := U.calling g mk a) (Vm.Alike.refl U.vm), jAO_moved (u := U) (U := U.calling g mk a) (Vm.Alike.refl U.vm) q5, fun w hw => ?_⟩
  obtain ⟨a9, i9, x9, h9, rfl⟩ := jm_nest_ok w hw
  exact va_Nw.same rfl rfl (q6 _ hw)
section JRUN
variable {p : Program} {l : Launch} {e : Env} {R : Room} {s : State} {m : MethodId} {args : Array Value} {below : List Frame} {meth : Method} {c : Code} {H : Heap} {locs : List Loc} {cells slots : Nat} {Q : State → Prop}
variable {D : va_G} {dA : Nat → ClassId} {b b0 L mi pc len : Nat} {xs : Nat → Int32} {ls : Array Slot} {lv : jL} {st rest : List Value} {h h1 : List jC} {r : Option Value} {mc ms : Nat}
theorem jgo_call {a : Array Value} {st0 rest0 : List Value} (hr : va_Run p l e R s m args below meth c H locs cells slots mc ms (F0 m pc ls st0) rest0 (jQc D dA b b0 r h1 a) (fun q => b0 ≤ q)) (hS : va_S (fun q => b0 ≤ q) s.heap H locs)
    (kk : jKH p l e R s m args below meth c (cells + mc) (slots + ms) Q D dA b b0 h1 (F0 m (pc + 3) ls ((r.map (jv b b0)).toList ++ rest0))) : W p l e R s m args below meth c H locs cells slots Q (F0 m pc ls st0) := by
  intro T hT X
  obtain ⟨v, st₀, t, T', L9, h0, X', hL, e1, e2, ⟨hv, hWd, hz, hk⟩, step⟩ := hr T hT X
  cases hv
  rw [h0] at hz hk
  obtain ⟨t2, a1, b1⟩ := kk T'.heap (locs ++ L9) (by rw [e1]; exact hWd) ⟨Nat.le_trans hS.1 (by rw [e1]; exact hz), fun q q1 q2 => by rw [e1, hk q (Nat.lt_of_lt_of_le q1 hS.1) q2]; exact hS.2.1 q q1 q2, fun q hq => by
      rcases List.mem_append.mp hq with z | z
      · exact hS.2.2 q z
      · exact hL q z⟩ T' rfl X'
  exact ⟨t2, step t2 a1, b1⟩
set_option maxHeartbeats 1000000 in
theorem jcall_ok (cx : jcx D dA b b0 L xs p s m args meth c mi) (hl : ls.size = jm_maxL mi) (hW : jWd D dA b b0 h H) (hS : va_S (fun q => b0 ≤ q) s.heap H locs) {i : Instr} (hlen : jlen i = 0 ∨ len = jlen i) (hd : decode (jm_code mi) pc = .ok (i, len)) {y d : Nat} {as : List Value} (hc : jcall (jm_own mi) st h i = some (y, as, rest)) (hy0 : y ≠ 0) (hy : y < jm_n)
    (hM : Met l (jm_nm y) (jws y) (jroom d mc ms) (jPc D dA b b0 as h) (jQc D dA b b0 r h1) mc ms (fun q => b0 ≤ q)) (hfr : d + 1 ≤ R.frames) (hlo : 40 * (d + 1) ≤ R.locals) (hcm : cells + mc ≤ R.cells) (hsm : slots + ms ≤ R.slots)
    (kk : jKH p l e R s m args below meth c (cells + mc) (slots + ms) Q D dA b b0 h1 (F0 m (pc + 3) ls ((r.toList ++ rest).map (jv b b0)))) : W p l e R s m args below meth c H locs cells slots Q (F0 m pc ls (st.map (jv b b0))) := by
  obtain ⟨hx, hb, hml, hown, hts, hK, hov, hin, hX, hbs⟩ := cx
  obtain ⟨y1, y2, y3, y4, y5, y6, y7⟩ := jm_y_ok y hy0 hy
  have hRo : (jroom d mc ms).frames + 1 ≤ R.frames ∧ 8 + (jm_maxL y + 11) + (jroom d mc ms).locals ≤ R.locals := ⟨hfr, by show 8 + (jm_maxL y + 11) + 40 * d ≤ _; omega⟩
  have kk2 : jKH p l e R s m args below meth c (cells + mc) (slots + ms) Q D dA b b0 h1 (F0 m (pc + 3) ls ((r.map (jv b b0)).toList ++ rest.map (jv b b0))) := by
    have e9 : (r.toList ++ rest).map (jv b b0) = (r.map (jv b b0)).toList ++ rest.map (jv b b0) := by cases r <;> simp
    rw [← e9]; exact kk
  have hcat : ∀ v : List Value, (v.map fun v => v.category).sum ≤ 8 → 2 * (F0 m pc ls (st.map (jv b b0))).monitorRoom + ((v.map (jv b b0)).map fun v => v.category).sum ≤ 8 := fun v hv => by
    show 2 * 0 + _ ≤ 8
    rw [List.map_map]
    have : ((fun v => Value.category v) ∘ jv b b0) = fun v => v.category := funext fun v => jv_cat b b0 v
    rw [this]
    omega
  have hPc : ∀ U : State, U.heap = H → s.WarmedH U.vm → jPc D dA b b0 as h (as.map (jv b b0)).toArray U := fun U hU hWm => ⟨rfl, by rw [hU]; exact hW, va_K.moved hWm.alike hK, jov_moved hWm hov⟩
  cases i with
  | invokevirtual idx =>
    simp only [jcall] at hc
    split at hc
    · next kd y' n hm =>
      split at hc
      · next hkd =>
        split at hc
        · next a rest' hdr =>
          split at hc
          · next ci fs ha =>
            split at hc
            · next hcc =>
              cases hc
              obtain ⟨m1, m2, m3, m4, m5, m6⟩ := jm_mth_ok _ _ _ _ _ hm
              obtain ⟨k1, k2, k3⟩ := m4 hkd.1
              have hst : st = st.take n ++ (.ref a :: rest) := by rw [← hdr, List.take_append_drop]
              have hstack : st.map (jv b b0) = ((st.take n).reverse.map (jv b b0)).reverse ++ .ref (b0 + a) :: rest.map (jv b b0) := by
                conv => lhs; rw [hst]
                rw [List.map_append, List.map_reverse, List.reverse_reverse]
                rfl
              have hnl : ((st.take n).reverse.map (jv b b0)).length = n := by
                rw [List.length_map, List.length_reverse, List.length_take]; omega
              obtain ⟨q9, hq9, hq8⟩ : ∃ q9, vwCl[ci]? = some q9 ∧ q9.1 = (jm_nm y).cls := by
                rw [hcc.1] at k3
                cases hv9 : vwCl[ci]? with
                | none => rw [hv9] at k3; cases k3
                | some q9 => rw [hv9] at k3; exact ⟨q9, rfl, Option.some.inj k3⟩
              have hrec := va_recv hK hW.1 hq9 (jw_get ha)
              rw [hq8] at hrec
              rcases hkd.1 with rfl | rfl
              · exact jgo_call (va_runV (As := (st.take n).reverse.map (jv b b0)) (rest := rest.map (jv b b0)) (g := F0 m pc ls (st.map (jv b b0))) (Ts := jm_gw) (C := (jm_nm y).cls) ⟨hx, hb, hml, hown, hts⟩ hM ⟨callB_of n hts (jws_good hy0 hy) rfl rfl rfl (hts _ y2) (hts _ (m2 (Or.inl rfl))) ⟨y5.1, y5.2, m1⟩ hRo, hts _ k1, hts _ k2⟩ ⟨jblind, hrec, hPc⟩ rfl hnl hl hstack (hcat _ hcc.2) (jq_len rfl (by decide) hlen hd) ⟨hcm, hsm⟩) hS kk2
              · exact jgo_call (va_runVN (As := (st.take n).reverse.map (jv b b0)) (rest := rest.map (jv b b0)) (g := F0 m pc ls (st.map (jv b b0))) (Ts := jm_gw) (C := (jm_nm y).cls) ⟨hx, hb, hml, hown, hts⟩ hM ⟨va_cnB n hts (jws_good hy0 hy) rfl rfl rfl (hov.2.2 _ (m3 (Or.inl rfl))) (hts _ y2) ⟨y5.1, y5.2, m1⟩ hRo, hts _ k1, hts _ k2⟩ ⟨jblind, hrec, hPc⟩ rfl hnl hl hstack (hcat _ hcc.2) (jq_len rfl (by decide) hlen hd) ⟨hcm, hsm⟩) hS kk2
            · cases hc
          · cases hc
        · cases hc
      · cases hc
    · cases hc
  | invokespecial idx =>
    simp only [jcall] at hc
    split at hc
    · next kd y' n hm =>
      split at hc
      · next hkd =>
        split at hc
        · next a rest' hdr =>
          split at hc
          · next hcc =>
            cases hc
            obtain ⟨m1, m2, m3, m4, m5, m6⟩ := jm_mth_ok _ _ _ _ _ hm
            obtain ⟨k1, k2, k3⟩ := m5 hkd.1
            have hst : st = st.take n ++ (.ref a :: rest) := by rw [← hdr, List.take_append_drop]
            have hstack : st.map (jv b b0) = ((st.take n).reverse.map (jv b b0)).reverse ++ .ref (b0 + a) :: rest.map (jv b b0) := by
              conv => lhs; rw [hst]
              rw [List.map_append, List.map_reverse, List.reverse_reverse]
              rfl
            have hnl : ((st.take n).reverse.map (jv b b0)).length = n := by
              rw [List.length_map, List.length_reverse, List.length_take]; omega
            have hwq : jws y = Cond.code (jm_nm y) (jm_code y) (jm_maxL y) none :: jm_gw := by unfold jws; rw [k3]
            rcases hkd.1 with rfl | rfl
            · exact jgo_call (va_runI (As := (st.take n).reverse.map (jv b b0)) (rest := rest.map (jv b b0)) (g := F0 m pc ls (st.map (jv b b0))) (Ts := jm_gw) ⟨hx, hb, hml, hown, hts⟩ hM ⟨callB_of n hts (jws_good hy0 hy) hwq rfl rfl (hts _ y2) (hts _ (m2 (Or.inr (Or.inl rfl)))) ⟨y5.1, y5.2, m1⟩ hRo, k2, hts _ k1⟩ ⟨jblind, hPc⟩ rfl hnl hl hstack (hcat _ hcc) (jq_len rfl (by decide) hlen hd) ⟨hcm, hsm⟩) hS kk2
            · exact jgo_call (va_runIN (As := (st.take n).reverse.map (jv b b0)) (rest := rest.map (jv b b0)) (g := F0 m pc ls (st.map (jv b b0))) (Ts := jm_gw) ⟨hx, hb, hml, hown, hts⟩ hM ⟨va_cnB n hts (jws_good hy0 hy) hwq rfl rfl (hov.2.2 _ (m3 (Or.inr (Or.inl rfl)))) (hts _ y2) ⟨y5.1, y5.2, m1⟩ hRo, k2, hts _ k1⟩ ⟨jblind, hPc⟩ rfl hnl hl hstack (hcat _ hcc) (jq_len rfl (by decide) hlen hd) ⟨hcm, hsm⟩) hS kk2
          · cases hc
        · cases hc
      · cases hc
    · cases hc
  | invokestatic idx =>
    simp only [jcall] at hc
    split at hc
    · next kd y' n hm =>
      split at hc
      · next hkd =>
        cases hc
        obtain ⟨m1, m2, m3, m4, m5, m6⟩ := jm_mth_ok _ _ _ _ _ hm
        have k1 := m6 hkd.1
        have hstack : st.map (jv b b0) = ((st.take n).reverse.map (jv b b0)).reverse ++ (st.drop n).map (jv b b0) := by
          conv => lhs; rw [← List.take_append_drop n st]
          rw [List.map_append, List.map_reverse, List.reverse_reverse]
        have hnl : ((st.take n).reverse.map (jv b b0)).length = n := by
          rw [List.length_map, List.length_reverse, List.length_take]; omega
        rcases hkd.1 with rfl | rfl
        · exact jgo_call (va_runS (As := (st.take n).reverse.map (jv b b0)) (rest := (st.drop n).map (jv b b0)) (g := F0 m pc ls (st.map (jv b b0))) (Ts := jm_gw) ⟨hx, hb, hml, hown, hts⟩ hM ⟨callB_of n hts (jws_good hy0 hy) rfl rfl rfl (hts _ y2) (hts _ (m2 (Or.inr (Or.inr rfl)))) ⟨y5.1, y5.2, m1⟩ hRo, hts _ k1⟩ ⟨jblind, hPc⟩ rfl hnl hl hstack (hcat _ hkd.2.2) (jq_len rfl (by decide) hlen hd) ⟨hcm, hsm⟩) hS kk2
        · exact jgo_call (va_runSN (As := (st.take n).reverse.map (jv b b0)) (rest := (st.drop n).map (jv b b0)) (g := F0 m pc ls (st.map (jv b b0))) (Ts := jm_gw) ⟨hx, hb, hml, hown, hts⟩ hM ⟨va_cnB n hts (jws_good hy0 hy) rfl rfl rfl (hov.2.2 _ (m3 (Or.inr (Or.inr rfl)))) (hts _ y2) ⟨y5.1, y5.2, m1⟩ hRo, hts _ k1, trivial⟩ ⟨jblind, hPc⟩ rfl hnl hl hstack (hcat _ hkd.2.2) (jq_len rfl (by decide) hlen hd) ⟨hcm, hsm⟩) hS kk2
      · cases hc
    · cases hc
  | _ => cases hc
end JRUN
