/-- contents with the objects' own numbers as the constructors left them -/
def kz (σ : kS) : kS := fun k j => match kT[k]? with
  | some (.inr (_, ts)) => (match (ts[j]? : Option Value) with
    | some (.int x) => x
    | _ => σ k j)
  | _ => σ k j
theorem kz_of {h : List jC} (hs : kshps kT h = true) : kof h = kz (kof h) := by
  funext k j
  unfold kz
  split
  · next ci ts hk =>
    split
    · next x hx => exact kof_obj hs hk hx
    · rfl
  · rfl
theorem kX_inl {T : List jC} {L : Nat} {xs : Nat → Int32} {d mi pc : Nat} {lv : jL} {st : List Value} {σ : kS} {Q : Option Value → kS → Prop} {i : Instr} {len y : Nat} {as rest : List Value} (hi : jm_ins mi pc = some (i, len)) (hl : jlen i = 0 ∨ len = jlen i) (he : jend mi st i = none) (hc : jcall (jm_own mi) st T i = some (y, as, rest)) (hy : kyok y as = true)
    (g : kX T L xs d y 0 (lv_args 0 as) [] σ (fun r1 σ1 => kX T L xs (d + 1) mi (pc + 3) lv (r1.toList ++ rest) σ1 Q)) : kX T L xs (d + 1) mi pc lv st σ Q := kX_cal g hi hl he hc hy (fun _ _ q => q)
/-! more -/
set_option maxRecDepth 100000 in
theorem kX_empty (L : Nat) (xs : Nat → Int32) (d : Nat) (σ : kS) (ts : List Value) (g0 : Nat → Int32) (h1 : kT[232]? = some (.inr (11, ts))) (h2 : kT[242]? = some (.inl (0, 1024, .inl g0))) (h3 : ts[11]? = some (.ref 242)) : kXM kT L xs (d + 1) 146 [.ref 232] σ (fun r σ' => r = none ∧ σ' = va_up σ 242 (fun j => if j < 1024 then -1 else σ 242 j)) := by
  intro h hE
  have ho := hE.obj h1
  obtain ⟨g, h0, hg⟩ := hE.arr h2
  have hfs : (ts.mapIdx (kval (σ 232)))[11]? = some (.ref 242) := by rw [List.getElem?_mapIdx, h3]; rfl
  refine ⟨none, _, _, jempty_ok L xs d 232 242 (ts.mapIdx (kval (σ 232))) g h hfs (by decide) ho h0, hE.set h2 ⟨rfl, rfl, fun j hj => ?_⟩, rfl, rfl⟩
  show (if j < 1024 then -1 else g j) = (if j < 1024 then -1 else σ 242 j)
  rw [if_pos hj, if_pos hj]
set_option maxRecDepth 100000 in
set_option maxHeartbeats 8000000 in
theorem kq_agent0 (L : Nat) (xs : Nat → Int32) (σ : kS) : kXM kT L xs 200 109 [.ref 0, .int 0] (kz σ) (fun r σ' => r = some (.int 0) ∧ kKeep (kz σ) σ') := by
  unfold kXM
  repeat first | refine kX_one rfl ?_ | (refine kX_cal (kX_fill L xs _ _ _ rfl (by decide)) rfl (Or.inr rfl) rfl rfl rfl ?_; intro r9 s9 q9; obtain ⟨rfl, rfl⟩ := q9) | (refine kX_cal (kX_empty L xs _ _ _ _ rfl rfl rfl) rfl (Or.inr rfl) rfl rfl rfl ?_; intro r9 s9 q9; obtain ⟨rfl, rfl⟩ := q9) | refine kX_inl rfl (Or.inr rfl) rfl rfl rfl ?_ | refine kX_ret rfl (Or.inr rfl) rfl ?_
  exact ⟨rfl, by repeat first | exact kKeep.rf | refine kKeep.up ?_ (by decide)⟩
set_option maxRecDepth 100000 in
set_option maxHeartbeats 8000000 in
theorem kq_agent1 (L : Nat) (xs : Nat → Int32) (σ : kS) : kXM kT L xs 200 109 [.ref 0, .int 1] (kz σ) (fun r σ' => r = some (.int 0) ∧ kKeep (kz σ) σ') := by
  unfold kXM
  repeat first | refine kX_one rfl ?_ | (refine kX_cal (kX_fill L xs _ _ _ rfl (by decide)) rfl (Or.inr rfl) rfl rfl rfl ?_; intro r9 s9 q9; obtain ⟨rfl, rfl⟩ := q9) | (refine kX_cal (kX_empty L xs _ _ _ _ rfl rfl rfl) rfl (Or.inr rfl) rfl rfl rfl ?_; intro r9 s9 q9; obtain ⟨rfl, rfl⟩ := q9) | refine kX_inl rfl (Or.inr rfl) rfl rfl rfl ?_ | refine kX_ret rfl (Or.inr rfl) rfl ?_
  exact ⟨rfl, by repeat first | exact kKeep.rf | refine kKeep.up ?_ (by decide)⟩
set_option maxRecDepth 100000 in
set_option maxHeartbeats 8000000 in
theorem kq_atom1 (L : Nat) (xs : Nat → Int32) (σ : kS) : kXM kT L xs 200 110 [.ref 0, .int 1] (kz σ) (fun r σ' => r = some (.int 0) ∧ kKeep (kz σ) σ') := by
  unfold kXM
  repeat first | refine kX_one rfl ?_ | (refine kX_cal (kX_fill L xs _ _ _ rfl (by decide)) rfl (Or.inr rfl) rfl rfl rfl ?_; intro r9 s9 q9; obtain ⟨rfl, rfl⟩ := q9) | (refine kX_cal (kX_empty L xs _ _ _ _ rfl rfl rfl) rfl (Or.inr rfl) rfl rfl rfl ?_; intro r9 s9 q9; obtain ⟨rfl, rfl⟩ := q9) | refine kX_inl rfl (Or.inr rfl) rfl rfl rfl ?_ | refine kX_ret rfl (Or.inr rfl) rfl ?_
  exact ⟨rfl, by repeat first | exact kKeep.rf | refine kKeep.up ?_ (by decide)⟩
set_option maxRecDepth 100000 in
set_option maxHeartbeats 8000000 in
theorem kq_atom2 (L : Nat) (xs : Nat → Int32) (σ : kS) : kXM kT L xs 200 110 [.ref 0, .int 2] (kz σ) (fun r σ' => r = some (.int 0) ∧ kKeep (kz σ) σ') := by
  unfold kXM
  repeat first | refine kX_one rfl ?_ | (refine kX_cal (kX_fill L xs _ _ _ rfl (by decide)) rfl (Or.inr rfl) rfl rfl rfl ?_; intro r9 s9 q9; obtain ⟨rfl, rfl⟩ := q9) | (refine kX_cal (kX_empty L xs _ _ _ _ rfl rfl rfl) rfl (Or.inr rfl) rfl rfl rfl ?_; intro r9 s9 q9; obtain ⟨rfl, rfl⟩ := q9) | refine kX_inl rfl (Or.inr rfl) rfl rfl rfl ?_ | refine kX_ret rfl (Or.inr rfl) rfl ?_
  exact ⟨rfl, by repeat first | exact kKeep.rf | refine kKeep.up ?_ (by decide)⟩
set_option maxRecDepth 100000 in
set_option maxHeartbeats 8000000 in
theorem kq_begin (L : Nat) (xs : Nat → Int32) (σ : kS) : kXM kT L xs 200 122 [.ref 0] (kz σ) (fun r σ' => r = some (.int 0) ∧ kKeep (kz σ) σ') := by
  unfold kXM
  repeat first | refine kX_one rfl ?_ | (refine kX_cal (kX_fill L xs _ _ _ rfl (by decide)) rfl (Or.inr rfl) rfl rfl rfl ?_; intro r9 s9 q9; obtain ⟨rfl, rfl⟩ := q9) | (refine kX_cal (kX_empty L xs _ _ _ _ rfl rfl rfl) rfl (Or.inr rfl) rfl rfl rfl ?_; intro r9 s9 q9; obtain ⟨rfl, rfl⟩ := q9) | refine kX_inl rfl (Or.inr rfl) rfl rfl rfl ?_ | refine kX_ret rfl (Or.inr rfl) rfl ?_
  exact ⟨rfl, by repeat first | exact kKeep.rf | refine kKeep.up ?_ (by decide)⟩
set_option maxRecDepth 100000 in
set_option maxHeartbeats 8000000 in
theorem kq_clear (L : Nat) (xs : Nat → Int32) (σ : kS) : kXM kT L xs 200 138 [.ref 0] (kz σ) (fun r σ' => r = some (.int 0) ∧ kKeep (kz σ) σ') := by
  unfold kXM
  repeat first | refine kX_one rfl ?_ | (refine kX_cal (kX_fill L xs _ _ _ rfl (by decide)) rfl (Or.inr rfl) rfl rfl rfl ?_; intro r9 s9 q9; obtain ⟨rfl, rfl⟩ := q9) | (refine kX_cal (kX_empty L xs _ _ _ _ rfl rfl rfl) rfl (Or.inr rfl) rfl rfl rfl ?_; intro r9 s9 q9; obtain ⟨rfl, rfl⟩ := q9) | refine kX_inl rfl (Or.inr rfl) rfl rfl rfl ?_ | refine kX_ret rfl (Or.inr rfl) rfl ?_
  exact ⟨rfl, by repeat first | exact kKeep.rf | refine kKeep.up ?_ (by decide)⟩
set_option maxRecDepth 100000 in
set_option maxHeartbeats 8000000 in
theorem kq_search (L : Nat) (xs : Nat → Int32) (σ : kS) : kXM kT L xs 200 132 [.ref 0] (kz σ) (fun r σ' => r = some (.int 0) ∧ kKeep (kz σ) σ') := by
  unfold kXM
  repeat first | refine kX_one rfl ?_ | (refine kX_cal (kX_fill L xs _ _ _ rfl (by decide)) rfl (Or.inr rfl) rfl rfl rfl ?_; intro r9 s9 q9; obtain ⟨rfl, rfl⟩ := q9) | (refine kX_cal (kX_empty L xs _ _ _ _ rfl rfl rfl) rfl (Or.inr rfl) rfl rfl rfl ?_; intro r9 s9 q9; obtain ⟨rfl, rfl⟩ := q9) | refine kX_inl rfl (Or.inr rfl) rfl rfl rfl ?_ | refine kX_ret rfl (Or.inr rfl) rfl ?_
  exact ⟨rfl, by repeat first | exact kKeep.rf | refine kKeep.up ?_ (by decide)⟩
set_option maxRecDepth 100000 in
set_option maxHeartbeats 8000000 in
theorem kr_begin (L : Nat) (xs : Nat → Int32) (σ σ1 : kS) : kXM kT L xs 200 191 [.ref 232] (va_up σ1 232 (kz σ 232)) (fun r _ => r = some (.int 0)) := by
  unfold kXM
  repeat first | refine kX_one rfl ?_ | (refine kX_cal (kX_fill L xs _ _ _ rfl (by decide)) rfl (Or.inr rfl) rfl rfl rfl ?_; intro r9 s9 q9; obtain ⟨rfl, rfl⟩ := q9) | (refine kX_cal (kX_empty L xs _ _ _ _ rfl rfl rfl) rfl (Or.inr rfl) rfl rfl rfl ?_; intro r9 s9 q9; obtain ⟨rfl, rfl⟩ := q9) | refine kX_inl rfl (Or.inr rfl) rfl rfl rfl ?_ | refine kX_ret rfl (Or.inr rfl) rfl ?_
  rfl
