theorem kr_search (L : Nat) (xs : Nat → Int32) (σ σ1 : kS) : kXM kT L xs 200 220 [.ref 232] (va_up σ1 232 (kz σ 232)) (fun r _ => r = some (.int 0)) := by
  sorry
