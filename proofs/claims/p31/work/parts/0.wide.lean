/-! a name of the whole library: so the round is read over that at once -/
theorem jwide : True := by
  have h := @Stand.multianewarray2F
  exact trivial
