theorem jd_app {c : ByteArray} {a b : List (Nat × Instr × Nat)} (h1 : ∀ e ∈ a, decode c e.1 = .ok e.2) (h2 : ∀ e ∈ b, decode c e.1 = .ok e.2) : ∀ e ∈ a ++ b, decode c e.1 = .ok e.2 := fun e h => (List.mem_append.mp h).elim (h1 e) (h2 e)
set_option maxRecDepth 100000 in
theorem jd_0_0 : ∀ e ∈ jt_0_0, decode cL_law e.1 = .ok e.2 := by decide +kernel
set_option maxRecDepth 100000 in
theorem jd_0_1 : ∀ e ∈ jt_0_1, decode cL_law e.1 = .ok e.2 := by decide +kernel
set_option maxRecDepth 100000 in
theorem jd_0_2 : ∀ e ∈ jt_0_2, decode cL_law e.1 = .ok e.2 := by decide +kernel
set_option maxRecDepth 100000 in
theorem jd_0_3 : ∀ e ∈ jt_0_3, decode cL_law e.1 = .ok e.2 := by decide +kernel
set_option maxRecDepth 100000 in
theorem jd_0_4 : ∀ e ∈ jt_0_4, decode cL_law e.1 = .ok e.2 := by decide +kernel
set_option maxRecDepth 100000 in
theorem jd_0_5 : ∀ e ∈ jt_0_5, decode cL_law e.1 = .ok e.2 := by decide +kernel
set_option maxRecDepth 100000 in
theorem jd_0_6 : ∀ e ∈ jt_0_6, decode cL_law e.1 = .ok e.2 := by decide +kernel
set_option maxRecDepth 100000 in
theorem jd_0_7 : ∀ e ∈ jt_0_7, decode cL_law e.1 = .ok e.2 := by decide +kernel
set_option maxRecDepth 100000 in
theorem jd_0_8 : ∀ e ∈ jt_0_8, decode cL_law e.1 = .ok e.2 := by decide +kernel
set_option maxRecDepth 100000 in
theorem jd_0_9 : ∀ e ∈ jt_0_9, decode cL_law e.1 = .ok e.2 := by decide +kernel
set_option maxRecDepth 100000 in
theorem jd_0_10 : ∀ e ∈ jt_0_10, decode cL_law e.1 = .ok e.2 := by decide +kernel
