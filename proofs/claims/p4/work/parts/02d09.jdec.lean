set_option maxRecDepth 100000 in
theorem jd_74_0 : ∀ e ∈ jt_74_0, decode cX6_matches e.1 = .ok e.2 := by decide +kernel
set_option maxRecDepth 100000 in
theorem jd_74_1 : ∀ e ∈ jt_74_1, decode cX6_matches e.1 = .ok e.2 := by decide +kernel
set_option maxRecDepth 100000 in
theorem jd_74_2 : ∀ e ∈ jt_74_2, decode cX6_matches e.1 = .ok e.2 := by decide +kernel
theorem jd_74 : ∀ e ∈ jt_74, decode cX6_matches e.1 = .ok e.2 := jd_app jd_74_0 (jd_app jd_74_1 (jd_74_2))
set_option maxRecDepth 100000 in
theorem jd_75 : ∀ e ∈ jt_75, decode cX6_mayStand e.1 = .ok e.2 := by decide +kernel
set_option maxRecDepth 100000 in
theorem jd_76 : ∀ e ∈ jt_76, decode cX7_init e.1 = .ok e.2 := by decide +kernel
set_option maxRecDepth 100000 in
theorem jd_77 : ∀ e ∈ jt_77, decode cX7_hasAttack e.1 = .ok e.2 := by decide +kernel
set_option maxRecDepth 100000 in
theorem jd_78 : ∀ e ∈ jt_78, decode cX7_attackBase e.1 = .ok e.2 := by decide +kernel
set_option maxRecDepth 100000 in
theorem jd_79 : ∀ e ∈ jt_79, decode cX7_forget e.1 = .ok e.2 := by decide +kernel
set_option maxRecDepth 100000 in
theorem jd_80 : ∀ e ∈ jt_80, decode cX7_start e.1 = .ok e.2 := by decide +kernel
set_option maxRecDepth 100000 in
theorem jd_81 : ∀ e ∈ jt_81, decode cX7_goesOn e.1 = .ok e.2 := by decide +kernel
set_option maxRecDepth 100000 in
theorem jd_82_0 : ∀ e ∈ jt_82_0, decode cX7_goThrough e.1 = .ok e.2 := by decide +kernel
set_option maxRecDepth 100000 in
theorem jd_82_1 : ∀ e ∈ jt_82_1, decode cX7_goThrough e.1 = .ok e.2 := by decide +kernel
set_option maxRecDepth 100000 in
theorem jd_82_2 : ∀ e ∈ jt_82_2, decode cX7_goThrough e.1 = .ok e.2 := by decide +kernel
