set_option maxRecDepth 100000 in
theorem jd_6 : ∀ e ∈ jt_6, decode cX0_hasVariable e.1 = .ok e.2 := by decide +kernel
set_option maxRecDepth 100000 in
theorem jd_7 : ∀ e ∈ jt_7, decode cX0_newRole e.1 = .ok e.2 := by decide +kernel
set_option maxRecDepth 100000 in
theorem jd_8 : ∀ e ∈ jt_8, decode cX0_mayBeEvent e.1 = .ok e.2 := by decide +kernel
set_option maxRecDepth 100000 in
theorem jd_9 : ∀ e ∈ jt_9, decode cX0_newEvent e.1 = .ok e.2 := by decide +kernel
set_option maxRecDepth 100000 in
theorem jd_10 : ∀ e ∈ jt_10, decode cX0_bindIn e.1 = .ok e.2 := by decide +kernel
set_option maxRecDepth 100000 in
theorem jd_11_0 : ∀ e ∈ jt_11_0, decode cX0_listVariables e.1 = .ok e.2 := by decide +kernel
set_option maxRecDepth 100000 in
theorem jd_11_1 : ∀ e ∈ jt_11_1, decode cX0_listVariables e.1 = .ok e.2 := by decide +kernel
theorem jd_11 : ∀ e ∈ jt_11, decode cX0_listVariables e.1 = .ok e.2 := jd_app jd_11_0 (jd_11_1)
set_option maxRecDepth 100000 in
theorem jd_12 : ∀ e ∈ jt_12, decode cX0_isKnown e.1 = .ok e.2 := by decide +kernel
set_option maxRecDepth 100000 in
theorem jd_13 : ∀ e ∈ jt_13, decode cX0_learn e.1 = .ok e.2 := by decide +kernel
set_option maxRecDepth 100000 in
theorem jd_14_0 : ∀ e ∈ jt_14_0, decode cX0_newSession e.1 = .ok e.2 := by decide +kernel
set_option maxRecDepth 100000 in
theorem jd_14_1 : ∀ e ∈ jt_14_1, decode cX0_newSession e.1 = .ok e.2 := by decide +kernel
set_option maxRecDepth 100000 in
theorem jd_14_2 : ∀ e ∈ jt_14_2, decode cX0_newSession e.1 = .ok e.2 := by decide +kernel
