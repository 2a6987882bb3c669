theorem jd_36 : ∀ e ∈ jt_36, decode cX1_valueOf e.1 = .ok e.2 := jd_app jd_36_0 (jd_36_1)
set_option maxRecDepth 100000 in
theorem jd_37_0 : ∀ e ∈ jt_37_0, decode cX1_canCompose e.1 = .ok e.2 := by decide +kernel
set_option maxRecDepth 100000 in
theorem jd_37_1 : ∀ e ∈ jt_37_1, decode cX1_canCompose e.1 = .ok e.2 := by decide +kernel
theorem jd_37 : ∀ e ∈ jt_37, decode cX1_canCompose e.1 = .ok e.2 := jd_app jd_37_0 (jd_37_1)
set_option maxRecDepth 100000 in
theorem jd_38 : ∀ e ∈ jt_38, decode cX2_init e.1 = .ok e.2 := by decide +kernel
set_option maxRecDepth 100000 in
theorem jd_39 : ∀ e ∈ jt_39, decode cX2_tie e.1 = .ok e.2 := by decide +kernel
set_option maxRecDepth 100000 in
theorem jd_40 : ∀ e ∈ jt_40, decode cX3_init e.1 = .ok e.2 := by decide +kernel
set_option maxRecDepth 100000 in
theorem jd_41_0 : ∀ e ∈ jt_41_0, decode cX3_plan e.1 = .ok e.2 := by decide +kernel
set_option maxRecDepth 100000 in
theorem jd_41_1 : ∀ e ∈ jt_41_1, decode cX3_plan e.1 = .ok e.2 := by decide +kernel
theorem jd_41 : ∀ e ∈ jt_41, decode cX3_plan e.1 = .ok e.2 := jd_app jd_41_0 (jd_41_1)
set_option maxRecDepth 100000 in
theorem jd_42 : ∀ e ∈ jt_42, decode cX3_markParts e.1 = .ok e.2 := by decide +kernel
set_option maxRecDepth 100000 in
theorem jd_43 : ∀ e ∈ jt_43, decode cX3_levelOf e.1 = .ok e.2 := by decide +kernel
set_option maxRecDepth 100000 in
theorem jd_44 : ∀ e ∈ jt_44, decode cX4_init e.1 = .ok e.2 := by decide +kernel
set_option maxRecDepth 100000 in
theorem jd_45 : ∀ e ∈ jt_45, decode cX4_start e.1 = .ok e.2 := by decide +kernel
