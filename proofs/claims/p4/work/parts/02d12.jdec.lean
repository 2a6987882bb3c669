set_option maxRecDepth 100000 in
theorem jd_112 : ∀ e ∈ jt_112, decode cX10_of e.1 = .ok e.2 := by decide +kernel
set_option maxRecDepth 100000 in
theorem jd_113_0 : ∀ e ∈ jt_113_0, decode cX10_about e.1 = .ok e.2 := by decide +kernel
set_option maxRecDepth 100000 in
theorem jd_113_1 : ∀ e ∈ jt_113_1, decode cX10_about e.1 = .ok e.2 := by decide +kernel
set_option maxRecDepth 100000 in
theorem jd_113_2 : ∀ e ∈ jt_113_2, decode cX10_about e.1 = .ok e.2 := by decide +kernel
theorem jd_113 : ∀ e ∈ jt_113, decode cX10_about e.1 = .ok e.2 := jd_app jd_113_0 (jd_app jd_113_1 (jd_113_2))
set_option maxRecDepth 100000 in
theorem jd_114 : ∀ e ∈ jt_114, decode cX10_role e.1 = .ok e.2 := by decide +kernel
set_option maxRecDepth 100000 in
theorem jd_115 : ∀ e ∈ jt_115, decode cX10_variable e.1 = .ok e.2 := by decide +kernel
set_option maxRecDepth 100000 in
theorem jd_116 : ∀ e ∈ jt_116, decode cX10_event e.1 = .ok e.2 := by decide +kernel
set_option maxRecDepth 100000 in
theorem jd_117 : ∀ e ∈ jt_117, decode cX10_know e.1 = .ok e.2 := by decide +kernel
set_option maxRecDepth 100000 in
theorem jd_118_0 : ∀ e ∈ jt_118_0, decode cX10_session e.1 = .ok e.2 := by decide +kernel
set_option maxRecDepth 100000 in
theorem jd_118_1 : ∀ e ∈ jt_118_1, decode cX10_session e.1 = .ok e.2 := by decide +kernel
set_option maxRecDepth 100000 in
theorem jd_118_2 : ∀ e ∈ jt_118_2, decode cX10_session e.1 = .ok e.2 := by decide +kernel
