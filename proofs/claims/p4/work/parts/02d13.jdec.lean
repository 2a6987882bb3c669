theorem jd_118 : ∀ e ∈ jt_118, decode cX10_session e.1 = .ok e.2 := jd_app jd_118_0 (jd_app jd_118_1 (jd_118_2))
set_option maxRecDepth 100000 in
theorem jd_119 : ∀ e ∈ jt_119, decode cX10_secret e.1 = .ok e.2 := by decide +kernel
set_option maxRecDepth 100000 in
theorem jd_120 : ∀ e ∈ jt_120, decode cX10_agree e.1 = .ok e.2 := by decide +kernel
set_option maxRecDepth 100000 in
theorem jd_121 : ∀ e ∈ jt_121, decode cX10_join e.1 = .ok e.2 := by decide +kernel
set_option maxRecDepth 100000 in
theorem jd_122 : ∀ e ∈ jt_122, decode cX10_begin e.1 = .ok e.2 := by decide +kernel
set_option maxRecDepth 100000 in
theorem jd_123 : ∀ e ∈ jt_123, decode cX10_end e.1 = .ok e.2 := by decide +kernel
set_option maxRecDepth 100000 in
theorem jd_124 : ∀ e ∈ jt_124, decode cX10_send e.1 = .ok e.2 := by decide +kernel
set_option maxRecDepth 100000 in
theorem jd_125_0 : ∀ e ∈ jt_125_0, decode cX10_receive e.1 = .ok e.2 := by decide +kernel
set_option maxRecDepth 100000 in
theorem jd_125_1 : ∀ e ∈ jt_125_1, decode cX10_receive e.1 = .ok e.2 := by decide +kernel
theorem jd_125 : ∀ e ∈ jt_125, decode cX10_receive e.1 = .ok e.2 := jd_app jd_125_0 (jd_125_1)
set_option maxRecDepth 100000 in
theorem jd_126 : ∀ e ∈ jt_126, decode cX10_makes e.1 = .ok e.2 := by decide +kernel
set_option maxRecDepth 100000 in
theorem jd_127 : ∀ e ∈ jt_127, decode cX10_row e.1 = .ok e.2 := by decide +kernel
set_option maxRecDepth 100000 in
theorem jd_128 : ∀ e ∈ jt_128, decode cX10_stands e.1 = .ok e.2 := by decide +kernel
set_option maxRecDepth 100000 in
theorem jd_129 : ∀ e ∈ jt_129, decode cX10_done e.1 = .ok e.2 := by decide +kernel
set_option maxRecDepth 100000 in
theorem jd_130 : ∀ e ∈ jt_130, decode cX10_broken e.1 = .ok e.2 := by decide +kernel
