set_option maxRecDepth 100000 in
theorem jd_131 : ∀ e ∈ jt_131, decode cX10_undo e.1 = .ok e.2 := by decide +kernel
set_option maxRecDepth 100000 in
theorem jd_132 : ∀ e ∈ jt_132, decode cX10_search e.1 = .ok e.2 := by decide +kernel
set_option maxRecDepth 100000 in
theorem jd_133 : ∀ e ∈ jt_133, decode cX10_found e.1 = .ok e.2 := by decide +kernel
set_option maxRecDepth 100000 in
theorem jd_134 : ∀ e ∈ jt_134, decode cX10_attack e.1 = .ok e.2 := by decide +kernel
set_option maxRecDepth 100000 in
theorem jd_135 : ∀ e ∈ jt_135, decode cX10_play e.1 = .ok e.2 := by decide +kernel
set_option maxRecDepth 100000 in
theorem jd_136 : ∀ e ∈ jt_136, decode cX10_told e.1 = .ok e.2 := by decide +kernel
set_option maxRecDepth 100000 in
theorem jd_137_0 : ∀ e ∈ jt_137_0, decode cX10_ofRole e.1 = .ok e.2 := by decide +kernel
set_option maxRecDepth 100000 in
theorem jd_137_1 : ∀ e ∈ jt_137_1, decode cX10_ofRole e.1 = .ok e.2 := by decide +kernel
set_option maxRecDepth 100000 in
theorem jd_137_2 : ∀ e ∈ jt_137_2, decode cX10_ofRole e.1 = .ok e.2 := by decide +kernel
theorem jd_137 : ∀ e ∈ jt_137, decode cX10_ofRole e.1 = .ok e.2 := jd_app jd_137_0 (jd_app jd_137_1 (jd_137_2))
set_option maxRecDepth 100000 in
theorem jd_138 : ∀ e ∈ jt_138, decode cX10_clear e.1 = .ok e.2 := by decide +kernel
set_option maxRecDepth 100000 in
theorem jd_139 : ∀ e ∈ jt_139, decode cX10_asNumber e.1 = .ok e.2 := by decide +kernel
set_option maxRecDepth 100000 in
theorem jd_140 : ∀ e ∈ jt_140, decode cX10_orNone e.1 = .ok e.2 := by decide +kernel
set_option maxRecDepth 100000 in
theorem jd_141 : ∀ e ∈ jt_141, decode cX10_maySort e.1 = .ok e.2 := by decide +kernel
set_option maxRecDepth 100000 in
theorem jd_142 : ∀ e ∈ jt_142, decode cX10_compound e.1 = .ok e.2 := by decide +kernel
set_option maxRecDepth 100000 in
theorem jd_143 : ∀ e ∈ jt_143, decode cX10_numbered e.1 = .ok e.2 := by decide +kernel
