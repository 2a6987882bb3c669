theorem jd_149 : ∀ e ∈ jt_149, decode cX11_lay e.1 = .ok e.2 := jd_app jd_149_0 (jd_149_1)
set_option maxRecDepth 100000 in
theorem jd_150 : ∀ e ∈ jt_150, decode cX11_sizeOf e.1 = .ok e.2 := by decide +kernel
set_option maxRecDepth 100000 in
theorem jd_151 : ∀ e ∈ jt_151, decode cX11_release e.1 = .ok e.2 := by decide +kernel
set_option maxRecDepth 100000 in
theorem jd_152 : ∀ e ∈ jt_152, decode cX11_last e.1 = .ok e.2 := by decide +kernel
set_option maxRecDepth 100000 in
theorem jd_153 : ∀ e ∈ jt_153, decode cX11_made e.1 = .ok e.2 := by decide +kernel
set_option maxRecDepth 100000 in
theorem jd_154 : ∀ e ∈ jt_154, decode cX11_isTerm e.1 = .ok e.2 := by decide +kernel
set_option maxRecDepth 100000 in
theorem jd_155 : ∀ e ∈ jt_155, decode cX11_agent e.1 = .ok e.2 := by decide +kernel
set_option maxRecDepth 100000 in
theorem jd_156 : ∀ e ∈ jt_156, decode cX11_atom e.1 = .ok e.2 := by decide +kernel
set_option maxRecDepth 100000 in
theorem jd_157 : ∀ e ∈ jt_157, decode cX11_oldOrNew e.1 = .ok e.2 := by decide +kernel
set_option maxRecDepth 100000 in
theorem jd_158 : ∀ e ∈ jt_158, decode cX11_term e.1 = .ok e.2 := by decide +kernel
set_option maxRecDepth 100000 in
theorem jd_159 : ∀ e ∈ jt_159, decode cX11_of e.1 = .ok e.2 := by decide +kernel
set_option maxRecDepth 100000 in
theorem jd_160_0 : ∀ e ∈ jt_160_0, decode cX11_about e.1 = .ok e.2 := by decide +kernel
set_option maxRecDepth 100000 in
theorem jd_160_1 : ∀ e ∈ jt_160_1, decode cX11_about e.1 = .ok e.2 := by decide +kernel
set_option maxRecDepth 100000 in
theorem jd_160_2 : ∀ e ∈ jt_160_2, decode cX11_about e.1 = .ok e.2 := by decide +kernel
