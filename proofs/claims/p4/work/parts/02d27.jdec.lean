theorem jd_225 : ∀ e ∈ jt_225, decode cX11_ofRole e.1 = .ok e.2 := jd_app jd_225_0 (jd_app jd_225_1 (jd_225_2))
set_option maxRecDepth 100000 in
theorem jd_226 : ∀ e ∈ jt_226, decode cX11_clear e.1 = .ok e.2 := by decide +kernel
set_option maxRecDepth 100000 in
theorem jd_227 : ∀ e ∈ jt_227, decode cJ7_fill_53178 e.1 = .ok e.2 := by decide +kernel
set_option maxRecDepth 100000 in
theorem jd_228 : ∀ e ∈ jt_228, decode cJ9_floorMod_7cf53 e.1 = .ok e.2 := by decide +kernel
set_option maxRecDepth 100000 in
theorem jd_229 : ∀ e ∈ jt_229, decode cJ9_max_7cf53 e.1 = .ok e.2 := by decide +kernel
set_option maxRecDepth 100000 in
theorem jd_230 : ∀ e ∈ jt_230, decode cJ9_min_7cf53 e.1 = .ok e.2 := by decide +kernel
