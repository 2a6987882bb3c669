set_option maxRecDepth 100000 in
theorem jd_208_1 : ∀ e ∈ jt_208_1, decode cX11_undo e.1 = .ok e.2 := by decide +kernel
theorem jd_208 : ∀ e ∈ jt_208, decode cX11_undo e.1 = .ok e.2 := jd_app jd_208_0 (jd_208_1)
set_option maxRecDepth 100000 in
theorem jd_209 : ∀ e ∈ jt_209, decode cX11_forget e.1 = .ok e.2 := by decide +kernel
set_option maxRecDepth 100000 in
theorem jd_210 : ∀ e ∈ jt_210, decode cX11_takeState e.1 = .ok e.2 := by decide +kernel
set_option maxRecDepth 100000 in
theorem jd_211 : ∀ e ∈ jt_211, decode cX11_stateRow e.1 = .ok e.2 := by decide +kernel
set_option maxRecDepth 100000 in
theorem jd_212_0 : ∀ e ∈ jt_212_0, decode cX11_isThere e.1 = .ok e.2 := by decide +kernel
set_option maxRecDepth 100000 in
theorem jd_212_1 : ∀ e ∈ jt_212_1, decode cX11_isThere e.1 = .ok e.2 := by decide +kernel
theorem jd_212 : ∀ e ∈ jt_212, decode cX11_isThere e.1 = .ok e.2 := jd_app jd_212_0 (jd_212_1)
set_option maxRecDepth 100000 in
theorem jd_213_0 : ∀ e ∈ jt_213_0, decode cX11_comesToBe e.1 = .ok e.2 := by decide +kernel
set_option maxRecDepth 100000 in
theorem jd_213_1 : ∀ e ∈ jt_213_1, decode cX11_comesToBe e.1 = .ok e.2 := by decide +kernel
set_option maxRecDepth 100000 in
theorem jd_213_2 : ∀ e ∈ jt_213_2, decode cX11_comesToBe e.1 = .ok e.2 := by decide +kernel
set_option maxRecDepth 100000 in
theorem jd_213_3 : ∀ e ∈ jt_213_3, decode cX11_comesToBe e.1 = .ok e.2 := by decide +kernel
theorem jd_213 : ∀ e ∈ jt_213, decode cX11_comesToBe e.1 = .ok e.2 := jd_app jd_213_0 (jd_app jd_213_1 (jd_app jd_213_2 (jd_213_3)))
set_option maxRecDepth 100000 in
theorem jd_214 : ∀ e ∈ jt_214, decode cX11_isOfSort e.1 = .ok e.2 := by decide +kernel
