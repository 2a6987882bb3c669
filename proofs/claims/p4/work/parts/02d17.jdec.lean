theorem jd_160 : ∀ e ∈ jt_160, decode cX11_about e.1 = .ok e.2 := jd_app jd_160_0 (jd_app jd_160_1 (jd_160_2))
set_option maxRecDepth 100000 in
theorem jd_161 : ∀ e ∈ jt_161, decode cX11_isRole e.1 = .ok e.2 := by decide +kernel
set_option maxRecDepth 100000 in
theorem jd_162 : ∀ e ∈ jt_162, decode cX11_role e.1 = .ok e.2 := by decide +kernel
set_option maxRecDepth 100000 in
theorem jd_163_0 : ∀ e ∈ jt_163_0, decode cX11_variable e.1 = .ok e.2 := by decide +kernel
set_option maxRecDepth 100000 in
theorem jd_163_1 : ∀ e ∈ jt_163_1, decode cX11_variable e.1 = .ok e.2 := by decide +kernel
set_option maxRecDepth 100000 in
theorem jd_163_2 : ∀ e ∈ jt_163_2, decode cX11_variable e.1 = .ok e.2 := by decide +kernel
theorem jd_163 : ∀ e ∈ jt_163, decode cX11_variable e.1 = .ok e.2 := jd_app jd_163_0 (jd_app jd_163_1 (jd_163_2))
set_option maxRecDepth 100000 in
theorem jd_164_0 : ∀ e ∈ jt_164_0, decode cX11_findVariables e.1 = .ok e.2 := by decide +kernel
set_option maxRecDepth 100000 in
theorem jd_164_1 : ∀ e ∈ jt_164_1, decode cX11_findVariables e.1 = .ok e.2 := by decide +kernel
set_option maxRecDepth 100000 in
theorem jd_164_2 : ∀ e ∈ jt_164_2, decode cX11_findVariables e.1 = .ok e.2 := by decide +kernel
theorem jd_164 : ∀ e ∈ jt_164, decode cX11_findVariables e.1 = .ok e.2 := jd_app jd_164_0 (jd_app jd_164_1 (jd_164_2))
set_option maxRecDepth 100000 in
theorem jd_165 : ∀ e ∈ jt_165, decode cX11_isReceived e.1 = .ok e.2 := by decide +kernel
set_option maxRecDepth 100000 in
theorem jd_166_0 : ∀ e ∈ jt_166_0, decode cX11_event e.1 = .ok e.2 := by decide +kernel
set_option maxRecDepth 100000 in
theorem jd_166_1 : ∀ e ∈ jt_166_1, decode cX11_event e.1 = .ok e.2 := by decide +kernel
