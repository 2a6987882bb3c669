set_option maxRecDepth 100000 in
theorem jd_166_2 : ∀ e ∈ jt_166_2, decode cX11_event e.1 = .ok e.2 := by decide +kernel
set_option maxRecDepth 100000 in
theorem jd_166_3 : ∀ e ∈ jt_166_3, decode cX11_event e.1 = .ok e.2 := by decide +kernel
theorem jd_166 : ∀ e ∈ jt_166, decode cX11_event e.1 = .ok e.2 := jd_app jd_166_0 (jd_app jd_166_1 (jd_app jd_166_2 (jd_166_3)))
set_option maxRecDepth 100000 in
theorem jd_167_0 : ∀ e ∈ jt_167_0, decode cX11_know e.1 = .ok e.2 := by decide +kernel
set_option maxRecDepth 100000 in
theorem jd_167_1 : ∀ e ∈ jt_167_1, decode cX11_know e.1 = .ok e.2 := by decide +kernel
theorem jd_167 : ∀ e ∈ jt_167, decode cX11_know e.1 = .ok e.2 := jd_app jd_167_0 (jd_167_1)
set_option maxRecDepth 100000 in
theorem jd_168 : ∀ e ∈ jt_168, decode cX11_isSession e.1 = .ok e.2 := by decide +kernel
set_option maxRecDepth 100000 in
theorem jd_169 : ∀ e ∈ jt_169, decode cX11_howManyAs e.1 = .ok e.2 := by decide +kernel
set_option maxRecDepth 100000 in
theorem jd_170_0 : ∀ e ∈ jt_170_0, decode cX11_session e.1 = .ok e.2 := by decide +kernel
set_option maxRecDepth 100000 in
theorem jd_170_1 : ∀ e ∈ jt_170_1, decode cX11_session e.1 = .ok e.2 := by decide +kernel
set_option maxRecDepth 100000 in
theorem jd_170_2 : ∀ e ∈ jt_170_2, decode cX11_session e.1 = .ok e.2 := by decide +kernel
set_option maxRecDepth 100000 in
theorem jd_170_3 : ∀ e ∈ jt_170_3, decode cX11_session e.1 = .ok e.2 := by decide +kernel
set_option maxRecDepth 100000 in
theorem jd_170_4 : ∀ e ∈ jt_170_4, decode cX11_session e.1 = .ok e.2 := by decide +kernel
theorem jd_170 : ∀ e ∈ jt_170, decode cX11_session e.1 = .ok e.2 := jd_app jd_170_0 (jd_app jd_170_1 (jd_app jd_170_2 (jd_app jd_170_3 (jd_170_4))))
set_option maxRecDepth 100000 in
theorem jd_171 : ∀ e ∈ jt_171, decode cX11_claim e.1 = .ok e.2 := by decide +kernel
