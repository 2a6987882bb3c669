set_option maxRecDepth 100000 in
theorem jd_172 : ∀ e ∈ jt_172, decode cX11_secret e.1 = .ok e.2 := by decide +kernel
set_option maxRecDepth 100000 in
theorem jd_173 : ∀ e ∈ jt_173, decode cX11_agree e.1 = .ok e.2 := by decide +kernel
set_option maxRecDepth 100000 in
theorem jd_174_0 : ∀ e ∈ jt_174_0, decode cX11_join e.1 = .ok e.2 := by decide +kernel
set_option maxRecDepth 100000 in
theorem jd_174_1 : ∀ e ∈ jt_174_1, decode cX11_join e.1 = .ok e.2 := by decide +kernel
set_option maxRecDepth 100000 in
theorem jd_174_2 : ∀ e ∈ jt_174_2, decode cX11_join e.1 = .ok e.2 := by decide +kernel
theorem jd_174 : ∀ e ∈ jt_174, decode cX11_join e.1 = .ok e.2 := jd_app jd_174_0 (jd_app jd_174_1 (jd_174_2))
set_option maxRecDepth 100000 in
theorem jd_175 : ∀ e ∈ jt_175, decode cX11_begins e.1 = .ok e.2 := by decide +kernel
set_option maxRecDepth 100000 in
theorem jd_176_0 : ∀ e ∈ jt_176_0, decode cX11_standsFor e.1 = .ok e.2 := by decide +kernel
set_option maxRecDepth 100000 in
theorem jd_176_1 : ∀ e ∈ jt_176_1, decode cX11_standsFor e.1 = .ok e.2 := by decide +kernel
set_option maxRecDepth 100000 in
theorem jd_176_2 : ∀ e ∈ jt_176_2, decode cX11_standsFor e.1 = .ok e.2 := by decide +kernel
theorem jd_176 : ∀ e ∈ jt_176, decode cX11_standsFor e.1 = .ok e.2 := jd_app jd_176_0 (jd_app jd_176_1 (jd_176_2))
set_option maxRecDepth 100000 in
theorem jd_177 : ∀ e ∈ jt_177, decode cX11_one e.1 = .ok e.2 := by decide +kernel
