set_option maxRecDepth 100000 in
theorem jd_195 : ∀ e ∈ jt_195, decode cX11_send e.1 = .ok e.2 := by decide +kernel
set_option maxRecDepth 100000 in
theorem jd_196_0 : ∀ e ∈ jt_196_0, decode cX11_bindsTo e.1 = .ok e.2 := by decide +kernel
set_option maxRecDepth 100000 in
theorem jd_196_1 : ∀ e ∈ jt_196_1, decode cX11_bindsTo e.1 = .ok e.2 := by decide +kernel
set_option maxRecDepth 100000 in
theorem jd_196_2 : ∀ e ∈ jt_196_2, decode cX11_bindsTo e.1 = .ok e.2 := by decide +kernel
set_option maxRecDepth 100000 in
theorem jd_196_3 : ∀ e ∈ jt_196_3, decode cX11_bindsTo e.1 = .ok e.2 := by decide +kernel
set_option maxRecDepth 100000 in
theorem jd_196_4 : ∀ e ∈ jt_196_4, decode cX11_bindsTo e.1 = .ok e.2 := by decide +kernel
theorem jd_196 : ∀ e ∈ jt_196, decode cX11_bindsTo e.1 = .ok e.2 := jd_app jd_196_0 (jd_app jd_196_1 (jd_app jd_196_2 (jd_app jd_196_3 (jd_196_4))))
set_option maxRecDepth 100000 in
theorem jd_197_0 : ∀ e ∈ jt_197_0, decode cX11_receive e.1 = .ok e.2 := by decide +kernel
set_option maxRecDepth 100000 in
theorem jd_197_1 : ∀ e ∈ jt_197_1, decode cX11_receive e.1 = .ok e.2 := by decide +kernel
set_option maxRecDepth 100000 in
theorem jd_197_2 : ∀ e ∈ jt_197_2, decode cX11_receive e.1 = .ok e.2 := by decide +kernel
theorem jd_197 : ∀ e ∈ jt_197, decode cX11_receive e.1 = .ok e.2 := jd_app jd_197_0 (jd_app jd_197_1 (jd_197_2))
set_option maxRecDepth 100000 in
theorem jd_198 : ∀ e ∈ jt_198, decode cX11_makes e.1 = .ok e.2 := by decide +kernel
set_option maxRecDepth 100000 in
theorem jd_199_0 : ∀ e ∈ jt_199_0, decode cX11_findOrder e.1 = .ok e.2 := by decide +kernel
