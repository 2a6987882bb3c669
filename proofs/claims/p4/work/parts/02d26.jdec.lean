set_option maxRecDepth 100000 in
theorem jd_220_0 : ∀ e ∈ jt_220_0, decode cX11_search e.1 = .ok e.2 := by decide +kernel
set_option maxRecDepth 100000 in
theorem jd_220_1 : ∀ e ∈ jt_220_1, decode cX11_search e.1 = .ok e.2 := by decide +kernel
set_option maxRecDepth 100000 in
theorem jd_220_2 : ∀ e ∈ jt_220_2, decode cX11_search e.1 = .ok e.2 := by decide +kernel
theorem jd_220 : ∀ e ∈ jt_220, decode cX11_search e.1 = .ok e.2 := jd_app jd_220_0 (jd_app jd_220_1 (jd_220_2))
set_option maxRecDepth 100000 in
theorem jd_221 : ∀ e ∈ jt_221, decode cX11_found e.1 = .ok e.2 := by decide +kernel
set_option maxRecDepth 100000 in
theorem jd_222 : ∀ e ∈ jt_222, decode cX11_attack e.1 = .ok e.2 := by decide +kernel
set_option maxRecDepth 100000 in
theorem jd_223_0 : ∀ e ∈ jt_223_0, decode cX11_play e.1 = .ok e.2 := by decide +kernel
set_option maxRecDepth 100000 in
theorem jd_223_1 : ∀ e ∈ jt_223_1, decode cX11_play e.1 = .ok e.2 := by decide +kernel
set_option maxRecDepth 100000 in
theorem jd_223_2 : ∀ e ∈ jt_223_2, decode cX11_play e.1 = .ok e.2 := by decide +kernel
theorem jd_223 : ∀ e ∈ jt_223, decode cX11_play e.1 = .ok e.2 := jd_app jd_223_0 (jd_app jd_223_1 (jd_223_2))
set_option maxRecDepth 100000 in
theorem jd_224 : ∀ e ∈ jt_224, decode cX11_told e.1 = .ok e.2 := by decide +kernel
set_option maxRecDepth 100000 in
theorem jd_225_0 : ∀ e ∈ jt_225_0, decode cX11_ofRole e.1 = .ok e.2 := by decide +kernel
set_option maxRecDepth 100000 in
theorem jd_225_1 : ∀ e ∈ jt_225_1, decode cX11_ofRole e.1 = .ok e.2 := by decide +kernel
set_option maxRecDepth 100000 in
theorem jd_225_2 : ∀ e ∈ jt_225_2, decode cX11_ofRole e.1 = .ok e.2 := by decide +kernel
