set_option maxRecDepth 100000 in
theorem jd_199_1 : ∀ e ∈ jt_199_1, decode cX11_findOrder e.1 = .ok e.2 := by decide +kernel
set_option maxRecDepth 100000 in
theorem jd_199_2 : ∀ e ∈ jt_199_2, decode cX11_findOrder e.1 = .ok e.2 := by decide +kernel
theorem jd_199 : ∀ e ∈ jt_199, decode cX11_findOrder e.1 = .ok e.2 := jd_app jd_199_0 (jd_app jd_199_1 (jd_199_2))
set_option maxRecDepth 100000 in
theorem jd_200 : ∀ e ∈ jt_200, decode cX11_isOpen e.1 = .ok e.2 := by decide +kernel
set_option maxRecDepth 100000 in
theorem jd_201 : ∀ e ∈ jt_201, decode cX11_inOrder e.1 = .ok e.2 := by decide +kernel
set_option maxRecDepth 100000 in
theorem jd_202 : ∀ e ∈ jt_202, decode cX11_lastOf e.1 = .ok e.2 := by decide +kernel
set_option maxRecDepth 100000 in
theorem jd_203_0 : ∀ e ∈ jt_203_0, decode cX11_lasting e.1 = .ok e.2 := by decide +kernel
set_option maxRecDepth 100000 in
theorem jd_203_1 : ∀ e ∈ jt_203_1, decode cX11_lasting e.1 = .ok e.2 := by decide +kernel
set_option maxRecDepth 100000 in
theorem jd_203_2 : ∀ e ∈ jt_203_2, decode cX11_lasting e.1 = .ok e.2 := by decide +kernel
theorem jd_203 : ∀ e ∈ jt_203, decode cX11_lasting e.1 = .ok e.2 := jd_app jd_203_0 (jd_app jd_203_1 (jd_203_2))
set_option maxRecDepth 100000 in
theorem jd_204_0 : ∀ e ∈ jt_204_0, decode cX11_row e.1 = .ok e.2 := by decide +kernel
set_option maxRecDepth 100000 in
theorem jd_204_1 : ∀ e ∈ jt_204_1, decode cX11_row e.1 = .ok e.2 := by decide +kernel
theorem jd_204 : ∀ e ∈ jt_204, decode cX11_row e.1 = .ok e.2 := jd_app jd_204_0 (jd_204_1)
set_option maxRecDepth 100000 in
theorem jd_205 : ∀ e ∈ jt_205, decode cX11_stands e.1 = .ok e.2 := by decide +kernel
set_option maxRecDepth 100000 in
theorem jd_206 : ∀ e ∈ jt_206, decode cX11_done e.1 = .ok e.2 := by decide +kernel
set_option maxRecDepth 100000 in
theorem jd_207 : ∀ e ∈ jt_207, decode cX11_broken e.1 = .ok e.2 := by decide +kernel
set_option maxRecDepth 100000 in
theorem jd_208_0 : ∀ e ∈ jt_208_0, decode cX11_undo e.1 = .ok e.2 := by decide +kernel
