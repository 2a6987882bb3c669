set_option maxRecDepth 100000 in
theorem jd_186 : ∀ e ∈ jt_186, decode cX11_isLost e.1 = .ok e.2 := by decide +kernel
set_option maxRecDepth 100000 in
theorem jd_187_0 : ∀ e ∈ jt_187_0, decode cX11_fits e.1 = .ok e.2 := by decide +kernel
set_option maxRecDepth 100000 in
theorem jd_187_1 : ∀ e ∈ jt_187_1, decode cX11_fits e.1 = .ok e.2 := by decide +kernel
theorem jd_187 : ∀ e ∈ jt_187, decode cX11_fits e.1 = .ok e.2 := jd_app jd_187_0 (jd_187_1)
set_option maxRecDepth 100000 in
theorem jd_188_0 : ∀ e ∈ jt_188_0, decode cX11_isApart e.1 = .ok e.2 := by decide +kernel
set_option maxRecDepth 100000 in
theorem jd_188_1 : ∀ e ∈ jt_188_1, decode cX11_isApart e.1 = .ok e.2 := by decide +kernel
set_option maxRecDepth 100000 in
theorem jd_188_2 : ∀ e ∈ jt_188_2, decode cX11_isApart e.1 = .ok e.2 := by decide +kernel
theorem jd_188 : ∀ e ∈ jt_188, decode cX11_isApart e.1 = .ok e.2 := jd_app jd_188_0 (jd_app jd_188_1 (jd_188_2))
set_option maxRecDepth 100000 in
theorem jd_189 : ∀ e ∈ jt_189, decode cX11_isBroken e.1 = .ok e.2 := by decide +kernel
set_option maxRecDepth 100000 in
theorem jd_190_0 : ∀ e ∈ jt_190_0, decode cX11_runRow e.1 = .ok e.2 := by decide +kernel
set_option maxRecDepth 100000 in
theorem jd_190_1 : ∀ e ∈ jt_190_1, decode cX11_runRow e.1 = .ok e.2 := by decide +kernel
theorem jd_190 : ∀ e ∈ jt_190, decode cX11_runRow e.1 = .ok e.2 := jd_app jd_190_0 (jd_190_1)
set_option maxRecDepth 100000 in
theorem jd_191 : ∀ e ∈ jt_191, decode cX11_begin e.1 = .ok e.2 := by decide +kernel
set_option maxRecDepth 100000 in
theorem jd_192 : ∀ e ∈ jt_192, decode cX11_end e.1 = .ok e.2 := by decide +kernel
set_option maxRecDepth 100000 in
theorem jd_193 : ∀ e ∈ jt_193, decode cX11_nextEvent e.1 = .ok e.2 := by decide +kernel
set_option maxRecDepth 100000 in
theorem jd_194 : ∀ e ∈ jt_194, decode cX11_does e.1 = .ok e.2 := by decide +kernel
