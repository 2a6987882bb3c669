set_option maxRecDepth 100000 in
theorem jd_178 : ∀ e ∈ jt_178, decode cX11_comes e.1 = .ok e.2 := by decide +kernel
set_option maxRecDepth 100000 in
theorem jd_179 : ∀ e ∈ jt_179, decode cX11_beginRow e.1 = .ok e.2 := by decide +kernel
set_option maxRecDepth 100000 in
theorem jd_180 : ∀ e ∈ jt_180, decode cX11_hasPrivate e.1 = .ok e.2 := by decide +kernel
set_option maxRecDepth 100000 in
theorem jd_181_0 : ∀ e ∈ jt_181_0, decode cX11_isMade e.1 = .ok e.2 := by decide +kernel
set_option maxRecDepth 100000 in
theorem jd_181_1 : ∀ e ∈ jt_181_1, decode cX11_isMade e.1 = .ok e.2 := by decide +kernel
set_option maxRecDepth 100000 in
theorem jd_181_2 : ∀ e ∈ jt_181_2, decode cX11_isMade e.1 = .ok e.2 := by decide +kernel
theorem jd_181 : ∀ e ∈ jt_181, decode cX11_isMade e.1 = .ok e.2 := jd_app jd_181_0 (jd_app jd_181_1 (jd_181_2))
set_option maxRecDepth 100000 in
theorem jd_182 : ∀ e ∈ jt_182, decode cX11_canMake e.1 = .ok e.2 := by decide +kernel
set_option maxRecDepth 100000 in
theorem jd_183 : ∀ e ∈ jt_183, decode cX11_endRow e.1 = .ok e.2 := by decide +kernel
set_option maxRecDepth 100000 in
theorem jd_184_0 : ∀ e ∈ jt_184_0, decode cX11_takeApart e.1 = .ok e.2 := by decide +kernel
set_option maxRecDepth 100000 in
theorem jd_184_1 : ∀ e ∈ jt_184_1, decode cX11_takeApart e.1 = .ok e.2 := by decide +kernel
theorem jd_184 : ∀ e ∈ jt_184, decode cX11_takeApart e.1 = .ok e.2 := jd_app jd_184_0 (jd_184_1)
set_option maxRecDepth 100000 in
theorem jd_185 : ∀ e ∈ jt_185, decode cX11_isHonest e.1 = .ok e.2 := by decide +kernel
