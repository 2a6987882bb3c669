set_option maxRecDepth 100000 in
theorem jd_144_0 : ∀ e ∈ jt_144_0, decode cX11_init e.1 = .ok e.2 := by decide +kernel
set_option maxRecDepth 100000 in
theorem jd_144_1 : ∀ e ∈ jt_144_1, decode cX11_init e.1 = .ok e.2 := by decide +kernel
set_option maxRecDepth 100000 in
theorem jd_144_2 : ∀ e ∈ jt_144_2, decode cX11_init e.1 = .ok e.2 := by decide +kernel
set_option maxRecDepth 100000 in
theorem jd_144_3 : ∀ e ∈ jt_144_3, decode cX11_init e.1 = .ok e.2 := by decide +kernel
set_option maxRecDepth 100000 in
theorem jd_144_4 : ∀ e ∈ jt_144_4, decode cX11_init e.1 = .ok e.2 := by decide +kernel
set_option maxRecDepth 100000 in
theorem jd_144_5 : ∀ e ∈ jt_144_5, decode cX11_init e.1 = .ok e.2 := by decide +kernel
set_option maxRecDepth 100000 in
theorem jd_144_6 : ∀ e ∈ jt_144_6, decode cX11_init e.1 = .ok e.2 := by decide +kernel
theorem jd_144 : ∀ e ∈ jt_144, decode cX11_init e.1 = .ok e.2 := jd_app jd_144_0 (jd_app jd_144_1 (jd_app jd_144_2 (jd_app jd_144_3 (jd_app jd_144_4 (jd_app jd_144_5 (jd_144_6))))))
set_option maxRecDepth 100000 in
theorem jd_145 : ∀ e ∈ jt_145, decode cX11_in e.1 = .ok e.2 := by decide +kernel
set_option maxRecDepth 100000 in
theorem jd_146 : ∀ e ∈ jt_146, decode cX11_emptyTable e.1 = .ok e.2 := by decide +kernel
set_option maxRecDepth 100000 in
theorem jd_147 : ∀ e ∈ jt_147, decode cX11_placeOf e.1 = .ok e.2 := by decide +kernel
set_option maxRecDepth 100000 in
theorem jd_148 : ∀ e ∈ jt_148, decode cX11_find e.1 = .ok e.2 := by decide +kernel
set_option maxRecDepth 100000 in
theorem jd_149_0 : ∀ e ∈ jt_149_0, decode cX11_lay e.1 = .ok e.2 := by decide +kernel
set_option maxRecDepth 100000 in
theorem jd_149_1 : ∀ e ∈ jt_149_1, decode cX11_lay e.1 = .ok e.2 := by decide +kernel
