set_option maxRecDepth 100000 in
theorem jd_215 : ∀ e ∈ jt_215, decode cX11_nextOf e.1 = .ok e.2 := by decide +kernel
set_option maxRecDepth 100000 in
theorem jd_216 : ∀ e ∈ jt_216, decode cX11_howMany e.1 = .ok e.2 := by decide +kernel
set_option maxRecDepth 100000 in
theorem jd_217_0 : ∀ e ∈ jt_217_0, decode cX11_receives e.1 = .ok e.2 := by decide +kernel
set_option maxRecDepth 100000 in
theorem jd_217_1 : ∀ e ∈ jt_217_1, decode cX11_receives e.1 = .ok e.2 := by decide +kernel
set_option maxRecDepth 100000 in
theorem jd_217_2 : ∀ e ∈ jt_217_2, decode cX11_receives e.1 = .ok e.2 := by decide +kernel
set_option maxRecDepth 100000 in
theorem jd_217_3 : ∀ e ∈ jt_217_3, decode cX11_receives e.1 = .ok e.2 := by decide +kernel
set_option maxRecDepth 100000 in
theorem jd_217_4 : ∀ e ∈ jt_217_4, decode cX11_receives e.1 = .ok e.2 := by decide +kernel
set_option maxRecDepth 100000 in
theorem jd_217_5 : ∀ e ∈ jt_217_5, decode cX11_receives e.1 = .ok e.2 := by decide +kernel
theorem jd_217 : ∀ e ∈ jt_217, decode cX11_receives e.1 = .ok e.2 := jd_app jd_217_0 (jd_app jd_217_1 (jd_app jd_217_2 (jd_app jd_217_3 (jd_app jd_217_4 (jd_217_5)))))
set_option maxRecDepth 100000 in
theorem jd_218_0 : ∀ e ∈ jt_218_0, decode cX11_goesOn e.1 = .ok e.2 := by decide +kernel
set_option maxRecDepth 100000 in
theorem jd_218_1 : ∀ e ∈ jt_218_1, decode cX11_goesOn e.1 = .ok e.2 := by decide +kernel
theorem jd_218 : ∀ e ∈ jt_218, decode cX11_goesOn e.1 = .ok e.2 := jd_app jd_218_0 (jd_218_1)
set_option maxRecDepth 100000 in
theorem jd_219 : ∀ e ∈ jt_219, decode cX11_noteAttack e.1 = .ok e.2 := by decide +kernel
