set_option maxRecDepth 100000 in
theorem jd_26_2 : ∀ e ∈ jt_26_2, decode cX0_canPartner e.1 = .ok e.2 := by decide +kernel
theorem jd_26 : ∀ e ∈ jt_26, decode cX0_canPartner e.1 = .ok e.2 := jd_app jd_26_0 (jd_app jd_26_1 (jd_26_2))
set_option maxRecDepth 100000 in
theorem jd_27 : ∀ e ∈ jt_27, decode cX0_isPartner e.1 = .ok e.2 := by decide +kernel
set_option maxRecDepth 100000 in
theorem jd_28 : ∀ e ∈ jt_28, decode cX1_init e.1 = .ok e.2 := by decide +kernel
set_option maxRecDepth 100000 in
theorem jd_29 : ∀ e ∈ jt_29, decode cX1_listOptions e.1 = .ok e.2 := by decide +kernel
set_option maxRecDepth 100000 in
theorem jd_30 : ∀ e ∈ jt_30, decode cX1_addOption e.1 = .ok e.2 := by decide +kernel
set_option maxRecDepth 100000 in
theorem jd_31 : ∀ e ∈ jt_31, decode cX1_waysOf e.1 = .ok e.2 := by decide +kernel
set_option maxRecDepth 100000 in
theorem jd_32 : ∀ e ∈ jt_32, decode cX1_first e.1 = .ok e.2 := by decide +kernel
set_option maxRecDepth 100000 in
theorem jd_33 : ∀ e ∈ jt_33, decode cX1_next e.1 = .ok e.2 := by decide +kernel
set_option maxRecDepth 100000 in
theorem jd_34 : ∀ e ∈ jt_34, decode cX1_choose e.1 = .ok e.2 := by decide +kernel
set_option maxRecDepth 100000 in
theorem jd_35 : ∀ e ∈ jt_35, decode cX1_weigh e.1 = .ok e.2 := by decide +kernel
set_option maxRecDepth 100000 in
theorem jd_36_0 : ∀ e ∈ jt_36_0, decode cX1_valueOf e.1 = .ok e.2 := by decide +kernel
set_option maxRecDepth 100000 in
theorem jd_36_1 : ∀ e ∈ jt_36_1, decode cX1_valueOf e.1 = .ok e.2 := by decide +kernel
