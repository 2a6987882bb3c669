set_option maxRecDepth 100000 in
theorem jd_0_11 : ∀ e ∈ jt_0_11, decode cL_law e.1 = .ok e.2 := by decide +kernel
set_option maxRecDepth 100000 in
theorem jd_0_12 : ∀ e ∈ jt_0_12, decode cL_law e.1 = .ok e.2 := by decide +kernel
set_option maxRecDepth 100000 in
theorem jd_0_13 : ∀ e ∈ jt_0_13, decode cL_law e.1 = .ok e.2 := by decide +kernel
set_option maxRecDepth 100000 in
theorem jd_0_14 : ∀ e ∈ jt_0_14, decode cL_law e.1 = .ok e.2 := by decide +kernel
set_option maxRecDepth 100000 in
theorem jd_0_15 : ∀ e ∈ jt_0_15, decode cL_law e.1 = .ok e.2 := by decide +kernel
set_option maxRecDepth 100000 in
theorem jd_0_16 : ∀ e ∈ jt_0_16, decode cL_law e.1 = .ok e.2 := by decide +kernel
set_option maxRecDepth 100000 in
theorem jd_0_17 : ∀ e ∈ jt_0_17, decode cL_law e.1 = .ok e.2 := by decide +kernel
theorem jd_0 : ∀ e ∈ jt_0, decode cL_law e.1 = .ok e.2 := jd_app jd_0_0 (jd_app jd_0_1 (jd_app jd_0_2 (jd_app jd_0_3 (jd_app jd_0_4 (jd_app jd_0_5 (jd_app jd_0_6 (jd_app jd_0_7 (jd_app jd_0_8 (jd_app jd_0_9 (jd_app jd_0_10 (jd_app jd_0_11 (jd_app jd_0_12 (jd_app jd_0_13 (jd_app jd_0_14 (jd_app jd_0_15 (jd_app jd_0_16 (jd_0_17)))))))))))))))))
set_option maxRecDepth 100000 in
theorem jd_1_0 : ∀ e ∈ jt_1_0, decode cX0_init e.1 = .ok e.2 := by decide +kernel
set_option maxRecDepth 100000 in
theorem jd_1_1 : ∀ e ∈ jt_1_1, decode cX0_init e.1 = .ok e.2 := by decide +kernel
theorem jd_1 : ∀ e ∈ jt_1, decode cX0_init e.1 = .ok e.2 := jd_app jd_1_0 (jd_1_1)
set_option maxRecDepth 100000 in
theorem jd_2 : ∀ e ∈ jt_2, decode cX0_empty e.1 = .ok e.2 := by decide +kernel
set_option maxRecDepth 100000 in
theorem jd_3 : ∀ e ∈ jt_3, decode cX0_hasRole e.1 = .ok e.2 := by decide +kernel
set_option maxRecDepth 100000 in
theorem jd_4 : ∀ e ∈ jt_4, decode cX0_hasSession e.1 = .ok e.2 := by decide +kernel
set_option maxRecDepth 100000 in
theorem jd_5 : ∀ e ∈ jt_5, decode cX0_hasClaim e.1 = .ok e.2 := by decide +kernel
