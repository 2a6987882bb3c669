set_option maxRecDepth 100000 in
theorem jd_14_3 : ∀ e ∈ jt_14_3, decode cX0_newSession e.1 = .ok e.2 := by decide +kernel
theorem jd_14 : ∀ e ∈ jt_14, decode cX0_newSession e.1 = .ok e.2 := jd_app jd_14_0 (jd_app jd_14_1 (jd_app jd_14_2 (jd_14_3)))
set_option maxRecDepth 100000 in
theorem jd_15 : ∀ e ∈ jt_15, decode cX0_newClaim e.1 = .ok e.2 := by decide +kernel
set_option maxRecDepth 100000 in
theorem jd_16 : ∀ e ∈ jt_16, decode cX0_doneBy e.1 = .ok e.2 := by decide +kernel
set_option maxRecDepth 100000 in
theorem jd_17 : ∀ e ∈ jt_17, decode cX0_valueOf e.1 = .ok e.2 := by decide +kernel
set_option maxRecDepth 100000 in
theorem jd_18 : ∀ e ∈ jt_18, decode cX0_due e.1 = .ok e.2 := by decide +kernel
set_option maxRecDepth 100000 in
theorem jd_19 : ∀ e ∈ jt_19, decode cX0_hasDoneAll e.1 = .ok e.2 := by decide +kernel
set_option maxRecDepth 100000 in
theorem jd_20 : ∀ e ∈ jt_20, decode cX0_allHaveDoneAll e.1 = .ok e.2 := by decide +kernel
set_option maxRecDepth 100000 in
theorem jd_21 : ∀ e ∈ jt_21, decode cX0_beginKnowledge e.1 = .ok e.2 := by decide +kernel
set_option maxRecDepth 100000 in
theorem jd_22_0 : ∀ e ∈ jt_22_0, decode cX0_fillKnowledge e.1 = .ok e.2 := by decide +kernel
set_option maxRecDepth 100000 in
theorem jd_22_1 : ∀ e ∈ jt_22_1, decode cX0_fillKnowledge e.1 = .ok e.2 := by decide +kernel
theorem jd_22 : ∀ e ∈ jt_22, decode cX0_fillKnowledge e.1 = .ok e.2 := jd_app jd_22_0 (jd_22_1)
set_option maxRecDepth 100000 in
theorem jd_23 : ∀ e ∈ jt_23, decode cX0_hasSecrets e.1 = .ok e.2 := by decide +kernel
set_option maxRecDepth 100000 in
theorem jd_24 : ∀ e ∈ jt_24, decode cX0_breaks e.1 = .ok e.2 := by decide +kernel
set_option maxRecDepth 100000 in
theorem jd_25 : ∀ e ∈ jt_25, decode cX0_leaks e.1 = .ok e.2 := by decide +kernel
set_option maxRecDepth 100000 in
theorem jd_26_0 : ∀ e ∈ jt_26_0, decode cX0_canPartner e.1 = .ok e.2 := by decide +kernel
set_option maxRecDepth 100000 in
theorem jd_26_1 : ∀ e ∈ jt_26_1, decode cX0_canPartner e.1 = .ok e.2 := by decide +kernel
