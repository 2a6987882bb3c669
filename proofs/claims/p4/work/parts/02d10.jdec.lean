theorem jd_82 : ∀ e ∈ jt_82, decode cX7_goThrough e.1 = .ok e.2 := jd_app jd_82_0 (jd_app jd_82_1 (jd_82_2))
set_option maxRecDepth 100000 in
theorem jd_83_0 : ∀ e ∈ jt_83_0, decode cX7_tryWays e.1 = .ok e.2 := by decide +kernel
set_option maxRecDepth 100000 in
theorem jd_83_1 : ∀ e ∈ jt_83_1, decode cX7_tryWays e.1 = .ok e.2 := by decide +kernel
theorem jd_83 : ∀ e ∈ jt_83, decode cX7_tryWays e.1 = .ok e.2 := jd_app jd_83_0 (jd_83_1)
set_option maxRecDepth 100000 in
theorem jd_84_0 : ∀ e ∈ jt_84_0, decode cX7_reach e.1 = .ok e.2 := by decide +kernel
set_option maxRecDepth 100000 in
theorem jd_84_1 : ∀ e ∈ jt_84_1, decode cX7_reach e.1 = .ok e.2 := by decide +kernel
theorem jd_84 : ∀ e ∈ jt_84, decode cX7_reach e.1 = .ok e.2 := jd_app jd_84_0 (jd_84_1)
set_option maxRecDepth 100000 in
theorem jd_85 : ∀ e ∈ jt_85, decode cX7_tracePath e.1 = .ok e.2 := by decide +kernel
set_option maxRecDepth 100000 in
theorem jd_86 : ∀ e ∈ jt_86, decode cX8_init e.1 = .ok e.2 := by decide +kernel
set_option maxRecDepth 100000 in
theorem jd_87 : ∀ e ∈ jt_87, decode cX8_empty e.1 = .ok e.2 := by decide +kernel
set_option maxRecDepth 100000 in
theorem jd_88 : ∀ e ∈ jt_88, decode cX8_slotOf e.1 = .ok e.2 := by decide +kernel
set_option maxRecDepth 100000 in
theorem jd_89 : ∀ e ∈ jt_89, decode cX8_has e.1 = .ok e.2 := by decide +kernel
set_option maxRecDepth 100000 in
theorem jd_90 : ∀ e ∈ jt_90, decode cX8_isSame e.1 = .ok e.2 := by decide +kernel
set_option maxRecDepth 100000 in
theorem jd_91 : ∀ e ∈ jt_91, decode cX8_add e.1 = .ok e.2 := by decide +kernel
set_option maxRecDepth 100000 in
theorem jd_92 : ∀ e ∈ jt_92, decode cX9_init e.1 = .ok e.2 := by decide +kernel
