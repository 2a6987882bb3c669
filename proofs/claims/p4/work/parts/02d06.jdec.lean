set_option maxRecDepth 100000 in
theorem jd_46 : ∀ e ∈ jt_46, decode cX4_isUnnumbered e.1 = .ok e.2 := by decide +kernel
set_option maxRecDepth 100000 in
theorem jd_47 : ∀ e ∈ jt_47, decode cX4_has e.1 = .ok e.2 := by decide +kernel
set_option maxRecDepth 100000 in
theorem jd_48 : ∀ e ∈ jt_48, decode cX4_find e.1 = .ok e.2 := by decide +kernel
set_option maxRecDepth 100000 in
theorem jd_49_0 : ∀ e ∈ jt_49_0, decode cX4_findOrPut e.1 = .ok e.2 := by decide +kernel
set_option maxRecDepth 100000 in
theorem jd_49_1 : ∀ e ∈ jt_49_1, decode cX4_findOrPut e.1 = .ok e.2 := by decide +kernel
set_option maxRecDepth 100000 in
theorem jd_49_2 : ∀ e ∈ jt_49_2, decode cX4_findOrPut e.1 = .ok e.2 := by decide +kernel
theorem jd_49 : ∀ e ∈ jt_49, decode cX4_findOrPut e.1 = .ok e.2 := jd_app jd_49_0 (jd_app jd_49_1 (jd_49_2))
set_option maxRecDepth 100000 in
theorem jd_50_0 : ∀ e ∈ jt_50_0, decode cX4_groundOf e.1 = .ok e.2 := by decide +kernel
set_option maxRecDepth 100000 in
theorem jd_50_1 : ∀ e ∈ jt_50_1, decode cX4_groundOf e.1 = .ok e.2 := by decide +kernel
theorem jd_50 : ∀ e ∈ jt_50, decode cX4_groundOf e.1 = .ok e.2 := jd_app jd_50_0 (jd_50_1)
set_option maxRecDepth 100000 in
theorem jd_51_0 : ∀ e ∈ jt_51_0, decode cX4_add e.1 = .ok e.2 := by decide +kernel
set_option maxRecDepth 100000 in
theorem jd_51_1 : ∀ e ∈ jt_51_1, decode cX4_add e.1 = .ok e.2 := by decide +kernel
set_option maxRecDepth 100000 in
theorem jd_51_2 : ∀ e ∈ jt_51_2, decode cX4_add e.1 = .ok e.2 := by decide +kernel
theorem jd_51 : ∀ e ∈ jt_51, decode cX4_add e.1 = .ok e.2 := jd_app jd_51_0 (jd_app jd_51_1 (jd_51_2))
set_option maxRecDepth 100000 in
theorem jd_52 : ∀ e ∈ jt_52, decode cX4_takeApart e.1 = .ok e.2 := by decide +kernel
