set_option maxRecDepth 100000 in
theorem jd_62 : ∀ e ∈ jt_62, decode cX5_has e.1 = .ok e.2 := by decide +kernel
set_option maxRecDepth 100000 in
theorem jd_63 : ∀ e ∈ jt_63, decode cX5_waitsFor e.1 = .ok e.2 := by decide +kernel
set_option maxRecDepth 100000 in
theorem jd_64 : ∀ e ∈ jt_64, decode cX5_countOf e.1 = .ok e.2 := by decide +kernel
set_option maxRecDepth 100000 in
theorem jd_65 : ∀ e ∈ jt_65, decode cX6_init e.1 = .ok e.2 := by decide +kernel
set_option maxRecDepth 100000 in
theorem jd_66 : ∀ e ∈ jt_66, decode cX6_start e.1 = .ok e.2 := by decide +kernel
set_option maxRecDepth 100000 in
theorem jd_67 : ∀ e ∈ jt_67, decode cX6_intruder e.1 = .ok e.2 := by decide +kernel
set_option maxRecDepth 100000 in
theorem jd_68_0 : ∀ e ∈ jt_68_0, decode cX6_gather e.1 = .ok e.2 := by decide +kernel
set_option maxRecDepth 100000 in
theorem jd_68_1 : ∀ e ∈ jt_68_1, decode cX6_gather e.1 = .ok e.2 := by decide +kernel
theorem jd_68 : ∀ e ∈ jt_68, decode cX6_gather e.1 = .ok e.2 := jd_app jd_68_0 (jd_68_1)
set_option maxRecDepth 100000 in
theorem jd_69 : ∀ e ∈ jt_69, decode cX6_eventOf e.1 = .ok e.2 := by decide +kernel
set_option maxRecDepth 100000 in
theorem jd_70 : ∀ e ∈ jt_70, decode cX6_step e.1 = .ok e.2 := by decide +kernel
set_option maxRecDepth 100000 in
theorem jd_71_0 : ∀ e ∈ jt_71_0, decode cX6_takeBack e.1 = .ok e.2 := by decide +kernel
set_option maxRecDepth 100000 in
theorem jd_71_1 : ∀ e ∈ jt_71_1, decode cX6_takeBack e.1 = .ok e.2 := by decide +kernel
theorem jd_71 : ∀ e ∈ jt_71, decode cX6_takeBack e.1 = .ok e.2 := jd_app jd_71_0 (jd_71_1)
set_option maxRecDepth 100000 in
theorem jd_72 : ∀ e ∈ jt_72, decode cX6_follow e.1 = .ok e.2 := by decide +kernel
set_option maxRecDepth 100000 in
theorem jd_73 : ∀ e ∈ jt_73, decode cX6_accepts e.1 = .ok e.2 := by decide +kernel
