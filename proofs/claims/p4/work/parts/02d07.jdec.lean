set_option maxRecDepth 100000 in
theorem jd_53_0 : ∀ e ∈ jt_53_0, decode cX4_takeApartAt e.1 = .ok e.2 := by decide +kernel
set_option maxRecDepth 100000 in
theorem jd_53_1 : ∀ e ∈ jt_53_1, decode cX4_takeApartAt e.1 = .ok e.2 := by decide +kernel
theorem jd_53 : ∀ e ∈ jt_53, decode cX4_takeApartAt e.1 = .ok e.2 := jd_app jd_53_0 (jd_53_1)
set_option maxRecDepth 100000 in
theorem jd_54 : ∀ e ∈ jt_54, decode cX4_hasPrivateOf e.1 = .ok e.2 := by decide +kernel
set_option maxRecDepth 100000 in
theorem jd_55_0 : ∀ e ∈ jt_55_0, decode cX4_canMake e.1 = .ok e.2 := by decide +kernel
set_option maxRecDepth 100000 in
theorem jd_55_1 : ∀ e ∈ jt_55_1, decode cX4_canMake e.1 = .ok e.2 := by decide +kernel
set_option maxRecDepth 100000 in
theorem jd_55_2 : ∀ e ∈ jt_55_2, decode cX4_canMake e.1 = .ok e.2 := by decide +kernel
theorem jd_55 : ∀ e ∈ jt_55, decode cX4_canMake e.1 = .ok e.2 := jd_app jd_55_0 (jd_app jd_55_1 (jd_55_2))
set_option maxRecDepth 100000 in
theorem jd_56 : ∀ e ∈ jt_56, decode cX4_missingFor e.1 = .ok e.2 := by decide +kernel
set_option maxRecDepth 100000 in
theorem jd_57 : ∀ e ∈ jt_57, decode cX4_want e.1 = .ok e.2 := by decide +kernel
set_option maxRecDepth 100000 in
theorem jd_58 : ∀ e ∈ jt_58, decode cX4_giveNumber e.1 = .ok e.2 := by decide +kernel
set_option maxRecDepth 100000 in
theorem jd_59 : ∀ e ∈ jt_59, decode cX5_init e.1 = .ok e.2 := by decide +kernel
set_option maxRecDepth 100000 in
theorem jd_60 : ∀ e ∈ jt_60, decode cX5_empty e.1 = .ok e.2 := by decide +kernel
set_option maxRecDepth 100000 in
theorem jd_61 : ∀ e ∈ jt_61, decode cX5_tell e.1 = .ok e.2 := by decide +kernel
