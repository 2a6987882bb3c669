set_option maxRecDepth 100000 in
theorem jd_93 : ∀ e ∈ jt_93, decode cX9_empty e.1 = .ok e.2 := by decide +kernel
set_option maxRecDepth 100000 in
theorem jd_94 : ∀ e ∈ jt_94, decode cX9_slotOf e.1 = .ok e.2 := by decide +kernel
set_option maxRecDepth 100000 in
theorem jd_95 : ∀ e ∈ jt_95, decode cX9_has e.1 = .ok e.2 := by decide +kernel
set_option maxRecDepth 100000 in
theorem jd_96 : ∀ e ∈ jt_96, decode cX9_isFull e.1 = .ok e.2 := by decide +kernel
set_option maxRecDepth 100000 in
theorem jd_97 : ∀ e ∈ jt_97, decode cX9_isAgent e.1 = .ok e.2 := by decide +kernel
set_option maxRecDepth 100000 in
theorem jd_98 : ∀ e ∈ jt_98, decode cX9_isHonest e.1 = .ok e.2 := by decide +kernel
set_option maxRecDepth 100000 in
theorem jd_99 : ∀ e ∈ jt_99, decode cX9_mayBeAgent e.1 = .ok e.2 := by decide +kernel
set_option maxRecDepth 100000 in
theorem jd_100 : ∀ e ∈ jt_100, decode cX9_isOpen e.1 = .ok e.2 := by decide +kernel
set_option maxRecDepth 100000 in
theorem jd_101 : ∀ e ∈ jt_101, decode cX9_sizeOf e.1 = .ok e.2 := by decide +kernel
set_option maxRecDepth 100000 in
theorem jd_102 : ∀ e ∈ jt_102, decode cX9_find e.1 = .ok e.2 := by decide +kernel
set_option maxRecDepth 100000 in
theorem jd_103 : ∀ e ∈ jt_103, decode cX9_findFrom e.1 = .ok e.2 := by decide +kernel
set_option maxRecDepth 100000 in
theorem jd_104 : ∀ e ∈ jt_104, decode cX9_newAtom e.1 = .ok e.2 := by decide +kernel
set_option maxRecDepth 100000 in
theorem jd_105 : ∀ e ∈ jt_105, decode cX9_newVariable e.1 = .ok e.2 := by decide +kernel
set_option maxRecDepth 100000 in
theorem jd_106 : ∀ e ∈ jt_106, decode cX9_newCompound e.1 = .ok e.2 := by decide +kernel
set_option maxRecDepth 100000 in
theorem jd_107_0 : ∀ e ∈ jt_107_0, decode cX9_put e.1 = .ok e.2 := by decide +kernel
set_option maxRecDepth 100000 in
theorem jd_107_1 : ∀ e ∈ jt_107_1, decode cX9_put e.1 = .ok e.2 := by decide +kernel
theorem jd_107 : ∀ e ∈ jt_107, decode cX9_put e.1 = .ok e.2 := jd_app jd_107_0 (jd_107_1)
set_option maxRecDepth 100000 in
theorem jd_108 : ∀ e ∈ jt_108, decode cX10_init e.1 = .ok e.2 := by decide +kernel
set_option maxRecDepth 100000 in
theorem jd_109 : ∀ e ∈ jt_109, decode cX10_agent e.1 = .ok e.2 := by decide +kernel
set_option maxRecDepth 100000 in
theorem jd_110 : ∀ e ∈ jt_110, decode cX10_atom e.1 = .ok e.2 := by decide +kernel
set_option maxRecDepth 100000 in
theorem jd_111 : ∀ e ∈ jt_111, decode cX10_term e.1 = .ok e.2 := by decide +kernel
