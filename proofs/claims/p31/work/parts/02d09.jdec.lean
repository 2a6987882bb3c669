section
set_option maxRecDepth 100000 in
theorem jd_74_0 : ∀ e ∈ jt_74_0, decode cX6_matches e.1 = .ok e.2 := by decide +kernel
set_option maxRecDepth 100000 in
theorem jd_74_1 : ∀ e ∈ jt_74_1, decode cX6_matches e.1 = .ok e.2 := by decide +kernel
set_option maxRecDepth 100000 in
theorem jd_74_2 : ∀ e ∈ jt_74_2, decode cX6_matches e.1 = .ok e.2 := by decide +kernel
theorem jd_74 : ∀ e ∈ jt_74, decode cX6_matches e.1 = .ok e.2 := jd_app jd_74_0 (jd_app jd_74_1 (jd_74_2))
set_option maxRecDepth 100000 in
theorem jd_75 : ∀ e ∈ jt_75, decode cX6_mayStand e.1 = .ok e.2 := by decide +kernel
set_option maxRecDepth 100000 in
theorem jd_76 : ∀ e ∈ jt_76, decode cX7_init e.1 = .ok e.2 := by decide +kernel
set_option maxRecDepth 100000 in
theorem jd_77 : ∀ e ∈ jt_77, decode cX7_hasAttack e.1 = .ok e.2 := by decide +kernel
set_option maxRecDepth 100000 in
theorem jd_78 : ∀ e ∈ jt_78, decode cX7_attackBase e.1 = .ok e.2 := by decide +kernel
set_option maxRecDepth 100000 in
theorem jd_79 : ∀ e ∈ jt_79, decode cX7_forget e.1 = .ok e.2 := by decide +kernel
set_option maxRecDepth 100000 in
theorem jd_80 : ∀ e ∈ jt_80, decode cX7_start e.1 = .ok e.2 := by decide +kernel
set_option maxRecDepth 100000 in
theorem jd_81 : ∀ e ∈ jt_81, decode cX7_goesOn e.1 = .ok e.2 := by decide +kernel
set_option maxRecDepth 100000 in
theorem jd_82_0 : ∀ e ∈ jt_82_0, decode cX7_goThrough e.1 = .ok e.2 := by decide +kernel
set_option maxRecDepth 100000 in
theorem jd_82_1 : ∀ e ∈ jt_82_1, decode cX7_goThrough e.1 = .ok e.2 := by decide +kernel
set_option maxRecDepth 100000 in
theorem jd_82_2 : ∀ e ∈ jt_82_2, decode cX7_goThrough e.1 = .ok e.2 := by decide +kernel
end
section
theorem jd_82 : ∀ e ∈ jt_82, decode cX7_goThrough e.1 = .ok e.2 := jd_app jd_82_0 (jd_app jd_82_1 (jd_82_2))
set_option maxRecDepth 100000 in
theorem jd_83_0 : ∀ e ∈ jt_83_0, decode cX7_tryWays e.1 = .ok e.2 := by decide +kernel
set_option maxRecDepth 100000 in
theorem jd_83_1 : ∀ e ∈ jt_83_1, decode cX7_tryWays e.1 = .ok e.2 := by decide +kernel
theorem jd_83 : ∀ e ∈ jt_83, decode cX7_tryWays e.1 = .ok e.2 := jd_app jd_83_0 (jd_83_1)
set_option maxRecDepth 100000 in
theorem jd_84_0 : ∀ e ∈ jt_84_0, decode cX7_reach e.1 = .ok e.2 := by decide +kernel
set_option maxRecDepth 100000 in
theorem jd_84_1 : ∀ e ∈ jt_84_1, decode cX7_reach e.1 = .ok e.2 := by decide +kernel
theorem jd_84 : ∀ e ∈ jt_84, decode cX7_reach e.1 = .ok e.2 := jd_app jd_84_0 (jd_84_1)
set_option maxRecDepth 100000 in
theorem jd_85 : ∀ e ∈ jt_85, decode cX7_tracePath e.1 = .ok e.2 := by decide +kernel
set_option maxRecDepth 100000 in
theorem jd_86 : ∀ e ∈ jt_86, decode cX8_init e.1 = .ok e.2 := by decide +kernel
set_option maxRecDepth 100000 in
theorem jd_87 : ∀ e ∈ jt_87, decode cX8_empty e.1 = .ok e.2 := by decide +kernel
set_option maxRecDepth 100000 in
theorem jd_88 : ∀ e ∈ jt_88, decode cX8_slotOf e.1 = .ok e.2 := by decide +kernel
set_option maxRecDepth 100000 in
theorem jd_89 : ∀ e ∈ jt_89, decode cX8_has e.1 = .ok e.2 := by decide +kernel
set_option maxRecDepth 100000 in
theorem jd_90 : ∀ e ∈ jt_90, decode cX8_isSame e.1 = .ok e.2 := by decide +kernel
set_option maxRecDepth 100000 in
theorem jd_91 : ∀ e ∈ jt_91, decode cX8_add e.1 = .ok e.2 := by decide +kernel
set_option maxRecDepth 100000 in
theorem jd_92 : ∀ e ∈ jt_92, decode cX9_init e.1 = .ok e.2 := by decide +kernel
end
section
set_option maxRecDepth 100000 in
theorem jd_93 : ∀ e ∈ jt_93, decode cX9_empty e.1 = .ok e.2 := by decide +kernel
set_option maxRecDepth 100000 in
theorem jd_94 : ∀ e ∈ jt_94, decode cX9_slotOf e.1 = .ok e.2 := by decide +kernel
set_option maxRecDepth 100000 in
theorem jd_95 : ∀ e ∈ jt_95, decode cX9_has e.1 = .ok e.2 := by decide +kernel
set_option maxRecDepth 100000 in
theorem jd_96 : ∀ e ∈ jt_96, decode cX9_isFull e.1 = .ok e.2 := by decide +kernel
set_option maxRecDepth 100000 in
theorem jd_97 : ∀ e ∈ jt_97, decode cX9_isAgent e.1 = .ok e.2 := by decide +kernel
set_option maxRecDepth 100000 in
theorem jd_98 : ∀ e ∈ jt_98, decode cX9_isHonest e.1 = .ok e.2 := by decide +kernel
set_option maxRecDepth 100000 in
theorem jd_99 : ∀ e ∈ jt_99, decode cX9_mayBeAgent e.1 = .ok e.2 := by decide +kernel
set_option maxRecDepth 100000 in
theorem jd_100 : ∀ e ∈ jt_100, decode cX9_isOpen e.1 = .ok e.2 := by decide +kernel
set_option maxRecDepth 100000 in
theorem jd_101 : ∀ e ∈ jt_101, decode cX9_sizeOf e.1 = .ok e.2 := by decide +kernel
set_option maxRecDepth 100000 in
theorem jd_102 : ∀ e ∈ jt_102, decode cX9_find e.1 = .ok e.2 := by decide +kernel
set_option maxRecDepth 100000 in
theorem jd_103 : ∀ e ∈ jt_103, decode cX9_findFrom e.1 = .ok e.2 := by decide +kernel
set_option maxRecDepth 100000 in
theorem jd_104 : ∀ e ∈ jt_104, decode cX9_newAtom e.1 = .ok e.2 := by decide +kernel
set_option maxRecDepth 100000 in
theorem jd_105 : ∀ e ∈ jt_105, decode cX9_newVariable e.1 = .ok e.2 := by decide +kernel
set_option maxRecDepth 100000 in
theorem jd_106 : ∀ e ∈ jt_106, decode cX9_newCompound e.1 = .ok e.2 := by decide +kernel
set_option maxRecDepth 100000 in
theorem jd_107_0 : ∀ e ∈ jt_107_0, decode cX9_put e.1 = .ok e.2 := by decide +kernel
set_option maxRecDepth 100000 in
theorem jd_107_1 : ∀ e ∈ jt_107_1, decode cX9_put e.1 = .ok e.2 := by decide +kernel
theorem jd_107 : ∀ e ∈ jt_107, decode cX9_put e.1 = .ok e.2 := jd_app jd_107_0 (jd_107_1)
set_option maxRecDepth 100000 in
theorem jd_108 : ∀ e ∈ jt_108, decode cX10_init e.1 = .ok e.2 := by decide +kernel
set_option maxRecDepth 100000 in
theorem jd_109 : ∀ e ∈ jt_109, decode cX10_agent e.1 = .ok e.2 := by decide +kernel
set_option maxRecDepth 100000 in
theorem jd_110 : ∀ e ∈ jt_110, decode cX10_atom e.1 = .ok e.2 := by decide +kernel
set_option maxRecDepth 100000 in
theorem jd_111 : ∀ e ∈ jt_111, decode cX10_term e.1 = .ok e.2 := by decide +kernel
end
section
set_option maxRecDepth 100000 in
theorem jd_112 : ∀ e ∈ jt_112, decode cX10_of e.1 = .ok e.2 := by decide +kernel
set_option maxRecDepth 100000 in
theorem jd_113_0 : ∀ e ∈ jt_113_0, decode cX10_about e.1 = .ok e.2 := by decide +kernel
set_option maxRecDepth 100000 in
theorem jd_113_1 : ∀ e ∈ jt_113_1, decode cX10_about e.1 = .ok e.2 := by decide +kernel
set_option maxRecDepth 100000 in
theorem jd_113_2 : ∀ e ∈ jt_113_2, decode cX10_about e.1 = .ok e.2 := by decide +kernel
theorem jd_113 : ∀ e ∈ jt_113, decode cX10_about e.1 = .ok e.2 := jd_app jd_113_0 (jd_app jd_113_1 (jd_113_2))
set_option maxRecDepth 100000 in
theorem jd_114 : ∀ e ∈ jt_114, decode cX10_role e.1 = .ok e.2 := by decide +kernel
set_option maxRecDepth 100000 in
theorem jd_115 : ∀ e ∈ jt_115, decode cX10_variable e.1 = .ok e.2 := by decide +kernel
set_option maxRecDepth 100000 in
theorem jd_116 : ∀ e ∈ jt_116, decode cX10_event e.1 = .ok e.2 := by decide +kernel
set_option maxRecDepth 100000 in
theorem jd_117 : ∀ e ∈ jt_117, decode cX10_know e.1 = .ok e.2 := by decide +kernel
set_option maxRecDepth 100000 in
theorem jd_118_0 : ∀ e ∈ jt_118_0, decode cX10_session e.1 = .ok e.2 := by decide +kernel
set_option maxRecDepth 100000 in
theorem jd_118_1 : ∀ e ∈ jt_118_1, decode cX10_session e.1 = .ok e.2 := by decide +kernel
set_option maxRecDepth 100000 in
theorem jd_118_2 : ∀ e ∈ jt_118_2, decode cX10_session e.1 = .ok e.2 := by decide +kernel
end
section
theorem jd_118 : ∀ e ∈ jt_118, decode cX10_session e.1 = .ok e.2 := jd_app jd_118_0 (jd_app jd_118_1 (jd_118_2))
set_option maxRecDepth 100000 in
theorem jd_119 : ∀ e ∈ jt_119, decode cX10_secret e.1 = .ok e.2 := by decide +kernel
set_option maxRecDepth 100000 in
theorem jd_120 : ∀ e ∈ jt_120, decode cX10_agree e.1 = .ok e.2 := by decide +kernel
set_option maxRecDepth 100000 in
theorem jd_121 : ∀ e ∈ jt_121, decode cX10_join e.1 = .ok e.2 := by decide +kernel
set_option maxRecDepth 100000 in
theorem jd_122 : ∀ e ∈ jt_122, decode cX10_begin e.1 = .ok e.2 := by decide +kernel
set_option maxRecDepth 100000 in
theorem jd_123 : ∀ e ∈ jt_123, decode cX10_end e.1 = .ok e.2 := by decide +kernel
set_option maxRecDepth 100000 in
theorem jd_124 : ∀ e ∈ jt_124, decode cX10_send e.1 = .ok e.2 := by decide +kernel
set_option maxRecDepth 100000 in
theorem jd_125_0 : ∀ e ∈ jt_125_0, decode cX10_receive e.1 = .ok e.2 := by decide +kernel
set_option maxRecDepth 100000 in
theorem jd_125_1 : ∀ e ∈ jt_125_1, decode cX10_receive e.1 = .ok e.2 := by decide +kernel
theorem jd_125 : ∀ e ∈ jt_125, decode cX10_receive e.1 = .ok e.2 := jd_app jd_125_0 (jd_125_1)
set_option maxRecDepth 100000 in
theorem jd_126 : ∀ e ∈ jt_126, decode cX10_makes e.1 = .ok e.2 := by decide +kernel
set_option maxRecDepth 100000 in
theorem jd_127 : ∀ e ∈ jt_127, decode cX10_row e.1 = .ok e.2 := by decide +kernel
set_option maxRecDepth 100000 in
theorem jd_128 : ∀ e ∈ jt_128, decode cX10_stands e.1 = .ok e.2 := by decide +kernel
set_option maxRecDepth 100000 in
theorem jd_129 : ∀ e ∈ jt_129, decode cX10_done e.1 = .ok e.2 := by decide +kernel
set_option maxRecDepth 100000 in
theorem jd_130 : ∀ e ∈ jt_130, decode cX10_broken e.1 = .ok e.2 := by decide +kernel
end
section
set_option maxRecDepth 100000 in
theorem jd_131 : ∀ e ∈ jt_131, decode cX10_undo e.1 = .ok e.2 := by decide +kernel
set_option maxRecDepth 100000 in
theorem jd_132 : ∀ e ∈ jt_132, decode cX10_search e.1 = .ok e.2 := by decide +kernel
set_option maxRecDepth 100000 in
theorem jd_133 : ∀ e ∈ jt_133, decode cX10_found e.1 = .ok e.2 := by decide +kernel
set_option maxRecDepth 100000 in
theorem jd_134 : ∀ e ∈ jt_134, decode cX10_attack e.1 = .ok e.2 := by decide +kernel
set_option maxRecDepth 100000 in
theorem jd_135 : ∀ e ∈ jt_135, decode cX10_play e.1 = .ok e.2 := by decide +kernel
set_option maxRecDepth 100000 in
theorem jd_136 : ∀ e ∈ jt_136, decode cX10_told e.1 = .ok e.2 := by decide +kernel
set_option maxRecDepth 100000 in
theorem jd_137_0 : ∀ e ∈ jt_137_0, decode cX10_ofRole e.1 = .ok e.2 := by decide +kernel
set_option maxRecDepth 100000 in
theorem jd_137_1 : ∀ e ∈ jt_137_1, decode cX10_ofRole e.1 = .ok e.2 := by decide +kernel
set_option maxRecDepth 100000 in
theorem jd_137_2 : ∀ e ∈ jt_137_2, decode cX10_ofRole e.1 = .ok e.2 := by decide +kernel
theorem jd_137 : ∀ e ∈ jt_137, decode cX10_ofRole e.1 = .ok e.2 := jd_app jd_137_0 (jd_app jd_137_1 (jd_137_2))
set_option maxRecDepth 100000 in
theorem jd_138 : ∀ e ∈ jt_138, decode cX10_clear e.1 = .ok e.2 := by decide +kernel
set_option maxRecDepth 100000 in
theorem jd_139 : ∀ e ∈ jt_139, decode cX10_asNumber e.1 = .ok e.2 := by decide +kernel
set_option maxRecDepth 100000 in
theorem jd_140 : ∀ e ∈ jt_140, decode cX10_orNone e.1 = .ok e.2 := by decide +kernel
set_option maxRecDepth 100000 in
theorem jd_141 : ∀ e ∈ jt_141, decode cX10_maySort e.1 = .ok e.2 := by decide +kernel
set_option maxRecDepth 100000 in
theorem jd_142 : ∀ e ∈ jt_142, decode cX10_compound e.1 = .ok e.2 := by decide +kernel
set_option maxRecDepth 100000 in
theorem jd_143 : ∀ e ∈ jt_143, decode cX10_numbered e.1 = .ok e.2 := by decide +kernel
end
section
set_option maxRecDepth 100000 in
theorem jd_144_0 : ∀ e ∈ jt_144_0, decode cX11_init e.1 = .ok e.2 := by decide +kernel
set_option maxRecDepth 100000 in
theorem jd_144_1 : ∀ e ∈ jt_144_1, decode cX11_init e.1 = .ok e.2 := by decide +kernel
set_option maxRecDepth 100000 in
theorem jd_144_2 : ∀ e ∈ jt_144_2, decode cX11_init e.1 = .ok e.2 := by decide +kernel
set_option maxRecDepth 100000 in
theorem jd_144_3 : ∀ e ∈ jt_144_3, decode cX11_init e.1 = .ok e.2 := by decide +kernel
set_option maxRecDepth 100000 in
theorem jd_144_4 : ∀ e ∈ jt_144_4, decode cX11_init e.1 = .ok e.2 := by decide +kernel
set_option maxRecDepth 100000 in
theorem jd_144_5 : ∀ e ∈ jt_144_5, decode cX11_init e.1 = .ok e.2 := by decide +kernel
set_option maxRecDepth 100000 in
theorem jd_144_6 : ∀ e ∈ jt_144_6, decode cX11_init e.1 = .ok e.2 := by decide +kernel
theorem jd_144 : ∀ e ∈ jt_144, decode cX11_init e.1 = .ok e.2 := jd_app jd_144_0 (jd_app jd_144_1 (jd_app jd_144_2 (jd_app jd_144_3 (jd_app jd_144_4 (jd_app jd_144_5 (jd_144_6))))))
set_option maxRecDepth 100000 in
theorem jd_145 : ∀ e ∈ jt_145, decode cX11_in e.1 = .ok e.2 := by decide +kernel
set_option maxRecDepth 100000 in
theorem jd_146 : ∀ e ∈ jt_146, decode cX11_emptyTable e.1 = .ok e.2 := by decide +kernel
set_option maxRecDepth 100000 in
theorem jd_147 : ∀ e ∈ jt_147, decode cX11_placeOf e.1 = .ok e.2 := by decide +kernel
set_option maxRecDepth 100000 in
theorem jd_148 : ∀ e ∈ jt_148, decode cX11_find e.1 = .ok e.2 := by decide +kernel
set_option maxRecDepth 100000 in
theorem jd_149_0 : ∀ e ∈ jt_149_0, decode cX11_lay e.1 = .ok e.2 := by decide +kernel
set_option maxRecDepth 100000 in
theorem jd_149_1 : ∀ e ∈ jt_149_1, decode cX11_lay e.1 = .ok e.2 := by decide +kernel
end
