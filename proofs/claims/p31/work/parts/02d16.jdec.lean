section
theorem jd_149 : ∀ e ∈ jt_149, decode cX11_lay e.1 = .ok e.2 := jd_app jd_149_0 (jd_149_1)
set_option maxRecDepth 100000 in
theorem jd_150 : ∀ e ∈ jt_150, decode cX11_sizeOf e.1 = .ok e.2 := by decide +kernel
set_option maxRecDepth 100000 in
theorem jd_151 : ∀ e ∈ jt_151, decode cX11_release e.1 = .ok e.2 := by decide +kernel
set_option maxRecDepth 100000 in
theorem jd_152 : ∀ e ∈ jt_152, decode cX11_last e.1 = .ok e.2 := by decide +kernel
set_option maxRecDepth 100000 in
theorem jd_153 : ∀ e ∈ jt_153, decode cX11_made e.1 = .ok e.2 := by decide +kernel
set_option maxRecDepth 100000 in
theorem jd_154 : ∀ e ∈ jt_154, decode cX11_isTerm e.1 = .ok e.2 := by decide +kernel
set_option maxRecDepth 100000 in
theorem jd_155 : ∀ e ∈ jt_155, decode cX11_agent e.1 = .ok e.2 := by decide +kernel
set_option maxRecDepth 100000 in
theorem jd_156 : ∀ e ∈ jt_156, decode cX11_atom e.1 = .ok e.2 := by decide +kernel
set_option maxRecDepth 100000 in
theorem jd_157 : ∀ e ∈ jt_157, decode cX11_oldOrNew e.1 = .ok e.2 := by decide +kernel
set_option maxRecDepth 100000 in
theorem jd_158 : ∀ e ∈ jt_158, decode cX11_term e.1 = .ok e.2 := by decide +kernel
set_option maxRecDepth 100000 in
theorem jd_159 : ∀ e ∈ jt_159, decode cX11_of e.1 = .ok e.2 := by decide +kernel
set_option maxRecDepth 100000 in
theorem jd_160_0 : ∀ e ∈ jt_160_0, decode cX11_about e.1 = .ok e.2 := by decide +kernel
set_option maxRecDepth 100000 in
theorem jd_160_1 : ∀ e ∈ jt_160_1, decode cX11_about e.1 = .ok e.2 := by decide +kernel
set_option maxRecDepth 100000 in
theorem jd_160_2 : ∀ e ∈ jt_160_2, decode cX11_about e.1 = .ok e.2 := by decide +kernel
end
section
theorem jd_160 : ∀ e ∈ jt_160, decode cX11_about e.1 = .ok e.2 := jd_app jd_160_0 (jd_app jd_160_1 (jd_160_2))
set_option maxRecDepth 100000 in
theorem jd_161 : ∀ e ∈ jt_161, decode cX11_isRole e.1 = .ok e.2 := by decide +kernel
set_option maxRecDepth 100000 in
theorem jd_162 : ∀ e ∈ jt_162, decode cX11_role e.1 = .ok e.2 := by decide +kernel
set_option maxRecDepth 100000 in
theorem jd_163_0 : ∀ e ∈ jt_163_0, decode cX11_variable e.1 = .ok e.2 := by decide +kernel
set_option maxRecDepth 100000 in
theorem jd_163_1 : ∀ e ∈ jt_163_1, decode cX11_variable e.1 = .ok e.2 := by decide +kernel
set_option maxRecDepth 100000 in
theorem jd_163_2 : ∀ e ∈ jt_163_2, decode cX11_variable e.1 = .ok e.2 := by decide +kernel
theorem jd_163 : ∀ e ∈ jt_163, decode cX11_variable e.1 = .ok e.2 := jd_app jd_163_0 (jd_app jd_163_1 (jd_163_2))
set_option maxRecDepth 100000 in
theorem jd_164_0 : ∀ e ∈ jt_164_0, decode cX11_findVariables e.1 = .ok e.2 := by decide +kernel
set_option maxRecDepth 100000 in
theorem jd_164_1 : ∀ e ∈ jt_164_1, decode cX11_findVariables e.1 = .ok e.2 := by decide +kernel
set_option maxRecDepth 100000 in
theorem jd_164_2 : ∀ e ∈ jt_164_2, decode cX11_findVariables e.1 = .ok e.2 := by decide +kernel
theorem jd_164 : ∀ e ∈ jt_164, decode cX11_findVariables e.1 = .ok e.2 := jd_app jd_164_0 (jd_app jd_164_1 (jd_164_2))
set_option maxRecDepth 100000 in
theorem jd_165 : ∀ e ∈ jt_165, decode cX11_isReceived e.1 = .ok e.2 := by decide +kernel
set_option maxRecDepth 100000 in
theorem jd_166_0 : ∀ e ∈ jt_166_0, decode cX11_event e.1 = .ok e.2 := by decide +kernel
set_option maxRecDepth 100000 in
theorem jd_166_1 : ∀ e ∈ jt_166_1, decode cX11_event e.1 = .ok e.2 := by decide +kernel
end
section
set_option maxRecDepth 100000 in
theorem jd_166_2 : ∀ e ∈ jt_166_2, decode cX11_event e.1 = .ok e.2 := by decide +kernel
set_option maxRecDepth 100000 in
theorem jd_166_3 : ∀ e ∈ jt_166_3, decode cX11_event e.1 = .ok e.2 := by decide +kernel
theorem jd_166 : ∀ e ∈ jt_166, decode cX11_event e.1 = .ok e.2 := jd_app jd_166_0 (jd_app jd_166_1 (jd_app jd_166_2 (jd_166_3)))
set_option maxRecDepth 100000 in
theorem jd_167_0 : ∀ e ∈ jt_167_0, decode cX11_know e.1 = .ok e.2 := by decide +kernel
set_option maxRecDepth 100000 in
theorem jd_167_1 : ∀ e ∈ jt_167_1, decode cX11_know e.1 = .ok e.2 := by decide +kernel
theorem jd_167 : ∀ e ∈ jt_167, decode cX11_know e.1 = .ok e.2 := jd_app jd_167_0 (jd_167_1)
set_option maxRecDepth 100000 in
theorem jd_168 : ∀ e ∈ jt_168, decode cX11_isSession e.1 = .ok e.2 := by decide +kernel
set_option maxRecDepth 100000 in
theorem jd_169 : ∀ e ∈ jt_169, decode cX11_howManyAs e.1 = .ok e.2 := by decide +kernel
set_option maxRecDepth 100000 in
theorem jd_170_0 : ∀ e ∈ jt_170_0, decode cX11_session e.1 = .ok e.2 := by decide +kernel
set_option maxRecDepth 100000 in
theorem jd_170_1 : ∀ e ∈ jt_170_1, decode cX11_session e.1 = .ok e.2 := by decide +kernel
set_option maxRecDepth 100000 in
theorem jd_170_2 : ∀ e ∈ jt_170_2, decode cX11_session e.1 = .ok e.2 := by decide +kernel
set_option maxRecDepth 100000 in
theorem jd_170_3 : ∀ e ∈ jt_170_3, decode cX11_session e.1 = .ok e.2 := by decide +kernel
set_option maxRecDepth 100000 in
theorem jd_170_4 : ∀ e ∈ jt_170_4, decode cX11_session e.1 = .ok e.2 := by decide +kernel
theorem jd_170 : ∀ e ∈ jt_170, decode cX11_session e.1 = .ok e.2 := jd_app jd_170_0 (jd_app jd_170_1 (jd_app jd_170_2 (jd_app jd_170_3 (jd_170_4))))
set_option maxRecDepth 100000 in
theorem jd_171 : ∀ e ∈ jt_171, decode cX11_claim e.1 = .ok e.2 := by decide +kernel
end
section
set_option maxRecDepth 100000 in
theorem jd_172 : ∀ e ∈ jt_172, decode cX11_secret e.1 = .ok e.2 := by decide +kernel
set_option maxRecDepth 100000 in
theorem jd_173 : ∀ e ∈ jt_173, decode cX11_agree e.1 = .ok e.2 := by decide +kernel
set_option maxRecDepth 100000 in
theorem jd_174_0 : ∀ e ∈ jt_174_0, decode cX11_join e.1 = .ok e.2 := by decide +kernel
set_option maxRecDepth 100000 in
theorem jd_174_1 : ∀ e ∈ jt_174_1, decode cX11_join e.1 = .ok e.2 := by decide +kernel
set_option maxRecDepth 100000 in
theorem jd_174_2 : ∀ e ∈ jt_174_2, decode cX11_join e.1 = .ok e.2 := by decide +kernel
theorem jd_174 : ∀ e ∈ jt_174, decode cX11_join e.1 = .ok e.2 := jd_app jd_174_0 (jd_app jd_174_1 (jd_174_2))
set_option maxRecDepth 100000 in
theorem jd_175 : ∀ e ∈ jt_175, decode cX11_begins e.1 = .ok e.2 := by decide +kernel
set_option maxRecDepth 100000 in
theorem jd_176_0 : ∀ e ∈ jt_176_0, decode cX11_standsFor e.1 = .ok e.2 := by decide +kernel
set_option maxRecDepth 100000 in
theorem jd_176_1 : ∀ e ∈ jt_176_1, decode cX11_standsFor e.1 = .ok e.2 := by decide +kernel
set_option maxRecDepth 100000 in
theorem jd_176_2 : ∀ e ∈ jt_176_2, decode cX11_standsFor e.1 = .ok e.2 := by decide +kernel
theorem jd_176 : ∀ e ∈ jt_176, decode cX11_standsFor e.1 = .ok e.2 := jd_app jd_176_0 (jd_app jd_176_1 (jd_176_2))
set_option maxRecDepth 100000 in
theorem jd_177 : ∀ e ∈ jt_177, decode cX11_one e.1 = .ok e.2 := by decide +kernel
end
section
set_option maxRecDepth 100000 in
theorem jd_178 : ∀ e ∈ jt_178, decode cX11_comes e.1 = .ok e.2 := by decide +kernel
set_option maxRecDepth 100000 in
theorem jd_179 : ∀ e ∈ jt_179, decode cX11_beginRow e.1 = .ok e.2 := by decide +kernel
set_option maxRecDepth 100000 in
theorem jd_180 : ∀ e ∈ jt_180, decode cX11_hasPrivate e.1 = .ok e.2 := by decide +kernel
set_option maxRecDepth 100000 in
theorem jd_181_0 : ∀ e ∈ jt_181_0, decode cX11_isMade e.1 = .ok e.2 := by decide +kernel
set_option maxRecDepth 100000 in
theorem jd_181_1 : ∀ e ∈ jt_181_1, decode cX11_isMade e.1 = .ok e.2 := by decide +kernel
set_option maxRecDepth 100000 in
theorem jd_181_2 : ∀ e ∈ jt_181_2, decode cX11_isMade e.1 = .ok e.2 := by decide +kernel
theorem jd_181 : ∀ e ∈ jt_181, decode cX11_isMade e.1 = .ok e.2 := jd_app jd_181_0 (jd_app jd_181_1 (jd_181_2))
set_option maxRecDepth 100000 in
theorem jd_182 : ∀ e ∈ jt_182, decode cX11_canMake e.1 = .ok e.2 := by decide +kernel
set_option maxRecDepth 100000 in
theorem jd_183 : ∀ e ∈ jt_183, decode cX11_endRow e.1 = .ok e.2 := by decide +kernel
set_option maxRecDepth 100000 in
theorem jd_184_0 : ∀ e ∈ jt_184_0, decode cX11_takeApart e.1 = .ok e.2 := by decide +kernel
set_option maxRecDepth 100000 in
theorem jd_184_1 : ∀ e ∈ jt_184_1, decode cX11_takeApart e.1 = .ok e.2 := by decide +kernel
theorem jd_184 : ∀ e ∈ jt_184, decode cX11_takeApart e.1 = .ok e.2 := jd_app jd_184_0 (jd_184_1)
set_option maxRecDepth 100000 in
theorem jd_185 : ∀ e ∈ jt_185, decode cX11_isHonest e.1 = .ok e.2 := by decide +kernel
end
section
set_option maxRecDepth 100000 in
theorem jd_186 : ∀ e ∈ jt_186, decode cX11_isLost e.1 = .ok e.2 := by decide +kernel
set_option maxRecDepth 100000 in
theorem jd_187_0 : ∀ e ∈ jt_187_0, decode cX11_fits e.1 = .ok e.2 := by decide +kernel
set_option maxRecDepth 100000 in
theorem jd_187_1 : ∀ e ∈ jt_187_1, decode cX11_fits e.1 = .ok e.2 := by decide +kernel
theorem jd_187 : ∀ e ∈ jt_187, decode cX11_fits e.1 = .ok e.2 := jd_app jd_187_0 (jd_187_1)
set_option maxRecDepth 100000 in
theorem jd_188_0 : ∀ e ∈ jt_188_0, decode cX11_isApart e.1 = .ok e.2 := by decide +kernel
set_option maxRecDepth 100000 in
theorem jd_188_1 : ∀ e ∈ jt_188_1, decode cX11_isApart e.1 = .ok e.2 := by decide +kernel
set_option maxRecDepth 100000 in
theorem jd_188_2 : ∀ e ∈ jt_188_2, decode cX11_isApart e.1 = .ok e.2 := by decide +kernel
theorem jd_188 : ∀ e ∈ jt_188, decode cX11_isApart e.1 = .ok e.2 := jd_app jd_188_0 (jd_app jd_188_1 (jd_188_2))
set_option maxRecDepth 100000 in
theorem jd_189 : ∀ e ∈ jt_189, decode cX11_isBroken e.1 = .ok e.2 := by decide +kernel
set_option maxRecDepth 100000 in
theorem jd_190_0 : ∀ e ∈ jt_190_0, decode cX11_runRow e.1 = .ok e.2 := by decide +kernel
set_option maxRecDepth 100000 in
theorem jd_190_1 : ∀ e ∈ jt_190_1, decode cX11_runRow e.1 = .ok e.2 := by decide +kernel
theorem jd_190 : ∀ e ∈ jt_190, decode cX11_runRow e.1 = .ok e.2 := jd_app jd_190_0 (jd_190_1)
set_option maxRecDepth 100000 in
theorem jd_191 : ∀ e ∈ jt_191, decode cX11_begin e.1 = .ok e.2 := by decide +kernel
set_option maxRecDepth 100000 in
theorem jd_192 : ∀ e ∈ jt_192, decode cX11_end e.1 = .ok e.2 := by decide +kernel
set_option maxRecDepth 100000 in
theorem jd_193 : ∀ e ∈ jt_193, decode cX11_nextEvent e.1 = .ok e.2 := by decide +kernel
set_option maxRecDepth 100000 in
theorem jd_194 : ∀ e ∈ jt_194, decode cX11_does e.1 = .ok e.2 := by decide +kernel
end
section
set_option maxRecDepth 100000 in
theorem jd_195 : ∀ e ∈ jt_195, decode cX11_send e.1 = .ok e.2 := by decide +kernel
set_option maxRecDepth 100000 in
theorem jd_196_0 : ∀ e ∈ jt_196_0, decode cX11_bindsTo e.1 = .ok e.2 := by decide +kernel
set_option maxRecDepth 100000 in
theorem jd_196_1 : ∀ e ∈ jt_196_1, decode cX11_bindsTo e.1 = .ok e.2 := by decide +kernel
set_option maxRecDepth 100000 in
theorem jd_196_2 : ∀ e ∈ jt_196_2, decode cX11_bindsTo e.1 = .ok e.2 := by decide +kernel
set_option maxRecDepth 100000 in
theorem jd_196_3 : ∀ e ∈ jt_196_3, decode cX11_bindsTo e.1 = .ok e.2 := by decide +kernel
set_option maxRecDepth 100000 in
theorem jd_196_4 : ∀ e ∈ jt_196_4, decode cX11_bindsTo e.1 = .ok e.2 := by decide +kernel
theorem jd_196 : ∀ e ∈ jt_196, decode cX11_bindsTo e.1 = .ok e.2 := jd_app jd_196_0 (jd_app jd_196_1 (jd_app jd_196_2 (jd_app jd_196_3 (jd_196_4))))
set_option maxRecDepth 100000 in
theorem jd_197_0 : ∀ e ∈ jt_197_0, decode cX11_receive e.1 = .ok e.2 := by decide +kernel
set_option maxRecDepth 100000 in
theorem jd_197_1 : ∀ e ∈ jt_197_1, decode cX11_receive e.1 = .ok e.2 := by decide +kernel
set_option maxRecDepth 100000 in
theorem jd_197_2 : ∀ e ∈ jt_197_2, decode cX11_receive e.1 = .ok e.2 := by decide +kernel
theorem jd_197 : ∀ e ∈ jt_197, decode cX11_receive e.1 = .ok e.2 := jd_app jd_197_0 (jd_app jd_197_1 (jd_197_2))
set_option maxRecDepth 100000 in
theorem jd_198 : ∀ e ∈ jt_198, decode cX11_makes e.1 = .ok e.2 := by decide +kernel
set_option maxRecDepth 100000 in
theorem jd_199_0 : ∀ e ∈ jt_199_0, decode cX11_findOrder e.1 = .ok e.2 := by decide +kernel
end
