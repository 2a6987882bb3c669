section
set_option maxRecDepth 100000 in
theorem jd_199_1 : ∀ e ∈ jt_199_1, decode cX11_findOrder e.1 = .ok e.2 := by decide +kernel
set_option maxRecDepth 100000 in
theorem jd_199_2 : ∀ e ∈ jt_199_2, decode cX11_findOrder e.1 = .ok e.2 := by decide +kernel
theorem jd_199 : ∀ e ∈ jt_199, decode cX11_findOrder e.1 = .ok e.2 := jd_app jd_199_0 (jd_app jd_199_1 (jd_199_2))
set_option maxRecDepth 100000 in
theorem jd_200 : ∀ e ∈ jt_200, decode cX11_isOpen e.1 = .ok e.2 := by decide +kernel
set_option maxRecDepth 100000 in
theorem jd_201 : ∀ e ∈ jt_201, decode cX11_inOrder e.1 = .ok e.2 := by decide +kernel
set_option maxRecDepth 100000 in
theorem jd_202 : ∀ e ∈ jt_202, decode cX11_lastOf e.1 = .ok e.2 := by decide +kernel
set_option maxRecDepth 100000 in
theorem jd_203_0 : ∀ e ∈ jt_203_0, decode cX11_lasting e.1 = .ok e.2 := by decide +kernel
set_option maxRecDepth 100000 in
theorem jd_203_1 : ∀ e ∈ jt_203_1, decode cX11_lasting e.1 = .ok e.2 := by decide +kernel
set_option maxRecDepth 100000 in
theorem jd_203_2 : ∀ e ∈ jt_203_2, decode cX11_lasting e.1 = .ok e.2 := by decide +kernel
theorem jd_203 : ∀ e ∈ jt_203, decode cX11_lasting e.1 = .ok e.2 := jd_app jd_203_0 (jd_app jd_203_1 (jd_203_2))
set_option maxRecDepth 100000 in
theorem jd_204_0 : ∀ e ∈ jt_204_0, decode cX11_row e.1 = .ok e.2 := by decide +kernel
set_option maxRecDepth 100000 in
theorem jd_204_1 : ∀ e ∈ jt_204_1, decode cX11_row e.1 = .ok e.2 := by decide +kernel
theorem jd_204 : ∀ e ∈ jt_204, decode cX11_row e.1 = .ok e.2 := jd_app jd_204_0 (jd_204_1)
set_option maxRecDepth 100000 in
theorem jd_205 : ∀ e ∈ jt_205, decode cX11_stands e.1 = .ok e.2 := by decide +kernel
set_option maxRecDepth 100000 in
theorem jd_206 : ∀ e ∈ jt_206, decode cX11_done e.1 = .ok e.2 := by decide +kernel
set_option maxRecDepth 100000 in
theorem jd_207 : ∀ e ∈ jt_207, decode cX11_broken e.1 = .ok e.2 := by decide +kernel
set_option maxRecDepth 100000 in
theorem jd_208_0 : ∀ e ∈ jt_208_0, decode cX11_undo e.1 = .ok e.2 := by decide +kernel
end
section
set_option maxRecDepth 100000 in
theorem jd_208_1 : ∀ e ∈ jt_208_1, decode cX11_undo e.1 = .ok e.2 := by decide +kernel
theorem jd_208 : ∀ e ∈ jt_208, decode cX11_undo e.1 = .ok e.2 := jd_app jd_208_0 (jd_208_1)
set_option maxRecDepth 100000 in
theorem jd_209 : ∀ e ∈ jt_209, decode cX11_forget e.1 = .ok e.2 := by decide +kernel
set_option maxRecDepth 100000 in
theorem jd_210 : ∀ e ∈ jt_210, decode cX11_takeState e.1 = .ok e.2 := by decide +kernel
set_option maxRecDepth 100000 in
theorem jd_211 : ∀ e ∈ jt_211, decode cX11_stateRow e.1 = .ok e.2 := by decide +kernel
set_option maxRecDepth 100000 in
theorem jd_212_0 : ∀ e ∈ jt_212_0, decode cX11_isThere e.1 = .ok e.2 := by decide +kernel
set_option maxRecDepth 100000 in
theorem jd_212_1 : ∀ e ∈ jt_212_1, decode cX11_isThere e.1 = .ok e.2 := by decide +kernel
theorem jd_212 : ∀ e ∈ jt_212, decode cX11_isThere e.1 = .ok e.2 := jd_app jd_212_0 (jd_212_1)
set_option maxRecDepth 100000 in
theorem jd_213_0 : ∀ e ∈ jt_213_0, decode cX11_comesToBe e.1 = .ok e.2 := by decide +kernel
set_option maxRecDepth 100000 in
theorem jd_213_1 : ∀ e ∈ jt_213_1, decode cX11_comesToBe e.1 = .ok e.2 := by decide +kernel
set_option maxRecDepth 100000 in
theorem jd_213_2 : ∀ e ∈ jt_213_2, decode cX11_comesToBe e.1 = .ok e.2 := by decide +kernel
set_option maxRecDepth 100000 in
theorem jd_213_3 : ∀ e ∈ jt_213_3, decode cX11_comesToBe e.1 = .ok e.2 := by decide +kernel
theorem jd_213 : ∀ e ∈ jt_213, decode cX11_comesToBe e.1 = .ok e.2 := jd_app jd_213_0 (jd_app jd_213_1 (jd_app jd_213_2 (jd_213_3)))
set_option maxRecDepth 100000 in
theorem jd_214 : ∀ e ∈ jt_214, decode cX11_isOfSort e.1 = .ok e.2 := by decide +kernel
end
section
set_option maxRecDepth 100000 in
theorem jd_215 : ∀ e ∈ jt_215, decode cX11_nextOf e.1 = .ok e.2 := by decide +kernel
set_option maxRecDepth 100000 in
theorem jd_216 : ∀ e ∈ jt_216, decode cX11_howMany e.1 = .ok e.2 := by decide +kernel
set_option maxRecDepth 100000 in
theorem jd_217_0 : ∀ e ∈ jt_217_0, decode cX11_receives e.1 = .ok e.2 := by decide +kernel
set_option maxRecDepth 100000 in
theorem jd_217_1 : ∀ e ∈ jt_217_1, decode cX11_receives e.1 = .ok e.2 := by decide +kernel
set_option maxRecDepth 100000 in
theorem jd_217_2 : ∀ e ∈ jt_217_2, decode cX11_receives e.1 = .ok e.2 := by decide +kernel
set_option maxRecDepth 100000 in
theorem jd_217_3 : ∀ e ∈ jt_217_3, decode cX11_receives e.1 = .ok e.2 := by decide +kernel
set_option maxRecDepth 100000 in
theorem jd_217_4 : ∀ e ∈ jt_217_4, decode cX11_receives e.1 = .ok e.2 := by decide +kernel
set_option maxRecDepth 100000 in
theorem jd_217_5 : ∀ e ∈ jt_217_5, decode cX11_receives e.1 = .ok e.2 := by decide +kernel
theorem jd_217 : ∀ e ∈ jt_217, decode cX11_receives e.1 = .ok e.2 := jd_app jd_217_0 (jd_app jd_217_1 (jd_app jd_217_2 (jd_app jd_217_3 (jd_app jd_217_4 (jd_217_5)))))
set_option maxRecDepth 100000 in
theorem jd_218_0 : ∀ e ∈ jt_218_0, decode cX11_goesOn e.1 = .ok e.2 := by decide +kernel
set_option maxRecDepth 100000 in
theorem jd_218_1 : ∀ e ∈ jt_218_1, decode cX11_goesOn e.1 = .ok e.2 := by decide +kernel
theorem jd_218 : ∀ e ∈ jt_218, decode cX11_goesOn e.1 = .ok e.2 := jd_app jd_218_0 (jd_218_1)
set_option maxRecDepth 100000 in
theorem jd_219 : ∀ e ∈ jt_219, decode cX11_noteAttack e.1 = .ok e.2 := by decide +kernel
end
section
set_option maxRecDepth 100000 in
theorem jd_220_0 : ∀ e ∈ jt_220_0, decode cX11_search e.1 = .ok e.2 := by decide +kernel
set_option maxRecDepth 100000 in
theorem jd_220_1 : ∀ e ∈ jt_220_1, decode cX11_search e.1 = .ok e.2 := by decide +kernel
set_option maxRecDepth 100000 in
theorem jd_220_2 : ∀ e ∈ jt_220_2, decode cX11_search e.1 = .ok e.2 := by decide +kernel
theorem jd_220 : ∀ e ∈ jt_220, decode cX11_search e.1 = .ok e.2 := jd_app jd_220_0 (jd_app jd_220_1 (jd_220_2))
set_option maxRecDepth 100000 in
theorem jd_221 : ∀ e ∈ jt_221, decode cX11_found e.1 = .ok e.2 := by decide +kernel
set_option maxRecDepth 100000 in
theorem jd_222 : ∀ e ∈ jt_222, decode cX11_attack e.1 = .ok e.2 := by decide +kernel
set_option maxRecDepth 100000 in
theorem jd_223_0 : ∀ e ∈ jt_223_0, decode cX11_play e.1 = .ok e.2 := by decide +kernel
set_option maxRecDepth 100000 in
theorem jd_223_1 : ∀ e ∈ jt_223_1, decode cX11_play e.1 = .ok e.2 := by decide +kernel
set_option maxRecDepth 100000 in
theorem jd_223_2 : ∀ e ∈ jt_223_2, decode cX11_play e.1 = .ok e.2 := by decide +kernel
theorem jd_223 : ∀ e ∈ jt_223, decode cX11_play e.1 = .ok e.2 := jd_app jd_223_0 (jd_app jd_223_1 (jd_223_2))
set_option maxRecDepth 100000 in
theorem jd_224 : ∀ e ∈ jt_224, decode cX11_told e.1 = .ok e.2 := by decide +kernel
set_option maxRecDepth 100000 in
theorem jd_225_0 : ∀ e ∈ jt_225_0, decode cX11_ofRole e.1 = .ok e.2 := by decide +kernel
set_option maxRecDepth 100000 in
theorem jd_225_1 : ∀ e ∈ jt_225_1, decode cX11_ofRole e.1 = .ok e.2 := by decide +kernel
set_option maxRecDepth 100000 in
theorem jd_225_2 : ∀ e ∈ jt_225_2, decode cX11_ofRole e.1 = .ok e.2 := by decide +kernel
end
section
theorem jd_225 : ∀ e ∈ jt_225, decode cX11_ofRole e.1 = .ok e.2 := jd_app jd_225_0 (jd_app jd_225_1 (jd_225_2))
set_option maxRecDepth 100000 in
theorem jd_226 : ∀ e ∈ jt_226, decode cX11_clear e.1 = .ok e.2 := by decide +kernel
set_option maxRecDepth 100000 in
theorem jd_227 : ∀ e ∈ jt_227, decode cJ7_fill_53178 e.1 = .ok e.2 := by decide +kernel
set_option maxRecDepth 100000 in
theorem jd_228 : ∀ e ∈ jt_228, decode cJ9_floorMod_7cf53 e.1 = .ok e.2 := by decide +kernel
set_option maxRecDepth 100000 in
theorem jd_229 : ∀ e ∈ jt_229, decode cJ9_max_7cf53 e.1 = .ok e.2 := by decide +kernel
set_option maxRecDepth 100000 in
theorem jd_230 : ∀ e ∈ jt_230, decode cJ9_min_7cf53 e.1 = .ok e.2 := by decide +kernel
end
