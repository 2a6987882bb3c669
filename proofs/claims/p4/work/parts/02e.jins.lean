set_option maxRecDepth 100000 in
theorem jd_all : ∀ q ∈ jm_L, ∀ e ∈ q.2.2.2.2.2.2, decode q.2.1 e.1 = .ok e.2 := by
  intro q hq
  have hq : q ∈ [jq_0, jq_1, jq_2, jq_3, jq_4, jq_5, jq_6, jq_7, jq_8, jq_9, jq_10, jq_11, jq_12, jq_13, jq_14, jq_15, jq_16, jq_17, jq_18, jq_19, jq_20, jq_21, jq_22, jq_23, jq_24, jq_25, jq_26, jq_27, jq_28, jq_29, jq_30, jq_31, jq_32, jq_33, jq_34, jq_35, jq_36, jq_37, jq_38, jq_39, jq_40, jq_41, jq_42, jq_43, jq_44, jq_45, jq_46, jq_47, jq_48, jq_49, jq_50, jq_51, jq_52, jq_53, jq_54, jq_55, jq_56, jq_57, jq_58, jq_59, jq_60, jq_61, jq_62, jq_63, jq_64, jq_65, jq_66, jq_67, jq_68, jq_69, jq_70, jq_71, jq_72, jq_73, jq_74, jq_75, jq_76, jq_77, jq_78, jq_79, jq_80, jq_81, jq_82, jq_83, jq_84, jq_85, jq_86, jq_87, jq_88, jq_89, jq_90, jq_91, jq_92, jq_93, jq_94, jq_95, jq_96, jq_97, jq_98, jq_99, jq_100, jq_101, jq_102, jq_103, jq_104, jq_105, jq_106, jq_107, jq_108, jq_109, jq_110, jq_111, jq_112, jq_113, jq_114, jq_115, jq_116, jq_117, jq_118, jq_119, jq_120, jq_121, jq_122, jq_123, jq_124, jq_125, jq_126, jq_127, jq_128, jq_129, jq_130, jq_131, jq_132, jq_133, jq_134, jq_135, jq_136, jq_137, jq_138, jq_139, jq_140, jq_141, jq_142, jq_143, jq_144, jq_145, jq_146, jq_147, jq_148, jq_149, jq_150, jq_151, jq_152, jq_153, jq_154, jq_155, jq_156, jq_157, jq_158, jq_159, jq_160, jq_161, jq_162, jq_163, jq_164, jq_165, jq_166, jq_167, jq_168, jq_169, jq_170, jq_171, jq_172, jq_173, jq_174, jq_175, jq_176, jq_177, jq_178, jq_179, jq_180, jq_181, jq_182, jq_183, jq_184, jq_185, jq_186, jq_187, jq_188, jq_189, jq_190, jq_191, jq_192, jq_193, jq_194, jq_195, jq_196, jq_197, jq_198, jq_199, jq_200, jq_201, jq_202, jq_203, jq_204, jq_205, jq_206, jq_207, jq_208, jq_209, jq_210, jq_211, jq_212, jq_213, jq_214, jq_215, jq_216, jq_217, jq_218, jq_219, jq_220, jq_221, jq_222, jq_223, jq_224, jq_225, jq_226, jq_227, jq_228, jq_229, jq_230] := hq
  rcases List.mem_cons.mp hq with rfl | hq
  · exact jd_0
  rcases List.mem_cons.mp hq with rfl | hq
  · exact jd_1
  rcases List.mem_cons.mp hq with rfl | hq
  · exact jd_2
  rcases List.mem_cons.mp hq with rfl | hq
  · exact jd_3
  rcases List.mem_cons.mp hq with rfl | hq
  · exact jd_4
  rcases List.mem_cons.mp hq with rfl | hq
  · exact jd_5
  rcases List.mem_cons.mp hq with rfl | hq
  · exact jd_6
  rcases List.mem_cons.mp hq with rfl | hq
  · exact jd_7
  rcases List.mem_cons.mp hq with rfl | hq
  · exact jd_8
  rcases List.mem_cons.mp hq with rfl | hq
  · exact jd_9
  rcases List.mem_cons.mp hq with rfl | hq
  · exact jd_10
  rcases List.mem_cons.mp hq with rfl | hq
  · exact jd_11
  rcases List.mem_cons.mp hq with rfl | hq
  · exact jd_12
  rcases List.mem_cons.mp hq with rfl | hq
  · exact jd_13
  rcases List.mem_cons.mp hq with rfl | hq
  · exact jd_14
  rcases List.mem_cons.mp hq with rfl | hq
  · exact jd_15
  rcases List.mem_cons.mp hq with rfl | hq
  · exact jd_16
  rcases List.mem_cons.mp hq with rfl | hq
  · exact jd_17
  rcases List.mem_cons.mp hq with rfl | hq
  · exact jd_18
  rcases List.mem_cons.mp hq with rfl | hq
  · exact jd_19
  rcases List.mem_cons.mp hq with rfl | hq
  · exact jd_20
  rcases List.mem_cons.mp hq with rfl | hq
  · exact jd_21
  rcases List.mem_cons.mp hq with rfl | hq
  · exact jd_22
  rcases List.mem_cons.mp hq with rfl | hq
  · exact jd_23
  rcases List.mem_cons.mp hq with rfl | hq
  · exact jd_24
  rcases List.mem_cons.mp hq with rfl | hq
  · exact jd_25
  rcases List.mem_cons.mp hq with rfl | hq
  · exact jd_26
  rcases List.mem_cons.mp hq with rfl | hq
  · exact jd_27
  rcases List.mem_cons.mp hq with rfl | hq
  · exact jd_28
  rcases List.mem_cons.mp hq with rfl | hq
  · exact jd_29
  rcases List.mem_cons.mp hq with rfl | hq
  · exact jd_30
  rcases List.mem_cons.mp hq with rfl | hq
  · exact jd_31
  rcases List.mem_cons.mp hq with rfl | hq
  · exact jd_32
  rcases List.mem_cons.mp hq with rfl | hq
  · exact jd_33
  rcases List.mem_cons.mp hq with rfl | hq
  · exact jd_34
  rcases List.mem_cons.mp hq with rfl | hq
  · exact jd_35
  rcases List.mem_cons.mp hq with rfl | hq
  · exact jd_36
  rcases List.mem_cons.mp hq with rfl | hq
  · exact jd_37
  rcases List.mem_cons.mp hq with rfl | hq
  · exact jd_38
  rcases List.mem_cons.mp hq with rfl | hq
  · exact jd_39
  rcases List.mem_cons.mp hq with rfl | hq
  · exact jd_40
  rcases List.mem_cons.mp hq with rfl | hq
  · exact jd_41
  rcases List.mem_cons.mp hq with rfl | hq
  · exact jd_42
  rcases List.mem_cons.mp hq with rfl | hq
  · exact jd_43
  rcases List.mem_cons.mp hq with rfl | hq
  · exact jd_44
  rcases List.mem_cons.mp hq with rfl | hq
  · exact jd_45
  rcases List.mem_cons.mp hq with rfl | hq
  · exact jd_46
  rcases List.mem_cons.mp hq with rfl | hq
  · exact jd_47
  rcases List.mem_cons.mp hq with rfl | hq
  · exact jd_48
  rcases List.mem_cons.mp hq with rfl | hq
  · exact jd_49
  rcases List.mem_cons.mp hq with rfl | hq
  · exact jd_50
  rcases List.mem_cons.mp hq with rfl | hq
  · exact jd_51
  rcases List.mem_cons.mp hq with rfl | hq
  · exact jd_52
  rcases List.mem_cons.mp hq with rfl | hq
  · exact jd_53
  rcases List.mem_cons.mp hq with rfl | hq
  · exact jd_54
  rcases List.mem_cons.mp hq with rfl | hq
  · exact jd_55
  rcases List.mem_cons.mp hq with rfl | hq
  · exact jd_56
  rcases List.mem_cons.mp hq with rfl | hq
  · exact jd_57
  rcases List.mem_cons.mp hq with rfl | hq
  · exact jd_58
  rcases List.mem_cons.mp hq with rfl | hq
  · exact jd_59
  rcases List.mem_cons.mp hq with rfl | hq
  · exact jd_60
  rcases List.mem_cons.mp hq with rfl | hq
  · exact jd_61
  rcases List.mem_cons.mp hq with rfl | hq
  · exact jd_62
  rcases List.mem_cons.mp hq with rfl | hq
  · exact jd_63
  rcases List.mem_cons.mp hq with rfl | hq
  · exact jd_64
  rcases List.mem_cons.mp hq with rfl | hq
  · exact jd_65
  rcases List.mem_cons.mp hq with rfl | hq
  · exact jd_66
  rcases List.mem_cons.mp hq with rfl | hq
  · exact jd_67
  rcases List.mem_cons.mp hq with rfl | hq
  · exact jd_68
  rcases List.mem_cons.mp hq with rfl | hq
  · exact jd_69
  rcases List.mem_cons.mp hq with rfl | hq
  · exact jd_70
  rcases List.mem_cons.mp hq with rfl | hq
  · exact jd_71
  rcases List.mem_cons.mp hq with rfl | hq
  · exact jd_72
  rcases List.mem_cons.mp hq with rfl | hq
  · exact jd_73
  rcases List.mem_cons.mp hq with rfl | hq
  · exact jd_74
  rcases List.mem_cons.mp hq with rfl | hq
  · exact jd_75
  rcases List.mem_cons.mp hq with rfl | hq
  · exact jd_76
  rcases List.mem_cons.mp hq with rfl | hq
  · exact jd_77
  rcases List.mem_cons.mp hq with rfl | hq
  · exact jd_78
  rcases List.mem_cons.mp hq with rfl | hq
  · exact jd_79
  rcases List.mem_cons.mp hq with rfl | hq
  · exact jd_80
  rcases List.mem_cons.mp hq with rfl | hq
  · exact jd_81
  rcases List.mem_cons.mp hq with rfl | hq
  · exact jd_82
  rcases List.mem_cons.mp hq with rfl | hq
  · exact jd_83
  rcases List.mem_cons.mp hq with rfl | hq
  · exact jd_84
  rcases List.mem_cons.mp hq with rfl | hq
  · exact jd_85
  rcases List.mem_cons.mp hq with rfl | hq
  · exact jd_86
  rcases List.mem_cons.mp hq with rfl | hq
  · exact jd_87
  rcases List.mem_cons.mp hq with rfl | hq
  · exact jd_88
  rcases List.mem_cons.mp hq with rfl | hq
  · exact jd_89
  rcases List.mem_cons.mp hq with rfl | hq
  · exact jd_90
  rcases List.mem_cons.mp hq with rfl | hq
  · exact jd_91
  rcases List.mem_cons.mp hq with rfl | hq
  · exact jd_92
  rcases List.mem_cons.mp hq with rfl | hq
  · exact jd_93
  rcases List.mem_cons.mp hq with rfl | hq
  · exact jd_94
  rcases List.mem_cons.mp hq with rfl | hq
  · exact jd_95
  rcases List.mem_cons.mp hq with rfl | hq
  · exact jd_96
  rcases List.mem_cons.mp hq with rfl | hq
  · exact jd_97
  rcases List.mem_cons.mp hq with rfl | hq
  · exact jd_98
  rcases List.mem_cons.mp hq with rfl | hq
  · exact jd_99
  rcases List.mem_cons.mp hq with rfl | hq
  · exact jd_100
  rcases List.mem_cons.mp hq with rfl | hq
  · exact jd_101
  rcases List.mem_cons.mp hq with rfl | hq
  · exact jd_102
  rcases List.mem_cons.mp hq with rfl | hq
  · exact jd_103
  rcases List.mem_cons.mp hq with rfl | hq
  · exact jd_104
  rcases List.mem_cons.mp hq with rfl | hq
  · exact jd_105
  rcases List.mem_cons.mp hq with rfl | hq
  · exact jd_106
  rcases List.mem_cons.mp hq with rfl | hq
  · exact jd_107
  rcases List.mem_cons.mp hq with rfl | hq
  · exact jd_108
  rcases List.mem_cons.mp hq with rfl | hq
  · exact jd_109
  rcases List.mem_cons.mp hq with rfl | hq
  · exact jd_110
  rcases List.mem_cons.mp hq with rfl | hq
  · exact jd_111
  rcases List.mem_cons.mp hq with rfl | hq
  · exact jd_112
  rcases List.mem_cons.mp hq with rfl | hq
  · exact jd_113
  rcases List.mem_cons.mp hq with rfl | hq
  · exact jd_114
  rcases List.mem_cons.mp hq with rfl | hq
  · exact jd_115
  rcases List.mem_cons.mp hq with rfl | hq
  · exact jd_116
  rcases List.mem_cons.mp hq with rfl | hq
  · exact jd_117
  rcases List.mem_cons.mp hq with rfl | hq
  · exact jd_118
  rcases List.mem_cons.mp hq with rfl | hq
  · exact jd_119
  rcases List.mem_cons.mp hq with rfl | hq
  · exact jd_120
  rcases List.mem_cons.mp hq with rfl | hq
  · exact jd_121
  rcases List.mem_cons.mp hq with rfl | hq
  · exact jd_122
  rcases List.mem_cons.mp hq with rfl | hq
  · exact jd_123
  rcases List.mem_cons.mp hq with rfl | hq
  · exact jd_124
  rcases List.mem_cons.mp hq with rfl | hq
  · exact jd_125
  rcases List.mem_cons.mp hq with rfl | hq
  · exact jd_126
  rcases List.mem_cons.mp hq with rfl | hq
  · exact jd_127
  rcases List.mem_cons.mp hq with rfl | hq
  · exact jd_128
  rcases List.mem_cons.mp hq with rfl | hq
  · exact jd_129
  rcases List.mem_cons.mp hq with rfl | hq
  · exact jd_130
  rcases List.mem_cons.mp hq with rfl | hq
  · exact jd_131
  rcases List.mem_cons.mp hq with rfl | hq
  · exact jd_132
  rcases List.mem_cons.mp hq with rfl | hq
  · exact jd_133
  rcases List.mem_cons.mp hq with rfl | hq
  · exact jd_134
  rcases List.mem_cons.mp hq with rfl | hq
  · exact jd_135
  rcases List.mem_cons.mp hq with rfl | hq
  · exact jd_136
  rcases List.mem_cons.mp hq with rfl | hq
  · exact jd_137
  rcases List.mem_cons.mp hq with rfl | hq
  · exact jd_138
  rcases List.mem_cons.mp hq with rfl | hq
  · exact jd_139
  rcases List.mem_cons.mp hq with rfl | hq
  · exact jd_140
  rcases List.mem_cons.mp hq with rfl | hq
  · exact jd_141
  rcases List.mem_cons.mp hq with rfl | hq
  · exact jd_142
  rcases List.mem_cons.mp hq with rfl | hq
  · exact jd_143
  rcases List.mem_cons.mp hq with rfl | hq
  · exact jd_144
  rcases List.mem_cons.mp hq with rfl | hq
  · exact jd_145
  rcases List.mem_cons.mp hq with rfl | hq
  · exact jd_146
  rcases List.mem_cons.mp hq with rfl | hq
  · exact jd_147
  rcases List.mem_cons.mp hq with rfl | hq
  · exact jd_148
  rcases List.mem_cons.mp hq with rfl | hq
  · exact jd_149
  rcases List.mem_cons.mp hq with rfl | hq
  · exact jd_150
  rcases List.mem_cons.mp hq with rfl | hq
  · exact jd_151
  rcases List.mem_cons.mp hq with rfl | hq
  · exact jd_152
  rcases List.mem_cons.mp hq with rfl | hq
  · exact jd_153
  rcases List.mem_cons.mp hq with rfl | hq
  · exact jd_154
  rcases List.mem_cons.mp hq with rfl | hq
  · exact jd_155
  rcases List.mem_cons.mp hq with rfl | hq
  · exact jd_156
  rcases List.mem_cons.mp hq with rfl | hq
  · exact jd_157
  rcases List.mem_cons.mp hq with rfl | hq
  · exact jd_158
  rcases List.mem_cons.mp hq with rfl | hq
  · exact jd_159
  rcases List.mem_cons.mp hq with rfl | hq
  · exact jd_160
  rcases List.mem_cons.mp hq with rfl | hq
  · exact jd_161
  rcases List.mem_cons.mp hq with rfl | hq
  · exact jd_162
  rcases List.mem_cons.mp hq with rfl | hq
  · exact jd_163
  rcases List.mem_cons.mp hq with rfl | hq
  · exact jd_164
  rcases List.mem_cons.mp hq with rfl | hq
  · exact jd_165
  rcases List.mem_cons.mp hq with rfl | hq
  · exact jd_166
  rcases List.mem_cons.mp hq with rfl | hq
  · exact jd_167
  rcases List.mem_cons.mp hq with rfl | hq
  · exact jd_168
  rcases List.mem_cons.mp hq with rfl | hq
  · exact jd_169
  rcases List.mem_cons.mp hq with rfl | hq
  · exact jd_170
  rcases List.mem_cons.mp hq with rfl | hq
  · exact jd_171
  rcases List.mem_cons.mp hq with rfl | hq
  · exact jd_172
  rcases List.mem_cons.mp hq with rfl | hq
  · exact jd_173
  rcases List.mem_cons.mp hq with rfl | hq
  · exact jd_174
  rcases List.mem_cons.mp hq with rfl | hq
  · exact jd_175
  rcases List.mem_cons.mp hq with rfl | hq
  · exact jd_176
  rcases List.mem_cons.mp hq with rfl | hq
  · exact jd_177
  rcases List.mem_cons.mp hq with rfl | hq
  · exact jd_178
  rcases List.mem_cons.mp hq with rfl | hq
  · exact jd_179
  rcases List.mem_cons.mp hq with rfl | hq
  · exact jd_180
  rcases List.mem_cons.mp hq with rfl | hq
  · exact jd_181
  rcases List.mem_cons.mp hq with rfl | hq
  · exact jd_182
  rcases List.mem_cons.mp hq with rfl | hq
  · exact jd_183
  rcases List.mem_cons.mp hq with rfl | hq
  · exact jd_184
  rcases List.mem_cons.mp hq with rfl | hq
  · exact jd_185
  rcases List.mem_cons.mp hq with rfl | hq
  · exact jd_186
  rcases List.mem_cons.mp hq with rfl | hq
  · exact jd_187
  rcases List.mem_cons.mp hq with rfl | hq
  · exact jd_188
  rcases List.mem_cons.mp hq with rfl | hq
  · exact jd_189
  rcases List.mem_cons.mp hq with rfl | hq
  · exact jd_190
  rcases List.mem_cons.mp hq with rfl | hq
  · exact jd_191
  rcases List.mem_cons.mp hq with rfl | hq
  · exact jd_192
  rcases List.mem_cons.mp hq with rfl | hq
  · exact jd_193
  rcases List.mem_cons.mp hq with rfl | hq
  · exact jd_194
  rcases List.mem_cons.mp hq with rfl | hq
  · exact jd_195
  rcases List.mem_cons.mp hq with rfl | hq
  · exact jd_196
  rcases List.mem_cons.mp hq with rfl | hq
  · exact jd_197
  rcases List.mem_cons.mp hq with rfl | hq
  · exact jd_198
  rcases List.mem_cons.mp hq with rfl | hq
  · exact jd_199
  rcases List.mem_cons.mp hq with rfl | hq
  · exact jd_200
  rcases List.mem_cons.mp hq with rfl | hq
  · exact jd_201
  rcases List.mem_cons.mp hq with rfl | hq
  · exact jd_202
  rcases List.mem_cons.mp hq with rfl | hq
  · exact jd_203
  rcases List.mem_cons.mp hq with rfl | hq
  · exact jd_204
  rcases List.mem_cons.mp hq with rfl | hq
  · exact jd_205
  rcases List.mem_cons.mp hq with rfl | hq
  · exact jd_206
  rcases List.mem_cons.mp hq with rfl | hq
  · exact jd_207
  rcases List.mem_cons.mp hq with rfl | hq
  · exact jd_208
  rcases List.mem_cons.mp hq with rfl | hq
  · exact jd_209
  rcases List.mem_cons.mp hq with rfl | hq
  · exact jd_210
  rcases List.mem_cons.mp hq with rfl | hq
  · exact jd_211
  rcases List.mem_cons.mp hq with rfl | hq
  · exact jd_212
  rcases List.mem_cons.mp hq with rfl | hq
  · exact jd_213
  rcases List.mem_cons.mp hq with rfl | hq
  · exact jd_214
  rcases List.mem_cons.mp hq with rfl | hq
  · exact jd_215
  rcases List.mem_cons.mp hq with rfl | hq
  · exact jd_216
  rcases List.mem_cons.mp hq with rfl | hq
  · exact jd_217
  rcases List.mem_cons.mp hq with rfl | hq
  · exact jd_218
  rcases List.mem_cons.mp hq with rfl | hq
  · exact jd_219
  rcases List.mem_cons.mp hq with rfl | hq
  · exact jd_220
  rcases List.mem_cons.mp hq with rfl | hq
  · exact jd_221
  rcases List.mem_cons.mp hq with rfl | hq
  · exact jd_222
  rcases List.mem_cons.mp hq with rfl | hq
  · exact jd_223
  rcases List.mem_cons.mp hq with rfl | hq
  · exact jd_224
  rcases List.mem_cons.mp hq with rfl | hq
  · exact jd_225
  rcases List.mem_cons.mp hq with rfl | hq
  · exact jd_226
  rcases List.mem_cons.mp hq with rfl | hq
  · exact jd_227
  rcases List.mem_cons.mp hq with rfl | hq
  · exact jd_228
  rcases List.mem_cons.mp hq with rfl | hq
  · exact jd_229
  rcases List.mem_cons.mp hq with rfl | hq
  · exact jd_230
  exact absurd hq List.not_mem_nil
theorem jm_ins_ok : ∀ mi pc i n, jm_ins mi pc = some (i, n) → decode (jm_code mi) pc = .ok (i, n) := by
  intro mi pc i n h
  unfold jm_ins at h
  obtain ⟨q, hf, hq⟩ := Option.map_eq_some_iff.mp h
  have hm := List.mem_of_find?_eq_some hf
  have hi := List.find?_some hf
  simp only [beq_iff_eq] at hi
  have hL : jm_at mi ∈ jm_L := by
    unfold jm_at at hm ⊢
    rw [List.getD_eq_getElem?_getD] at hm ⊢
    cases hg : jm_L[mi]? with
    | none => rw [hg] at hm; exact absurd hm List.not_mem_nil
    | some x => exact List.mem_of_getElem? hg
  have := jd_all _ hL q hm
  rw [hi, hq] at this
  exact this
