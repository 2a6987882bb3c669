section
set_option maxRecDepth 100000 in
theorem jd_all : ∀ q ∈ jm_L, ∀ e ∈ q.2.2.2.2.2.2, decode q.2.1 e.1 = .ok e.2 := by
  intro q hq
  have hq : q ∈ [jq_0, jq_1, jq_2, jq_3, jq_4, jq_5, jq_6, jq_7, jq_8, jq_9, jq_10, jq_11, jq_12, jq_13, jq_14, jq_15, jq_16, jq_17, jq_18, jq_19, jq_20, jq_21, jq_22, jq_23, jq_24, jq_25, jq_26, jq_27, jq_28, jq_29, jq_30, jq_31, jq_32, jq_33, jq_34, jq_35, jq_36, jq_37, jq_38, jq_39, jq_40, jq_41, jq_42, jq_43, jq_44, jq_45, jq_46, jq_47, jq_48, jq_49, jq_50, jq_51, jq_52, jq_53, jq_54, jq_55, jq_56, jq_57, jq_58, jq_59, jq_60, jq_61, jq_62, jq_63, jq_64, jq_65, jq_66, jq_67, jq_68, jq_69, jq_70, jq_71, jq_72, jq_73, jq_74, jq_75, jq_76, jq_77, jq_78, jq_79, jq_80, jq_81, jq_82, jq_83, jq_84, jq_85, jq_86, jq_87, jq_88, jq_89, jq_90, jq_91, jq_92, jq_93, jq_94, jq_95, jq_96, jq_97, jq_98, jq_99, jq_100, jq_101, jq_102, jq_103, jq_104, jq_105, jq_106, jq_107, jq_108, jq_109, jq_110, jq_111, jq_112, jq_113, jq_114, jq_115, jq_116, jq_117, jq_118, jq_119, jq_120, jq_121, jq_122, jq_123, jq_124, jq_125, jq_126, jq_127, jq_128, jq_129, jq_130, jq_131, jq_132, jq_133, jq_134, jq_135, jq_136, jq_137, jq_138, jq_139, jq_140, jq_141, jq_142, jq_143, jq_144, jq_145, jq_146, jq_147, jq_148, jq_149, jq_150, jq_151, jq_152, jq_153, jq_154, jq_155, jq_156, jq_157, jq_158, jq_159, jq_160, jq_161, jq_162, jq_163, jq_164, jq_165, jq_166, jq_167, jq_168, jq_169, jq_170, jq_171, jq_172, jq_173, jq_174, jq_175, jq_176, jq_177, jq_178, jq_179, jq_180, jq_181, jq_182, jq_183, jq_184, jq_185, jq_186, jq_187, jq_188, jq_189, jq_190, jq_191, jq_192, jq_193, jq_194, jq_195, jq_196, jq_197, jq_198, jq_199, jq_200, jq_201, jq_202, jq_203, jq_204, jq_205, jq_206, jq_207, jq_208, jq_209, jq_210, jq_211, jq_212, jq_213, jq_214, jq_215, jq_216, jq_217, jq_218, jq_219, jq_220, jq_221, jq_222, jq_223, jq_224, jq_225, jq_226, jq_227, jq_228, jq_229, jq_230] := hq
  rcases List.mem_cons.mp hq with rfl | hq
  · exact jd_0
  rcases List.mem_cons.mp hq with rfl | hq
  · exact jd_1
  rcases List.mem_cons.mp hq with rfl | hq
  · exact jd_2
  rcases List.mem_cons.mp hq with rfl | hq
  · exact jd_3
  rcases List.mem_cons.mp hq with rfl | hq
  · exact jd_4
  rcases List.mem_cons.mp hq with rfl | hq
  · exact jd_5
  rcases List.mem_cons.mp hq with rfl | hq
  · exact jd_6
  rcases List.mem_cons.mp hq with rfl | hq
  · exact jd_7
  rcases List.mem_cons.mp hq with rfl | hq
  · exact jd_8
  rcases List.mem_cons.mp hq with rfl | hq
  · exact jd_9
  rcases List.mem_cons.mp hq with rfl | hq
  · exact jd_10
  rcases List.mem_cons.mp hq with rfl | hq
  · exact jd_11
  rcases List.mem_cons.mp hq with rfl | hq
  · exact jd_12
  rcases List.mem_cons.mp hq with rfl | hq
  · exact jd_13
  rcases List.mem_cons.mp hq with rfl | hq
  · exact jd_14
  rcases List.mem_cons.mp hq with rfl | hq
  · exact jd_15
  rcases List.mem_cons.mp hq with rfl | hq
  · exact jd_16
  rcases List.mem_cons.mp hq with rfl | hq
  · exact jd_17
  rcases List.mem_cons.mp hq with rfl | hq
  · exact jd_18
  rcases List.mem_cons.mp hq with rfl | hq
  · exact jd_19
  rcases List.mem_cons.mp hq with rfl | hq
  · exact jd_20
  rcases List.mem_cons.mp hq with rfl | hq
  · exact jd_21
  rcases List.mem_cons.mp hq with rfl | hq
  · exact jd_22
  rcases List.mem_cons.mp hq with rfl | hq
  · exact jd_23
  rcases List.mem_cons.mp hq with rfl | hq
  · exact jd_24
  rcases List.mem_cons.mp hq with rfl | hq
  · exact jd_25
  rcases List.mem_cons.mp hq with rfl | hq
  · exact jd_26
  rcases List.mem_cons.mp hq with rfl | hq
  · exact jd_27
  rcases List.mem_cons.mp hq with rfl | hq
  · exact jd_28
  rcases List.mem_cons.mp hq with rfl | hq
  · exact jd_29
  rcases List.mem_cons.mp hq with rfl | hq
  · exact jd_30
  rcases List.mem_cons.mp hq with rfl | hq
  · exact jd_31
  rcases List.mem_cons.mp hq with rfl | hq
  · exact jd_32
  rcases List.mem_cons.mp hq with rfl | hq
  · exact jd_33
  rcases List.mem_cons.mp hq with rfl | hq
  · exact jd_34
  rcases List.mem_cons.mp hq with rfl | hq
  · exact jd_35
  rcases List.mem_cons.mp hq with rfl | hq
  · exact jd_36
  rcases List.mem_cons.mp hq with rfl | hq
  · exact jd_37
  rcases List.mem_cons.mp hq with rfl | hq
  · exact jd_38
  rcases List.mem_cons.mp hq with rfl | hq
  · exact jd_39
  rcases List.mem_cons.mp hq with rfl | hq
  · exact jd_40
  rcases List.mem_cons.mp hq with rfl | hq
  · exact jd_41
  rcases List.mem_cons.mp hq with rfl | hq
  · exact jd_42
  rcases List.mem_cons.mp hq with rfl | hq
  · exact jd_43
  rcases List.mem_cons.mp hq with rfl | hq
  · exact jd_44
  rcases List.mem_cons.mp hq with rfl | hq
  · exact jd_45
  rcases List.mem_cons.mp hq with rfl | hq
  · exact jd_46
  rcases List.mem_cons.mp hq with rfl | hq
  · exact jd_47
  rcases List.mem_cons.mp hq with rfl | hq
  · exact jd_48
  rcases List.mem_cons.mp hq with rfl | hq
  · exact jd_49
  rcases List.mem_cons.mp hq with rfl | hq
  · exact jd_50
  rcases List.mem_cons.mp hq with rfl | hq
  · exact jd_51
  rcases List.mem_cons.mp hq with rfl | hq
  · exact jd_52
  rcases List.mem_cons.mp hq with rfl | hq
  · exact jd_53
  rcases List.mem_cons.mp hq with rfl | hq
  · exact jd_54
  rcases List.mem_cons.mp hq with rfl | hq
  · exact jd_55
  rcases List.mem_cons.mp hq with rfl | hq
  · exact jd_56
  rcases List.mem_cons.mp hq with rfl | hq
  · exact jd_57
  rcases List.mem_cons.mp hq with rfl | hq
  · exact jd_58
  rcases List.mem_cons.mp hq with rfl | hq
  · exact jd_59
  rcases List.mem_cons.mp hq with rfl | hq
  · exact jd_60
  rcases List.mem_cons.mp hq with rfl | hq
  · exact jd_61
  rcases List.mem_cons.mp hq with rfl | hq
  · exact jd_62
  rcases List.mem_cons.mp hq with rfl | hq
  · exact jd_63
  rcases List.mem_cons.mp hq with rfl | hq
  · exact jd_64
  rcases List.mem_cons.mp hq with rfl | hq
  · exact jd_65
  rcases List.mem_cons.mp hq with rfl | hq
  · exact jd_66
  rcases List.mem_cons.mp hq with rfl | hq
  · exact jd_67
  rcases List.mem_cons.mp hq with rfl | hq
  · exact jd_68
  rcases List.mem_cons.mp hq with rfl | hq
  · exact jd_69
  rcases List.mem_cons.mp hq with rfl | hq
  · exact jd_70
  rcases List.mem_cons.mp hq with rfl | hq
  · exact jd_71
  rcases List.mem_cons.mp hq with rfl | hq
  · exact jd_72
  rcases List.mem_cons.mp hq with rfl | hq
  · exact jd_73
  rcases List.mem_cons.mp hq with rfl | hq
  · exact jd_74
  rcases List.mem_cons.mp hq with rfl | hq
  · exact jd_75
  rcases List.mem_cons.mp hq with rfl | hq
  · exact jd_76
  rcases List.mem_cons.mp hq with rfl | hq
  · exact jd_77
  rcases List.mem_cons.mp hq with rfl | hq
  · exact jd_78
  rcases List.mem_cons.mp hq with rfl | hq
  · exact jd_79
  rcases List.mem_cons.mp hq with rfl | hq
  · exact jd_80
  rcases List.mem_cons.mp hq with rfl | hq
  · exact jd_81
  rcases List.mem_cons.mp hq with rfl | hq
  · exact jd_82
  rcases List.mem_cons.mp hq with rfl | hq
  · exact jd_83
  rcases List.mem_cons.mp hq with rfl | hq
  · exact jd_84
  rcases List.mem_cons.mp hq with rfl | hq
  · exact jd_85
  rcases List.mem_cons.mp hq with rfl | hq
  · exact jd_86
  rcases List.mem_cons.mp hq with rfl | hq
  · exact jd_87
  rcases List.mem_cons.mp hq with rfl | hq
  · exact jd_88
  rcases List.mem_cons.mp hq with rfl | hq
  · exact jd_89
  rcases List.mem_cons.mp hq with rfl | hq
  · exact jd_90
  rcases List.mem_cons.mp hq with rfl | hq
  · exact jd_91
  rcases List.mem_cons.mp hq with rfl | hq
  · exact jd_92
  rcases List.mem_cons.mp hq with rfl | hq
  · exact jd_93
  rcases List.mem_cons.mp hq with rfl | hq
  · exact jd_94
  rcases List.mem_cons.mp hq with rfl | hq
  · exact jd_95
  rcases List.mem_cons.mp hq with rfl | hq
  · exact jd_96
  rcases List.mem_cons.mp hq with rfl | hq
  · exact jd_97
  rcases List.mem_cons.mp hq with rfl | hq
  · exact jd_98
  rcases List.mem_cons.mp hq with rfl | hq
  · exact jd_99
  rcases List.mem_cons.mp hq with rfl | hq
  · exact jd_100
  rcases List.mem_cons.mp hq with rfl | hq
  · exact jd_101
  rcases List.mem_cons.mp hq with rfl | hq
  · exact jd_102
  rcases List.mem_cons.mp hq with rfl | hq
  · exact jd_103
  rcases List.mem_cons.mp hq with rfl | hq
  · exact jd_104
  rcases List.mem_cons.mp hq with rfl | hq
  · exact jd_105
  rcases List.mem_cons.mp hq with rfl | hq
  · exact jd_106
  rcases List.mem_cons.mp hq with rfl | hq
  · exact jd_107
  rcases List.mem_cons.mp hq with rfl | hq
  · exact jd_108
  rcases List.mem_cons.mp hq with rfl | hq
  · exact jd_109
  rcases List.mem_cons.mp hq with rfl | hq
  · exact jd_110
  rcases List.mem_cons.mp hq with rfl | hq
  · exact jd_111
  rcases List.mem_cons.mp hq with rfl | hq
  · exact jd_112
  rcases List.mem_cons.mp hq with rfl | hq
  · exact jd_113
  rcases List.mem_cons.mp hq with rfl | hq
  · exact jd_114
  rcases List.mem_cons.mp hq with rfl | hq
  · exact jd_115
  rcases List.mem_cons.mp hq with rfl | hq
  · exact jd_116
  rcases List.mem_cons.mp hq with rfl | hq
  · exact jd_117
  rcases List.mem_cons.mp hq with rfl | hq
  · exact jd_118
  rcases List.mem_cons.mp hq with rfl | hq
  · exact jd_119
  rcases List.mem_cons.mp hq with rfl | hq
  · exact jd_120
  rcases List.mem_cons.mp hq with rfl | hq
  · exact jd_121
  rcases List.mem_cons.mp hq with rfl | hq
  · exact jd_122
  rcases List.mem_cons.mp hq with rfl | hq
  · exact jd_123
  rcases List.mem_cons.mp hq with rfl | hq
  · exact jd_124
  rcases List.mem_cons.mp hq with rfl | hq
  · exact jd_125
  rcases List.mem_cons.mp hq with rfl | hq
  · exact jd_126
  rcases List.mem_cons.mp hq with rfl | hq
  · exact jd_127
  rcases List.mem_cons.mp hq with rfl | hq
  · exact jd_128
  rcases List.mem_cons.mp hq with rfl | hq
  · exact jd_129
  rcases List.mem_cons.mp hq with rfl | hq
  · exact jd_130
  rcases List.mem_cons.mp hq with rfl | hq
  · exact jd_131
  rcases List.mem_cons.mp hq with rfl | hq
  · exact jd_132
  rcases List.mem_cons.mp hq with rfl | hq
  · exact jd_133
  rcases List.mem_cons.mp hq with rfl | hq
  · exact jd_134
  rcases List.mem_cons.mp hq with rfl | hq
  · exact jd_135
  rcases List.mem_cons.mp hq with rfl | hq
  · exact jd_136
  rcases List.mem_cons.mp hq with rfl | hq
  · exact jd_137
  rcases List.mem_cons.mp hq with rfl | hq
  · exact jd_138
  rcases List.mem_cons.mp hq with rfl | hq
  · exact jd_139
  rcases List.mem_cons.mp hq with rfl | hq
  · exact jd_140
  rcases List.mem_cons.mp hq with rfl | hq
  · exact jd_141
  rcases List.mem_cons.mp hq with rfl | hq
  · exact jd_142
  rcases List.mem_cons.mp hq with rfl | hq
  · exact jd_143
  rcases List.mem_cons.mp hq with rfl | hq
  · exact jd_144
  rcases List.mem_cons.mp hq with rfl | hq
  · exact jd_145
  rcases List.mem_cons.mp hq with rfl | hq
  · exact jd_146
  rcases List.mem_cons.mp hq with rfl | hq
  · exact jd_147
  rcases List.mem_cons.mp hq with rfl | hq
  · exact jd_148
  rcases List.mem_cons.mp hq with rfl | hq
  · exact jd_149
  rcases List.mem_cons.mp hq with rfl | hq
  · exact jd_150
  rcases List.mem_cons.mp hq with rfl | hq
  · exact jd_151
  rcases List.mem_cons.mp hq with rfl | hq
  · exact jd_152
  rcases List.mem_cons.mp hq with rfl | hq
  · exact jd_153
  rcases List.mem_cons.mp hq with rfl | hq
  · exact jd_154
  rcases List.mem_cons.mp hq with rfl | hq
  · exact jd_155
  rcases List.mem_cons.mp hq with rfl | hq
  · exact jd_156
  rcases List.mem_cons.mp hq with rfl | hq
  · exact jd_157
  rcases List.mem_cons.mp hq with rfl | hq
  · exact jd_158
  rcases List.mem_cons.mp hq with rfl | hq
  · exact jd_159
  rcases List.mem_cons.mp hq with rfl | hq
  · exact jd_160
  rcases List.mem_cons.mp hq with rfl | hq
  · exact jd_161
  rcases List.mem_cons.mp hq with rfl | hq
  · exact jd_162
  rcases List.mem_cons.mp hq with rfl | hq
  · exact jd_163
  rcases List.mem_cons.mp hq with rfl | hq
  · exact jd_164
  rcases List.mem_cons.mp hq with rfl | hq
  · exact jd_165
  rcases List.mem_cons.mp hq with rfl | hq
  · exact jd_166
  rcases List.mem_cons.mp hq with rfl | hq
  · exact jd_167
  rcases List.mem_cons.mp hq with rfl | hq
  · exact jd_168
  rcases List.mem_cons.mp hq with rfl | hq
  · exact jd_169
  rcases List.mem_cons.mp hq with rfl | hq
  · exact jd_170
  rcases List.mem_cons.mp hq with rfl | hq
  · exact jd_171
  rcases List.mem_cons.mp hq with rfl | hq
  · exact jd_172
  rcases List.mem_cons.mp hq with rfl | hq
  · exact jd_173
  rcases List.mem_cons.mp hq with rfl | hq
  · exact jd_174
  rcases List.mem_cons.mp hq with rfl | hq
  · exact jd_175
  rcases List.mem_cons.mp hq with rfl | hq
  · exact jd_176
  rcases List.mem_cons.mp hq with rfl | hq
  · exact jd_177
  rcases List.mem_cons.mp hq with rfl | hq
  · exact jd_178
  rcases List.mem_cons.mp hq with rfl | hq
  · exact jd_179
  rcases List.mem_cons.mp hq with rfl | hq
  · exact jd_180
  rcases List.mem_cons.mp hq with rfl | hq
  · exact jd_181
  rcases List.mem_cons.mp hq with rfl | hq
  · exact jd_182
  rcases List.mem_cons.mp hq with rfl | hq
  · exact jd_183
  rcases List.mem_cons.mp hq with rfl | hq
  · exact jd_184
  rcases List.mem_cons.mp hq with rfl | hq
  · exact jd_185
  rcases List.mem_cons.mp hq with rfl | hq
  · exact jd_186
  rcases List.mem_cons.mp hq with rfl | hq
  · exact jd_187
  rcases List.mem_cons.mp hq with rfl | hq
  · exact jd_188
  rcases List.mem_cons.mp hq with rfl | hq
  · exact jd_189
  rcases List.mem_cons.mp hq with rfl | hq
  · exact jd_190
  rcases List.mem_cons.mp hq with rfl | hq
  · exact jd_191
  rcases List.mem_cons.mp hq with rfl | hq
  · exact jd_192
  rcases List.mem_cons.mp hq with rfl | hq
  · exact jd_193
  rcases List.mem_cons.mp hq with rfl | hq
  · exact jd_194
  rcases List.mem_cons.mp hq with rfl | hq
  · exact jd_195
  rcases List.mem_cons.mp hq with rfl | hq
  · exact jd_196
  rcases List.mem_cons.mp hq with rfl | hq
  · exact jd_197
  rcases List.mem_cons.mp hq with rfl | hq
  · exact jd_198
  rcases List.mem_cons.mp hq with rfl | hq
  · exact jd_199
  rcases List.mem_cons.mp hq with rfl | hq
  · exact jd_200
  rcases List.mem_cons.mp hq with rfl | hq
  · exact jd_201
  rcases List.mem_cons.mp hq with rfl | hq
  · exact jd_202
  rcases List.mem_cons.mp hq with rfl | hq
  · exact jd_203
  rcases List.mem_cons.mp hq with rfl | hq
  · exact jd_204
  rcases List.mem_cons.mp hq with rfl | hq
  · exact jd_205
  rcases List.mem_cons.mp hq with rfl | hq
  · exact jd_206
  rcases List.mem_cons.mp hq with rfl | hq
  · exact jd_207
  rcases List.mem_cons.mp hq with rfl | hq
  · exact jd_208
  rcases List.mem_cons.mp hq with rfl | hq
  · exact jd_209
  rcases List.mem_cons.mp hq with rfl | hq
  · exact jd_210
  rcases List.mem_cons.mp hq with rfl | hq
  · exact jd_211
  rcases List.mem_cons.mp hq with rfl | hq
  · exact jd_212
  rcases List.mem_cons.mp hq with rfl | hq
  · exact jd_213
  rcases List.mem_cons.mp hq with rfl | hq
  · exact jd_214
  rcases List.mem_cons.mp hq with rfl | hq
  · exact jd_215
  rcases List.mem_cons.mp hq with rfl | hq
  · exact jd_216
  rcases List.mem_cons.mp hq with rfl | hq
  · exact jd_217
  rcases List.mem_cons.mp hq with rfl | hq
  · exact jd_218
  rcases List.mem_cons.mp hq with rfl | hq
  · exact jd_219
  rcases List.mem_cons.mp hq with rfl | hq
  · exact jd_220
  rcases List.mem_cons.mp hq with rfl | hq
  · exact jd_221
  rcases List.mem_cons.mp hq with rfl | hq
  · exact jd_222
  rcases List.mem_cons.mp hq with rfl | hq
  · exact jd_223
  rcases List.mem_cons.mp hq with rfl | hq
  · exact jd_224
  rcases List.mem_cons.mp hq with rfl | hq
  · exact jd_225
  rcases List.mem_cons.mp hq with rfl | hq
  · exact jd_226
  rcases List.mem_cons.mp hq with rfl | hq
  · exact jd_227
  rcases List.mem_cons.mp hq with rfl | hq
  · exact jd_228
  rcases List.mem_cons.mp hq with rfl | hq
  · exact jd_229
  rcases List.mem_cons.mp hq with rfl | hq
  · exact jd_230
  exact absurd hq List.not_mem_nil
theorem jm_ins_ok : ∀ mi pc i n, jm_ins mi pc = some (i, n) → decode (jm_code mi) pc = .ok (i, n) := by
  intro mi pc i n h
  unfold jm_ins at h
  obtain ⟨q, hf, hq⟩ := Option.map_eq_some_iff.mp h
  have hm := List.mem_of_find?_eq_some hf
  have hi := List.find?_some hf
  simp only [beq_iff_eq] at hi
  have hL : jm_at mi ∈ jm_L := by
    unfold jm_at at hm ⊢
    rw [List.getD_eq_getElem?_getD] at hm ⊢
    cases hg : jm_L[mi]? with
    | none => rw [hg] at hm; exact absurd hm List.not_mem_nil
    | some x => exact List.mem_of_getElem? hg
  have := jd_all _ hL q hm
  rw [hi, hq] at this
  exact this
end
section
/-! A small interpreter of decoded instructions. References are numbers of cells; .retAddr stands for the law's script, which is no cell of ours. -/
abbrev jC : Type := (Nat × vp_A) ⊕ (Nat × List Value)
abbrev jL : Type := List (Nat × Value)
def jl (lv : jL) (i : Nat) : Option Value := (lv.find? (fun q => q.1 == i)).map (fun q => q.2)
def js1 (lv : jL) (i : Nat) (v : Value) : jL := (i, v) :: lv.filter (fun q => !(q.1 == i) && !(q.1 + 1 == i && q.2.category == 2))
def js2 (lv : jL) (i : Nat) (v : Value) : jL := (i, v) :: lv.filter (fun q => !(q.1 == i) && (!(q.1 == i + 1) && !(q.1 + 1 == i && q.2.category == 2)))
def jt (pc : Nat) (off : Int) : Option Nat := if 0 ≤ (pc : Int) + off then some ((pc : Int) + off).toNat else none
def jcmp (c : ClassFile.Cond) (x y : Int32) : Bool := match c with
  | .eq => decide (x = y)
  | .ne => decide (¬ x = y)
  | .lt => decide (x < y)
  | .ge => decide (y ≤ x)
  | .gt => decide (y < x)
  | .le => decide (x ≤ y)
/-- a load of one slot: an int, null, a reference -/
def jld (lv : jL) (i : Nat) (isInt : Bool) : Option Value := match jl lv i with
  | some (.int x) => if isInt then some (.int x) else none
  | some (.ref a) => if isInt then none else some (.ref a)
  | some (.retAddr a) => if isInt then none else some (.retAddr a)
  | some .null => if isInt then none else some .null
  | _ => none
def jldl (lv : jL) (i : Nat) : Option Value := match jl lv i with
  | some (.long x) => some (.long x)
  | _ => none
abbrev jR : Type := Option (Nat × jL × List Value)
def jpush (pc len : Nat) (lv : jL) (st : List Value) (v : Option Value) : jR := v.map (fun v => (pc + len, lv, v :: st))
def jst1 (mL pc len : Nat) (lv : jL) (i : Nat) (isInt : Bool) (st : List Value) : jR := match st with
  | .int x :: st => if isInt = true ∧ i < mL then some (pc + len, js1 lv i (.int x), st) else none
  | .ref a :: st => if isInt = false ∧ i < mL then some (pc + len, js1 lv i (.ref a), st) else none
  | .null :: st => if isInt = false ∧ i < mL then some (pc + len, js1 lv i .null, st) else none
  | _ => none
def jst2 (mL pc len : Nat) (lv : jL) (i : Nat) (st : List Value) : jR := match st with
  | .long x :: st => if i + 1 < mL then some (pc + len, js2 lv i (.long x), st) else none
  | _ => none
def jbin (pc : Nat) (lv : jL) (f : Int32 → Int32 → Int32) (st : List Value) : jR := match st with
  | .int y :: .int x :: st => some (pc + 1, lv, .int (f x y) :: st)
  | _ => none
def jbil (pc : Nat) (lv : jL) (f : Int64 → Int64 → Int64) (st : List Value) : jR := match st with
  | .long y :: .long x :: st => some (pc + 1, lv, .long (f x y) :: st)
  | _ => none
def jgo (pc : Nat) (lv : jL) (st : List Value) (off : Int) : jR := (jt pc off).map (fun t => (t, lv, st))
def jbr (pc : Nat) (lv : jL) (st : List Value) (off : Int) (b : Bool) : jR := (jt pc off).map (fun t => (if b then t else pc + 3, lv, st))
/-- instructions that neither read nor change a cell -/
def jA (k mL pc len : Nat) (lv : jL) (st : List Value) (i : Instr) : jR := match i with
  | .iconst n => jpush pc 1 lv st (some (.int (Int32.ofInt n)))
  | .bipush n => jpush pc 2 lv st (some (.int (Int8.ofInt n).toInt32))
  | .sipush n => jpush pc 3 lv st (some (.int (Int16.ofInt n).toInt32))
  | .lconst n => jpush pc 1 lv st (some (.long (Int64.ofNat (n : Nat))))
  | .ldc2_w idx => jpush pc 3 lv st ((jm_lng k idx).map .long)
  | .aconst_null => jpush pc 1 lv st (some .null)
  | .iload i => jpush pc 2 lv st (jld lv i true)
  | .iload_n i => jpush pc 1 lv st (jld lv i true)
  | .aload i => jpush pc 2 lv st (jld lv i false)
  | .aload_n i => jpush pc 1 lv st (jld lv i false)
  | .lload i => jpush pc 2 lv st (jldl lv i)
  | .lload_n i => jpush pc 1 lv st (jldl lv i)
  | .istore i => jst1 mL pc 2 lv i true st
  | .istore_n i => jst1 mL pc 1 lv i true st
  | .astore i => jst1 mL pc 2 lv i false st
  | .astore_n i => jst1 mL pc 1 lv i false st
  | .lstore i => jst2 mL pc 2 lv i st
  | .lstore_n i => jst2 mL pc 1 lv i st
  | .iinc i n => match jld lv i true with
    | some (.int x) => if i < mL then some (pc + 3, js1 lv i (.int (x + Int32.ofInt n)), st) else none
    | _ => none
  | .iadd => jbin pc lv (fun x y => x + y) st
  | .isub => jbin pc lv (fun x y => x - y) st
  | .imul => jbin pc lv (fun x y => x * y) st
  | .iand => jbin pc lv (fun x y => x &&& y) st
  | .ior => jbin pc lv (fun x y => x ||| y) st
  | .ixor => jbin pc lv (fun x y => x ^^^ y) st
  | .ishl => jbin pc lv (fun x y => x <<< (y &&& 31)) st
  | .ishr => jbin pc lv (fun x y => x >>> (y &&& 31)) st
  | .iushr => jbin pc lv (fun x y => (x.toUInt32 >>> (y.toUInt32 &&& Int32.toUInt32 31)).toInt32) st
  | .idiv => match st with
    | .int y :: .int x :: st => if y = 0 then none else some (pc + 1, lv, .int (x / y) :: st)
    | _ => none
  | .irem => match st with
    | .int y :: .int x :: st => if y = 0 then none else some (pc + 1, lv, .int (x - x / y * y) :: st)
    | _ => none
  | .ineg => match st with
    | .int x :: st => some (pc + 1, lv, .int (-x) :: st)
    | _ => none
  | .i2l => match st with
    | .int x :: st => some (pc + 1, lv, .long x.toInt64 :: st)
    | _ => none
  | .l2i => match st with
    | .long x :: st => some (pc + 1, lv, .int x.toInt32 :: st)
    | _ => none
  | .ladd => jbil pc lv (fun x y => x + y) st
  | .lmul => jbil pc lv (fun x y => x * y) st
  | .lcmp => match st with
    | .long y :: .long x :: st => some (pc + 1, lv, .int (lg_cmp x y) :: st)
    | _ => none
  | .dup => match st with
    | v :: st => if v.category = 1 then some (pc + 1, lv, v :: v :: st) else none
    | _ => none
  | .pop => match st with
    | v :: st => if v.category = 1 then some (pc + 1, lv, st) else none
    | _ => none
  | .dup2 => match st with
    | v :: w :: st => if v.category = 1 ∧ w.category = 1 then some (pc + 1, lv, v :: w :: v :: w :: st) else none
    | _ => none
  | .ifCond c off => match st with
    | .int x :: st => jbr pc lv st off (jcmp c x 0)
    | _ => none
  | .if_icmp c off => match st with
    | .int y :: .int x :: st => jbr pc lv st off (jcmp c x y)
    | _ => none
  | .goto off => jgo pc lv st off
  | .ifnull off => match st with
    | .null :: st => jgo pc lv st off
    | .ref _ :: st => some (pc + 3, lv, st)
    | _ => none
  | .ifnonnull off => match st with
    | .ref _ :: st => jgo pc lv st off
    | .null :: st => some (pc + 3, lv, st)
    | _ => none
  | .tableswitch dflt lo hi offs => match st with
    | .int x :: st => if x.toInt < lo ∨ hi < x.toInt then jgo pc lv st dflt else
        match offs[(x.toInt - lo).toNat]? with
        | some off => jgo pc lv st off
        | none => none
    | _ => none
  | _ => none
/-- how long an instruction is (0: any length, or none of ours) -/
def jlen (i : Instr) : Nat := match i with
  | .iconst _ | .lconst _ | .aconst_null | .iload_n _ | .aload_n _ | .lload_n _ | .istore_n _ | .astore_n _ | .lstore_n _ => 1
  | .iadd | .isub | .imul | .iand | .ior | .ixor | .ishl | .ishr | .iushr | .idiv | .irem | .ineg | .i2l | .l2i | .ladd | .lmul | .lcmp | .dup | .pop | .dup2 => 1
  | .bipush _ | .iload _ | .aload _ | .lload _ | .istore _ | .astore _ | .lstore _ | .newarray _ => 2
  | .sipush _ | .ldc2_w _ | .iinc _ _ | .ifCond _ _ | .if_icmp _ _ | .goto _ | .ifnull _ | .ifnonnull _ => 3
  | .getfield _ | .putfield _ | .new _ | .anewarray _ | .invokevirtual _ | .invokespecial _ | .invokestatic _ => 3
  | .iaload | .iastore | .baload | .bastore | .aaload | .aastore | .arraylength | .ireturn | .lreturn | .areturn | .return_ => 1
  | .multianewarray _ _ => 4
  | _ => 0
def jin (i : Int32) (n : Nat) : Bool := decide (¬ (i < 0 ∨ n ≤ i.toNatClampNeg))
/-- which values a place of a type takes -/
def jfit (ty : FieldType) (v : Value) : Bool := match ty, v with
  | .int, .int _ => true
  | .boolean, .int x => decide (x = 0 ∨ x = 1)
  | .long, .long _ => true
  | .object _, .ref _ => true
  | .object _, .null => true
  | .array _, .ref _ => true
  | .array _, .null => true
  | _, _ => false
def jrf (r : Option Nat) : Value := match r with
  | none => .null
  | some a => .ref a
abbrev jS : Type := Option (Nat × jL × List Value × List jC)
/-- the cell at a number, put anew -/
def jset (pc len : Nat) (lv : jL) (st : List Value) (h : List jC) (a : Nat) (c : jC) : jS := some (pc + len, lv, st, h.set a c)
/-- Math.max (1), Math.floorMod (2), Math.min -/
def jmmv (v : Nat) (x y : Int32) : Int32 := if v = 1 then (if x < y then y else x) else if v = 2 then Jvm.Free.MCB.fmod x y else (if y < x then y else x)
/-- instructions that read, change or make a cell -/
def jH (L : Nat) (xs : Nat → Int32) (isLaw ini : Bool) (k pc : Nat) (lv : jL) (st : List Value) (h : List jC) (i : Instr) : jS := match i with
  | .getfield idx => match st with
    | .ref a :: st => match jm_fld k idx, h[a]? with
      | some (ci, f), some (.inr (ci', fs)) => if ci = ci' then (fs[f]?).map (fun v => (pc + 3, lv, v :: st, h)) else none
      | _, _ => none
    | _ => none
  | .putfield idx => match st with
    | v :: .ref a :: st => match jm_fld k idx, h[a]? with
      | some (ci, f), some (.inr (ci', fs)) => if ci = ci' ∧ f < fs.length ∧ jfit (jm_ty ci f) v = true ∧ (jm_fin ci f = false ∨ ini = true ∧ k = ci) then jset pc 3 lv st h a (.inr (ci, fs.set f v)) else none
      | _, _ => none
    | _ => none
  | .iaload => match st with
    | .int j :: .ref a :: st => match h[a]? with
      | some (.inl (t, n, .inl f)) => if t = 0 ∧ jin j n = true then some (pc + 1, lv, .int (f j.toNatClampNeg) :: st, h) else none
      | _ => none
    | .int j :: .retAddr _ :: st => if isLaw = true ∧ jin j L = true then some (pc + 1, lv, .int (xs j.toNatClampNeg) :: st, h) else none
    | _ => none
  | .baload => match st with
    | .int j :: .ref a :: st => match h[a]? with
      | some (.inl (t, n, .inl f)) => if t = 1 ∧ jin j n = true then some (pc + 1, lv, .int (f j.toNatClampNeg) :: st, h) else none
      | _ => none
    | _ => none
  | .aaload => match st with
    | .int j :: .ref a :: st => match h[a]? with
      | some (.inl (t, n, .inr (.inr (.inr (.inr f))))) => if 2 ≤ t ∧ t < jm_nat ∧ jin j n = true then some (pc + 1, lv, jrf (f j.toNatClampNeg) :: st, h) else none
      | _ => none
    | _ => none
  | .arraylength => match st with
    | .ref a :: st => match h[a]? with
      | some (.inl (t, n, _)) => if t < jm_nat then some (pc + 1, lv, .int (Int32.ofNat n) :: st, h) else none
      | _ => none
    | .retAddr _ :: st => if isLaw = true then some (pc + 1, lv, .int (Int32.ofNat L) :: st, h) else none
    | _ => none
  | .iastore => match st with
    | .int x :: .int j :: .ref a :: st => match h[a]? with
      | some (.inl (t, n, .inl f)) => if t = 0 ∧ jin j n = true then jset pc 1 lv st h a (.inl (t, n, .inl (upd f j.toNatClampNeg x))) else none
      | _ => none
    | _ => none
  | .bastore => match st with
    | .int x :: .int j :: .ref a :: st => match h[a]? with
      | some (.inl (t, n, .inl f)) => if t = 1 ∧ jin j n = true ∧ (x = 0 ∨ x = 1) then jset pc 1 lv st h a (.inl (t, n, .inl (upd f j.toNatClampNeg x))) else none
      | _ => none
    | _ => none
  | .aastore => match st with
    | .ref v :: .int j :: .ref a :: st => match h[a]?, h[v]? with
      | some (.inl (t, n, .inr (.inr (.inr (.inr f))))), some (.inr (ci, _)) => if jm_ael t = some ci ∧ t < jm_nat ∧ jin j n = true then jset pc 1 lv st h a (.inl (t, n, .inr (.inr (.inr (.inr (va_up f j.toNatClampNeg (some v))))))) else none
      | _, _ => none
    | _ => none
  | .new idx => match jm_new k idx with
    | some ci => some (pc + 3, lv, .ref h.length :: st, h ++ [.inr (ci, (List.range (jm_nf ci)).map (fun j => defaultValue (jm_ty ci j)))])
    | none => none
  | .newarray ty => match st with
    | .int n :: st => if ¬ n < 0 ∧ n.toNatClampNeg ≤ 100000 then
        (match newarray.typeOf ty with
        | .int => some (pc + 2, lv, .ref h.length :: st, h ++ [.inl (0, n.toNatClampNeg, .inl (fun _ => 0))])
        | .boolean => some (pc + 2, lv, .ref h.length :: st, h ++ [.inl (1, n.toNatClampNeg, .inl (fun _ => 0))])
        | _ => none) else none
    | _ => none
  | .anewarray idx => match st, jm_anew k idx with
    | .int n :: st, some t => if ¬ n < 0 ∧ n.toNatClampNeg ≤ 100000 then some (pc + 3, lv, .ref h.length :: st, h ++ [.inl (t, n.toNatClampNeg, .inr (.inr (.inr (.inr (fun _ => none)))))]) else none
    | _, _ => none
  | .multianewarray idx 2 => match st, jm_mna k idx with
    | .int w :: .int n :: st, some t => if t.2 = 0 ∧ ¬ n < 0 ∧ ¬ w < 0 ∧ n.toNatClampNeg ≤ 1000 ∧ w.toNatClampNeg ≤ 1000 then
        some (pc + 4, lv, .ref h.length :: st, (h ++ [.inl (t.1, n.toNatClampNeg, .inr (.inr (.inr (.inr (fun i => if i < n.toNatClampNeg then some (h.length + 1 + i) else none)))))]) ++ List.replicate n.toNatClampNeg (.inl (0, w.toNatClampNeg, .inl (fun _ => 0)))) else none
    | _, _ => none
  | .invokestatic idx => match jm_mm k idx with
    | some v => (match st with
      | .int y :: .int x :: st => if (st.map fun v => v.category).sum ≤ 8 ∧ (v = 2 → y ≠ 0) then some (pc + 3, lv, .int (jmmv v x y) :: st, h) else none
      | _ => none)
    | none => match st with
    | .int n :: .int dp :: .ref a :: .int sp :: .ref a0 :: st => match jm_ac k idx, h[a0]?, h[a]? with
      | true, some (.inl (t0, n0, .inl f)), some (.inl (t1, n1, .inl g)) => if t0 = 0 ∧ t1 = 0 ∧ ¬ sp < 0 ∧ ¬ dp < 0 ∧ ¬ n < 0 ∧ sp.toNatClampNeg + n.toNatClampNeg ≤ n0 ∧ dp.toNatClampNeg + n.toNatClampNeg ≤ n1 ∧ (st.map fun v => v.category).sum ≤ 8 then
          jset pc 3 lv st h a (.inl (t1, n1, .inl (va_cpy f g sp.toNatClampNeg dp.toNatClampNeg n.toNatClampNeg))) else none
      | _, _, _ => none
    | _ => none
  | .invokespecial idx => match st with
    | .ref _ :: st => if jm_oi k idx = true ∧ (st.map fun v => v.category).sum ≤ 8 then some (pc + 3, lv, st, h) else none
    | _ => none
  | _ => none
/-- a call: who, its arguments (the receiver first), what stays below them -/
def jcall (k : Nat) (st : List Value) (h : List jC) (i : Instr) : Option (Nat × List Value × List Value) := match i with
  | .invokevirtual idx => match jm_mth k idx with
    | some (kd, y, n) => if (kd = 0 ∨ kd = 3) ∧ n ≤ st.length then
        (match st.drop n with
        | .ref a :: rest => (match h[a]? with
          | some (.inr (ci, _)) => if jm_own y = ci ∧ (rest.map fun v => v.category).sum ≤ 8 then some (y, .ref a :: (st.take n).reverse, rest) else none
          | _ => none)
        | _ => none) else none
    | none => none
  | .invokespecial idx => match jm_mth k idx with
    | some (kd, y, n) => if (kd = 1 ∨ kd = 4) ∧ n ≤ st.length then
        (match st.drop n with
        | .ref a :: rest => if (rest.map fun v => v.category).sum ≤ 8 then some (y, .ref a :: (st.take n).reverse, rest) else none
        | _ => none) else none
    | none => none
  | .invokestatic idx => match jm_mth k idx with
    | some (kd, y, n) => if (kd = 2 ∨ kd = 5) ∧ n ≤ st.length ∧ ((st.drop n).map fun v => v.category).sum ≤ 8 then some (y, (st.take n).reverse, st.drop n) else none
    | none => none
  | _ => none
/-- an end -/
def jend (mi : Nat) (st : List Value) (i : Instr) : Option (Option Value) := match i, st, jm_ret mi with
  | .ireturn, [.int x], some ty => if jfit ty (.int x) = true then some (some (.int x)) else none
  | .lreturn, [.long x], some .long => some (some (.long x))
  | .areturn, [.ref a], some ty => if jfit ty (.ref a) = true then some (some (.ref a)) else none
  | .areturn, [.null], some ty => if jfit ty .null = true then some (some .null) else none
  | .return_, [], none => some none
  | _, _, _ => none
def jstep (L : Nat) (xs : Nat → Int32) (d mi pc : Nat) (lv : jL) (st : List Value) (h : List jC) (i : Instr) (len : Nat) : jS :=
  match jA (jm_own mi) (jm_maxL mi) pc len lv st i with
  | some (pc', lv', st') => some (pc', lv', st', h)
  | none => if d = 0 then none else jH L xs (decide (mi = 0)) (jm_ini mi) (jm_own mi) pc lv st h i
def jrun (L : Nat) (xs : Nat → Int32) : Nat → Nat → Nat → Nat → jL → List Value → List jC → Option (Option Value × List jC)
  | 0, _, _, _, _, _, _ => none
  | n + 1, d, mi, pc, lv, st, h => match jm_ins mi pc with
    | none => none
    | some (i, len) => if jlen i = 0 ∨ len = jlen i then
        (match jend mi st i with
        | some r => some (r, h)
        | none => match jcall (jm_own mi) st h i, d with
          | some (y, as, rest), d' + 1 => if y ≠ 0 ∧ y < jm_n ∧ (lg_sl as).length ≤ jm_maxL y then
              (match jrun L xs n d' y 0 (lv_args 0 as) [] h with
              | some (r, h1) => jrun L xs n (d' + 1) mi (pc + 3) lv (r.toList ++ rest) h1
              | none => none) else none
          | some _, 0 => none
          | none, d => match jstep L xs d mi pc lv st h i len with
            | some (pc', lv', st', h') => jrun L xs n d mi pc' lv' st' h'
            | none => none) else none
end
section
def jv (b b0 : Nat) (v : Value) : Value := match v with
  | .ref a => .ref (b0 + a)
  | .retAddr _ => .ref b
  | v => v
def jlv (b b0 : Nat) (lv : jL) : jL := lv.map (fun q => (q.1, jv b b0 q.2))
theorem jv_cat (b b0 : Nat) (v : Value) : (jv b b0 v).category = v.category := by
  cases v <;> rfl
theorem jl_mem {lv : jL} {i : Nat} {v : Value} (h : jl lv i = some v) : (i, v) ∈ lv := by
  unfold jl at h
  cases hf : lv.find? (fun q => q.1 == i) with
  | none => rw [hf] at h; cases h
  | some q =>
    rw [hf] at h
    have h1 := List.mem_of_find?_eq_some hf
    have h2 := List.find?_some hf
    cases h
    simp at h2
    rw [← h2]
    exact h1
theorem jl_has {b b0 : Nat} {lv : jL} {i : Nat} {v : Value} {ls : Array Slot} {mL : Nat} (hl : lv_has ls mL (jlv b b0 lv)) (h : jl lv i = some v) : ls[i]? = some (.val (jv b b0 v)) :=
  hl.2.2 (i, jv b b0 v) (List.mem_map.mpr ⟨(i, v), jl_mem h, rfl⟩)
theorem jlv_js1 (b b0 : Nat) (lv : jL) (i : Nat) (v : Value) : (i, jv b b0 v) :: (jlv b b0 lv).filter (fun q => !(q.1 == i) && !(q.1 + 1 == i && q.2.category == 2)) = jlv b b0 (js1 lv i v) := by
  unfold jlv js1
  rw [List.filter_map]
  simp only [List.map_cons]
  congr 2
  apply List.filter_congr
  intro q _
  simp [jv_cat]
theorem jlv_js2 (b b0 : Nat) (lv : jL) (i : Nat) (v : Value) : (i, jv b b0 v) :: (jlv b b0 lv).filter (fun q => !(q.1 == i) && (!(q.1 == i + 1) && !(q.1 + 1 == i && q.2.category == 2))) = jlv b b0 (js2 lv i v) := by
  unfold jlv js2
  rw [List.filter_map]
  simp only [List.map_cons]
  congr 2
  apply List.filter_congr
  intro q _
  simp [jv_cat]
theorem jt_spec {pc t : Nat} {off : Int} (h : jt pc off = some t) : (pc : Int) + off = (t : Int) := by
  unfold jt at h
  split at h
  · cases h; omega
  · cases h
section JA
variable {p : Program} {l : Launch} {e : Env} {R : Room} {s : State} {m : MethodId} {args : Array Value} {below : List Frame} {meth : Method} {c : Code} {H : Heap} {locs : List Loc} {cells slots : Nat} {Q : State → Prop}
variable {cc : ByteArray} {b b0 k mL pc len : Nat} {ls : Array Slot} {lv : jL} {st : List Value}
/-- what is to be shown behind a step of kind A -/
def jK (p : Program) (l : Launch) (e : Env) (R : Room) (s : State) (m : MethodId) (args : Array Value) (below : List Frame) (meth : Method) (c : Code) (H : Heap) (locs : List Loc) (cells slots : Nat) (Q : State → Prop) (b b0 mL : Nat) (r : Nat × jL × List Value) : Prop :=
  ∀ ls' : Array Slot, lv_has ls' mL (jlv b b0 r.2.1) → W p l e R s m args below meth c H locs cells slots Q (F0 m r.1 ls' (r.2.2.map (jv b b0)))
theorem jp_push {r : Nat × jL × List Value} {v : Option Value} (hs : jpush pc len lv st v = some r) (hl : lv_has ls mL (jlv b b0 lv)) (kk : jK p l e R s m args below meth c H locs cells slots Q b b0 mL r) : ∃ w, v = some w ∧ W p l e R s m args below meth c H locs cells slots Q (F0 m (pc + len) ls (jv b b0 w :: st.map (jv b b0))) := by
  unfold jpush at hs
  cases v with
  | none => cases hs
  | some w =>
    cases hs
    exact ⟨w, rfl, kk ls hl⟩
theorem jp_bin {r : Nat × jL × List Value} {f : Int32 → Int32 → Int32} (hs : jbin pc lv f st = some r) (hl : lv_has ls mL (jlv b b0 lv)) (kk : jK p l e R s m args below meth c H locs cells slots Q b b0 mL r)
    (row : ∀ (x y : Int32) (rest : List Value), W p l e R s m args below meth c H locs cells slots Q (F0 m (pc + 1) ls (.int (f x y) :: rest)) → W p l e R s m args below meth c H locs cells slots Q (F0 m pc ls (.int y :: .int x :: rest))) : W p l e R s m args below meth c H locs cells slots Q (F0 m pc ls (st.map (jv b b0))) := by
  unfold jbin at hs
  split at hs
  · cases hs
    exact row _ _ _ (kk ls hl)
  · cases hs
theorem jp_bil {r : Nat × jL × List Value} {f : Int64 → Int64 → Int64} (hs : jbil pc lv f st = some r) (hl : lv_has ls mL (jlv b b0 lv)) (kk : jK p l e R s m args below meth c H locs cells slots Q b b0 mL r)
    (row : ∀ (x y : Int64) (rest : List Value), W p l e R s m args below meth c H locs cells slots Q (F0 m (pc + 1) ls (.long (f x y) :: rest)) → W p l e R s m args below meth c H locs cells slots Q (F0 m pc ls (.long y :: .long x :: rest))) : W p l e R s m args below meth c H locs cells slots Q (F0 m pc ls (st.map (jv b b0))) := by
  unfold jbil at hs
  split at hs
  · cases hs
    exact row _ _ _ (kk ls hl)
  · cases hs
theorem jp_go {r : Nat × jL × List Value} {off : Int} (hs : jgo pc lv st off = some r) (hl : lv_has ls mL (jlv b b0 lv)) (kk : jK p l e R s m args below meth c H locs cells slots Q b b0 mL r) : ∃ t : Nat, (pc : Int) + off = (t : Int) ∧ W p l e R s m args below meth c H locs cells slots Q (F0 m t ls (st.map (jv b b0))) := by
  unfold jgo at hs
  cases ht : jt pc off with
  | none => rw [ht] at hs; cases hs
  | some t =>
    rw [ht] at hs
    cases hs
    exact ⟨t, jt_spec ht, kk ls hl⟩
theorem jp_ldi {i : Nat} {w : Value} (h : jld lv i true = some w) : ∃ x, w = .int x ∧ jl lv i = some (.int x) := by
  unfold jld at h
  split at h <;> simp at h
  next x hx => exact ⟨x, h.symm, hx⟩
theorem jp_lda {i : Nat} {w : Value} (h : jld lv i false = some w) : jl lv i = some w ∧ (w = .null ∨ (∃ a, w = .ref a) ∨ ∃ a, w = .retAddr a) := by
  unfold jld at h
  split at h <;> simp at h
  next a ha => subst h; exact ⟨ha, Or.inr (Or.inl ⟨a, rfl⟩)⟩
  next a ha => subst h; exact ⟨ha, Or.inr (Or.inr ⟨a, rfl⟩)⟩
  next ha => subst h; exact ⟨ha, Or.inl rfl⟩
theorem jp_ldl {i : Nat} {w : Value} (h : jldl lv i = some w) : ∃ x, w = .long x ∧ jl lv i = some (.long x) := by
  unfold jldl at h
  split at h <;> simp at h
  next x hx => exact ⟨x, h.symm, hx⟩
end JA
end
section
section JB
variable {p : Program} {l : Launch} {e : Env} {R : Room} {s : State} {m : MethodId} {args : Array Value} {below : List Frame} {meth : Method} {c : Code} {H : Heap} {locs : List Loc} {cells slots : Nat} {Q : State → Prop}
variable {cc : ByteArray} {b b0 k mL pc len : Nat} {ls : Array Slot} {lv : jL} {st : List Value}
theorem jq_len {i : Instr} {n : Nat} (hn : jlen i = n) (h0 : n ≠ 0) (hlen : jlen i = 0 ∨ len = jlen i) (hd : decode cc pc = .ok (i, len)) : decode cc pc = .ok (i, n) := by
  rcases hlen with h | h
  · exact absurd (hn.symm.trans h) h0
  · rw [← hn, ← h]; exact hd
theorem jb_st1i {i : Nat} {r : Nat × jL × List Value} (hs : jst1 mL pc len lv i true st = some r) : ∃ x rest, st = .int x :: rest ∧ i < mL ∧ r = (pc + len, js1 lv i (.int x), rest) := by
  unfold jst1 at hs
  split at hs <;> simp at hs
  next x rest => exact ⟨x, rest, rfl, hs.1, hs.2.symm⟩
theorem jb_st1a {i : Nat} {r : Nat × jL × List Value} (hs : jst1 mL pc len lv i false st = some r) : ∃ v rest, st = v :: rest ∧ (v = .null ∨ ∃ a, v = .ref a) ∧ i < mL ∧ r = (pc + len, js1 lv i v, rest) := by
  unfold jst1 at hs
  split at hs <;> simp at hs
  next a rest => exact ⟨_, rest, rfl, Or.inr ⟨a, rfl⟩, hs.1, hs.2.symm⟩
  next rest => exact ⟨_, rest, rfl, Or.inl rfl, hs.1, hs.2.symm⟩
theorem jb_st2 {i : Nat} {r : Nat × jL × List Value} (hs : jst2 mL pc len lv i st = some r) : ∃ x rest, st = .long x :: rest ∧ i + 1 < mL ∧ r = (pc + len, js2 lv i (.long x), rest) := by
  unfold jst2 at hs
  split at hs <;> simp at hs
  next x rest => exact ⟨x, rest, rfl, hs.1, hs.2.symm⟩

theorem jb_if (hx : p.tables.exec = Jvm.exec) (hb : c.code = cc) {cd : ClassFile.Cond} {off : Int} (hd : decode cc pc = .ok (.ifCond cd off, 3)) {x : Int32} {r : Nat × jL × List Value} (hs : jbr pc lv st off (jcmp cd x 0) = some r) (hl : lv_has ls mL (jlv b b0 lv)) (kk : jK p l e R s m args below meth c H locs cells slots Q b b0 mL r) :
    W p l e R s m args below meth c H locs cells slots Q (F0 m pc ls (.int x :: st.map (jv b b0))) := by
  unfold jbr at hs
  cases ht0 : jt pc off with
  | none => rw [ht0] at hs; cases hs
  | some t =>
    rw [ht0] at hs
    cases hs
    have ht := jt_spec ht0
    have hW := kk ls hl
    dsimp only at hW
    cases cd with
    | eq => exact lv_if_eq hx hb hd ht (fun h => by rw [show jcmp .eq x 0 = true from decide_eq_true h] at hW; exact hW) (fun h => by rw [show jcmp .eq x 0 = false from decide_eq_false h] at hW; exact hW)
    | ne => exact lv_if_ne hx hb hd ht (fun h => by rw [show jcmp .ne x 0 = true from decide_eq_true h] at hW; exact hW) (fun h => by rw [show jcmp .ne x 0 = false from decide_eq_false (fun g => g h)] at hW; exact hW)
    | lt => exact lv_if_lt hx hb hd ht (fun h => by rw [show jcmp .lt x 0 = true from decide_eq_true h] at hW; exact hW) (fun h => by rw [show jcmp .lt x 0 = false from decide_eq_false h] at hW; exact hW)
    | ge => exact lv_if_ge hx hb hd ht (fun h => by rw [show jcmp .ge x 0 = true from decide_eq_true h] at hW; exact hW) (fun h => by rw [show jcmp .ge x 0 = false from decide_eq_false h] at hW; exact hW)
    | gt => exact lv_if_gt hx hb hd ht (fun h => by rw [show jcmp .gt x 0 = true from decide_eq_true h] at hW; exact hW) (fun h => by rw [show jcmp .gt x 0 = false from decide_eq_false h] at hW; exact hW)
    | le => exact lv_if_le hx hb hd ht (fun h => by rw [show jcmp .le x 0 = true from decide_eq_true h] at hW; exact hW) (fun h => by rw [show jcmp .le x 0 = false from decide_eq_false h] at hW; exact hW)
theorem jb_icmp (hx : p.tables.exec = Jvm.exec) (hb : c.code = cc) {cd : ClassFile.Cond} {off : Int} (hd : decode cc pc = .ok (.if_icmp cd off, 3)) {x y : Int32} {r : Nat × jL × List Value} (hs : jbr pc lv st off (jcmp cd x y) = some r) (hl : lv_has ls mL (jlv b b0 lv)) (kk : jK p l e R s m args below meth c H locs cells slots Q b b0 mL r) :
    W p l e R s m args below meth c H locs cells slots Q (F0 m pc ls (.int y :: .int x :: st.map (jv b b0))) := by
  unfold jbr at hs
  cases ht0 : jt pc off with
  | none => rw [ht0] at hs; cases hs
  | some t =>
    rw [ht0] at hs
    cases hs
    have ht := jt_spec ht0
    have hW := kk ls hl
    dsimp only at hW
    cases cd with
    | eq => exact lv_icmp_eq hx hb hd ht (fun h => by rw [show jcmp .eq x y = true from decide_eq_true h] at hW; exact hW) (fun h => by rw [show jcmp .eq x y = false from decide_eq_false h] at hW; exact hW)
    | ne => exact lv_icmp_ne hx hb hd ht (fun h => by rw [show jcmp .ne x y = true from decide_eq_true h] at hW; exact hW) (fun h => by rw [show jcmp .ne x y = false from decide_eq_false (fun g => g h)] at hW; exact hW)
    | lt => exact lv_icmp_lt hx hb hd ht (fun h => by rw [show jcmp .lt x y = true from decide_eq_true h] at hW; exact hW) (fun h => by rw [show jcmp .lt x y = false from decide_eq_false h] at hW; exact hW)
    | ge => exact lv_icmp_ge hx hb hd ht (fun h => by rw [show jcmp .ge x y = true from decide_eq_true h] at hW; exact hW) (fun h => by rw [show jcmp .ge x y = false from decide_eq_false h] at hW; exact hW)
    | gt => exact lv_icmp_gt hx hb hd ht (fun h => by rw [show jcmp .gt x y = true from decide_eq_true h] at hW; exact hW) (fun h => by rw [show jcmp .gt x y = false from decide_eq_false h] at hW; exact hW)
    | le => exact lv_icmp_le hx hb hd ht (fun h => by rw [show jcmp .le x y = true from decide_eq_true h] at hW; exact hW) (fun h => by rw [show jcmp .le x y = false from decide_eq_false h] at hW; exact hW)
set_option maxHeartbeats 4000000 in
theorem ja_ok (hx : p.tables.exec = Jvm.exec) (hb : c.code = cc) (hown : s.vm.findClass (jm_cn k) = some m.cls) (hlng : ∀ (idx : Nat) (v : Int64), jm_lng k idx = some v → (Jvm.Cond.constantLong (jm_cn k) idx v).before args s = true) {i : Instr} (hlen : jlen i = 0 ∨ len = jlen i) (hd : decode cc pc = .ok (i, len)) {r : Nat × jL × List Value}
    (hs : jA k mL pc len lv st i = some r) (hl : lv_has ls mL (jlv b b0 lv)) (kk : jK p l e R s m args below meth c H locs cells slots Q b b0 mL r) :
    W p l e R s m args below meth c H locs cells slots Q (F0 m pc ls (st.map (jv b b0))) := by
  have L1 : ∀ {i : Instr} {n : Nat}, jlen i = n → n ≠ 0 → (jlen i = 0 ∨ len = jlen i) → decode cc pc = .ok (i, len) → decode cc pc = .ok (i, n) := fun a b c d => jq_len a b c d
  cases i with
  | iconst n => exact (let ⟨w, hw, hW⟩ := jp_push hs hl kk; by cases hw; exact lv_iconst hx hb (jq_len rfl (by decide) hlen hd) rfl hW)
  | bipush n => exact (let ⟨w, hw, hW⟩ := jp_push hs hl kk; by cases hw; exact lv_bipush hx hb (jq_len rfl (by decide) hlen hd) rfl hW)
  | sipush n => exact (let ⟨w, hw, hW⟩ := jp_push hs hl kk; by cases hw; exact lv_sipush hx hb (jq_len rfl (by decide) hlen hd) rfl hW)
  | lconst n => exact (let ⟨w, hw, hW⟩ := jp_push hs hl kk; by cases hw; exact lv_lconst hx hb (jq_len rfl (by decide) hlen hd) rfl hW)
  | aconst_null => exact (let ⟨w, hw, hW⟩ := jp_push hs hl kk; by cases hw; exact lv_null hx hb (jq_len rfl (by decide) hlen hd) hW)
  | ldc2_w idx => 
    obtain ⟨w, hw, hW⟩ := jp_push hs hl kk
    cases hv : jm_lng k idx with
    | none => rw [hv] at hw; cases hw
    | some v =>
      rw [hv] at hw
      cases hw
      exact lv_ldc2 hx hb hown (hlng idx v hv) (jq_len rfl (by decide) hlen hd) hW
  | iload i => 
    obtain ⟨w, hw, hW⟩ := jp_push hs hl kk
    obtain ⟨x, rfl, hx1⟩ := jp_ldi hw
    exact lv_iload hx hb (jq_len rfl (by decide) hlen hd) (jl_has hl hx1) hW
  | iload_n i => 
    obtain ⟨w, hw, hW⟩ := jp_push hs hl kk
    obtain ⟨x, rfl, hx1⟩ := jp_ldi hw
    exact lv_iload_n hx hb (jq_len rfl (by decide) hlen hd) rfl (jl_has hl hx1) hW
  | lload i => 
    obtain ⟨w, hw, hW⟩ := jp_push hs hl kk
    obtain ⟨x, rfl, hx1⟩ := jp_ldl hw
    exact lv_lload hx hb (jq_len rfl (by decide) hlen hd) (jl_has hl hx1) hW
  | lload_n i => 
    obtain ⟨w, hw, hW⟩ := jp_push hs hl kk
    obtain ⟨x, rfl, hx1⟩ := jp_ldl hw
    exact lv_lload_n hx hb (jq_len rfl (by decide) hlen hd) rfl (jl_has hl hx1) hW
  | aload i => 
    obtain ⟨w, hw, hW⟩ := jp_push hs hl kk
    obtain ⟨hx1, rfl | ⟨a, rfl⟩ | ⟨a, rfl⟩⟩ := jp_lda hw
    · exact lv_aloadN hx hb (jq_len rfl (by decide) hlen hd) (jl_has hl hx1) hW
    · exact lv_aload hx hb (jq_len rfl (by decide) hlen hd) (jl_has hl hx1) hW
    · exact lv_aload hx hb (jq_len rfl (by decide) hlen hd) (jl_has hl hx1) hW
  | aload_n i => 
    obtain ⟨w, hw, hW⟩ := jp_push hs hl kk
    obtain ⟨hx1, rfl | ⟨a, rfl⟩ | ⟨a, rfl⟩⟩ := jp_lda hw
    · exact lv_aload_nN hx hb (jq_len rfl (by decide) hlen hd) rfl (jl_has hl hx1) hW
    · exact lv_aload_n hx hb (jq_len rfl (by decide) hlen hd) rfl (jl_has hl hx1) hW
    · exact lv_aload_n hx hb (jq_len rfl (by decide) hlen hd) rfl (jl_has hl hx1) hW
  | istore i => 
    obtain ⟨x, rest, rfl, hi, rfl⟩ := jb_st1i hs
    exact lv_istore hx hb (jq_len rfl (by decide) hlen hd) hl hi (jlv_js1 b b0 lv _ (.int x)) (fun ls' h' => kk ls' h')
  | istore_n i => 
    obtain ⟨x, rest, rfl, hi, rfl⟩ := jb_st1i hs
    exact lv_istore_n hx hb (jq_len rfl (by decide) hlen hd) rfl hl hi (jlv_js1 b b0 lv _ (.int x)) (fun ls' h' => kk ls' h')
  | astore i => 
    obtain ⟨v, rest, rfl, rfl | ⟨a, rfl⟩, hi, rfl⟩ := jb_st1a hs
    · exact lv_astoreN hx hb (jq_len rfl (by decide) hlen hd) hl hi (jlv_js1 b b0 lv _ .null) (fun ls' h' => kk ls' h')
    · exact lv_astore hx hb (jq_len rfl (by decide) hlen hd) hl hi (jlv_js1 b b0 lv _ (.ref a)) (fun ls' h' => kk ls' h')
  | astore_n i => 
    obtain ⟨v, rest, rfl, rfl | ⟨a, rfl⟩, hi, rfl⟩ := jb_st1a hs
    · exact lv_astore_nN hx hb (jq_len rfl (by decide) hlen hd) rfl hl hi (jlv_js1 b b0 lv _ .null) (fun ls' h' => kk ls' h')
    · exact lv_astore_n hx hb (jq_len rfl (by decide) hlen hd) rfl hl hi (jlv_js1 b b0 lv _ (.ref a)) (fun ls' h' => kk ls' h')
  | lstore i => 
    obtain ⟨x, rest, rfl, hi, rfl⟩ := jb_st2 hs
    exact lv_lstore hx hb (jq_len rfl (by decide) hlen hd) hl hi (jlv_js2 b b0 lv _ (.long x)) (fun ls' h' => kk ls' h')
  | lstore_n i => 
    obtain ⟨x, rest, rfl, hi, rfl⟩ := jb_st2 hs
    exact lv_lstore_n hx hb (jq_len rfl (by decide) hlen hd) rfl hl hi (jlv_js2 b b0 lv _ (.long x)) (fun ls' h' => kk ls' h')
  | iinc i n => 
    simp only [jA] at hs
    split at hs
    · next x hx1 =>
      split at hs
      · next hi =>
        cases hs
        obtain ⟨x', e', hx2⟩ := jp_ldi hx1
        cases e'
        obtain ⟨k9, hk9⟩ := List.getElem?_of_mem (List.mem_map.mpr ⟨(i, Value.int x), jl_mem hx2, rfl⟩ : (i, jv b b0 (.int x)) ∈ jlv b b0 lv)
        exact lv_iinc hx hb (jq_len rfl (by decide) hlen hd) hl hk9 rfl hi (jlv_js1 b b0 lv _ (.int _)) (fun ls' h' => kk ls' h')
      · cases hs
    · cases hs
  | iadd => exact jp_bin hs hl kk (fun x y rest h => lv_iadd hx hb (jq_len rfl (by decide) hlen hd) h)
  | isub => exact jp_bin hs hl kk (fun x y rest h => lv_isub hx hb (jq_len rfl (by decide) hlen hd) h)
  | imul => exact jp_bin hs hl kk (fun x y rest h => lv_imul hx hb (jq_len rfl (by decide) hlen hd) h)
  | iand => exact jp_bin hs hl kk (fun x y rest h => lv_iand hx hb (jq_len rfl (by decide) hlen hd) h)
  | ior => exact jp_bin hs hl kk (fun x y rest h => lv_ior hx hb (jq_len rfl (by decide) hlen hd) h)
  | ixor => exact jp_bin hs hl kk (fun x y rest h => lv_ixor hx hb (jq_len rfl (by decide) hlen hd) h)
  | ishl => exact jp_bin hs hl kk (fun x y rest h => lv_ishl hx hb (jq_len rfl (by decide) hlen hd) h)
  | ishr => exact jp_bin hs hl kk (fun x y rest h => lv_ishr hx hb (jq_len rfl (by decide) hlen hd) h)
  | iushr => exact jp_bin hs hl kk (fun x y rest h => lv_iushr hx hb (jq_len rfl (by decide) hlen hd) rfl h)
  | ladd => exact jp_bil hs hl kk (fun x y rest h => lv_ladd hx hb (jq_len rfl (by decide) hlen hd) h)
  | lmul => exact jp_bil hs hl kk (fun x y rest h => lv_lmul hx hb (jq_len rfl (by decide) hlen hd) h)
  | idiv => 
    simp only [jA] at hs
    split at hs
    · split at hs
      · cases hs
      · next hy =>
        cases hs
        exact lv_idiv hx hb (jq_len rfl (by decide) hlen hd) hy (kk ls hl)
    · cases hs
  | irem => 
    simp only [jA] at hs
    split at hs
    · split at hs
      · cases hs
      · next hy =>
        cases hs
        exact lv_irem hx hb (jq_len rfl (by decide) hlen hd) hy (kk ls hl)
    · cases hs
  | ineg => 
    simp only [jA] at hs
    split at hs
    · cases hs
      exact lv_ineg hx hb (jq_len rfl (by decide) hlen hd) (kk ls hl)
    · cases hs
  | i2l => 
    simp only [jA] at hs
    split at hs
    · cases hs
      exact lv_i2l hx hb (jq_len rfl (by decide) hlen hd) rfl (kk ls hl)
    · cases hs
  | l2i => 
    simp only [jA] at hs
    split at hs
    · cases hs
      exact lv_l2i hx hb (jq_len rfl (by decide) hlen hd) rfl (kk ls hl)
    · cases hs
  | lcmp => 
    simp only [jA] at hs
    split at hs
    · cases hs
      exact W.lcmp hx hb (jq_len rfl (by decide) hlen hd) (kk ls hl)
    · cases hs
  | dup => 
    simp only [jA] at hs
    split at hs
    · split at hs
      · next hc =>
        cases hs
        exact lv_dup hx hb (jq_len rfl (by decide) hlen hd) ((jv_cat b b0 _).trans hc) (kk ls hl)
      · cases hs
    · cases hs
  | pop => 
    simp only [jA] at hs
    split at hs
    · split at hs
      · next hc =>
        cases hs
        exact lv_pop hx hb (jq_len rfl (by decide) hlen hd) ((jv_cat b b0 _).trans hc) (kk ls hl)
      · cases hs
    · cases hs
  | dup2 => 
    simp only [jA] at hs
    split at hs
    · split at hs
      · next hc =>
        cases hs
        exact lv_dup2_11 hx hb (jq_len rfl (by decide) hlen hd) ((jv_cat b b0 _).trans hc.1) ((jv_cat b b0 _).trans hc.2) (kk ls hl)
      · cases hs
    · cases hs
  | ifCond cd off => 
    simp only [jA] at hs
    split at hs
    · exact jb_if hx hb (jq_len rfl (by decide) hlen hd) hs hl kk
    · cases hs
  | if_icmp cd off => 
    simp only [jA] at hs
    split at hs
    · exact jb_icmp hx hb (jq_len rfl (by decide) hlen hd) hs hl kk
    · cases hs
  | goto off => 
    obtain ⟨t, ht, hW⟩ := jp_go hs hl kk
    exact lv_goto hx hb (jq_len rfl (by decide) hlen hd) ht hW
  | ifnull off => 
    simp only [jA] at hs
    split at hs
    · obtain ⟨t, ht, hW⟩ := jp_go hs hl kk
      exact lv_ifnullN hx hb (jq_len rfl (by decide) hlen hd) ht hW
    · cases hs
      exact lv_ifnull hx hb (jq_len rfl (by decide) hlen hd) (kk ls hl)
    · cases hs
  | ifnonnull off => 
    simp only [jA] at hs
    split at hs
    · obtain ⟨t, ht, hW⟩ := jp_go hs hl kk
      exact lv_ifnonnull hx hb (jq_len rfl (by decide) hlen hd) ht hW
    · cases hs
      exact lv_ifnonnullN hx hb (jq_len rfl (by decide) hlen hd) (kk ls hl)
    · cases hs
  | tableswitch dflt lo hi offs => 
    simp only [jA] at hs
    split at hs
    · split at hs
      · next hc =>
        obtain ⟨t, ht, hW⟩ := jp_go hs hl kk
        exact lv_tableOut hx hb hd hc ht hW
      · next hc =>
        split at hs
        · next off ho =>
          obtain ⟨t, ht, hW⟩ := jp_go hs hl kk
          exact lv_tableIn hx hb hd (fun h => hc (Or.inl h)) (fun h => hc (Or.inr h)) ho ht hW
        · cases hs
    · cases hs
  | _ => cases hs
end JB
end
section
def jx (b0 : Nat) (x : vp_A) : vp_A := match x with
  | (n, .inr (.inr (.inr (.inr f)))) => (n, .inr (.inr (.inr (.inr (fun i => (f i).map (fun a => b0 + a))))))
  | x => x
def je (b b0 : Nat) (dA : Nat → ClassId) (c : jC) : va_E := match c with
  | .inl (t, x) => .inl (dA t, jx b0 x)
  | .inr (ci, fs) => .inr (ci, fs.map (jv b b0))
def jw (b b0 : Nat) (dA : Nat → ClassId) (h : List jC) : va_W := h.mapIdx (fun i c => (b0 + i, je b b0 dA c))
def jtys (dA : Nat → ClassId) : List (ClassId × FieldType) := (List.range jm_nat).map (fun t => (dA t, jm_aty t))
def jWd (D : va_G) (dA : Nat → ClassId) (b b0 : Nat) (h : List jC) (H : Heap) : Prop := va_P D vwCl (jw b b0 dA h) H ∧ H.size = b0 + h.length
theorem jw_get {b b0 : Nat} {dA : Nat → ClassId} {h : List jC} {a : Nat} {c : jC} (hc : h[a]? = some c) : (jw b b0 dA h)[a]? = some (b0 + a, je b b0 dA c) := by
  unfold jw
  rw [List.getElem?_mapIdx, hc]
  rfl
theorem jw_inv {b b0 : Nat} {dA : Nat → ClassId} {h : List jC} {a : Nat} {q : Nat × va_E} (hq : (jw b b0 dA h)[a]? = some q) : ∃ c, h[a]? = some c ∧ q = (b0 + a, je b b0 dA c) := by
  unfold jw at hq
  rw [List.getElem?_mapIdx] at hq
  cases hc : h[a]? with
  | none => rw [hc] at hq; cases hq
  | some c => rw [hc] at hq; cases hq; exact ⟨c, rfl, rfl⟩
theorem jw_D (b b0 : Nat) (dA : Nat → ClassId) (h : List jC) : va_D (fun q => b0 ≤ q) (jw b b0 dA h) := by
  refine ⟨fun i j x y hi hj hxy => ?_, fun k q hk => ?_⟩
  · obtain ⟨_, _, rfl⟩ := jw_inv hi
    obtain ⟨_, _, rfl⟩ := jw_inv hj
    simp at hxy
    exact hxy
  · obtain ⟨_, _, rfl⟩ := jw_inv hk
    exact Nat.le_add_right b0 k
theorem jtys_get {dA : Nat → ClassId} {t : Nat} (ht : t < jm_nat) : (jtys dA)[t]? = some (dA t, jm_aty t) := by
  unfold jtys
  rw [List.getElem?_map, List.getElem?_range ht]
  rfl
theorem jWd.at {D : va_G} {dA : Nat → ClassId} {b b0 : Nat} {h : List jC} {H : Heap} (hW : jWd D dA b b0 h H) {a : Nat} {c : jC} (hc : h[a]? = some c) : va_at D vwCl (b0 + a, je b b0 dA c) H := hW.1 a _ (jw_get hc)
theorem jWd.set {D : va_G} {dA : Nat → ClassId} {b b0 : Nat} {h : List jC} {H H1 : Heap} (hW : jWd D dA b b0 h H) {a : Nat} {c0 c : jC} (hc : h[a]? = some c0) (he : va_at D vwCl (b0 + a, je b b0 dA c) H1) (hz : H1.size = H.size) (oq : ∀ q : Nat, q ≠ b0 + a → H1[q]? = H[q]?) : jWd D dA b b0 (h.set a c) H1 := by
  have hl := (List.getElem?_eq_some_iff.mp hc).1
  refine ⟨fun k q hq => ?_, by rw [hz, hW.2, List.length_set]⟩
  obtain ⟨c', hc', rfl⟩ := jw_inv hq
  by_cases hk : k = a
  · subst hk
    rw [List.getElem?_set_self hl] at hc'
    cases hc'
    exact he
  · rw [List.getElem?_set_ne (Ne.symm hk)] at hc'
    exact (hW.at hc').kept (oq _ (by show b0 + k ≠ b0 + a; omega))
theorem jWd.push {D : va_G} {dA : Nat → ClassId} {b b0 : Nat} {h : List jC} {H H1 : Heap} (hW : jWd D dA b b0 h H) {c : jC} (he : va_at D vwCl (b0 + h.length, je b b0 dA c) H1) (hz : H1.size = H.size + 1) (oq : ∀ q : Nat, q < H.size → H1[q]? = H[q]?) : jWd D dA b b0 (h ++ [c]) H1 := by
  refine ⟨fun k q hq => ?_, by rw [hz, hW.2, List.length_append]; rfl⟩
  obtain ⟨c', hc', rfl⟩ := jw_inv hq
  by_cases hk : k < h.length
  · rw [List.getElem?_append_left hk] at hc'
    exact (hW.at hc').kept (oq _ (by show b0 + k < H.size; rw [hW.2]; omega))
  · rw [List.getElem?_append_right (by omega)] at hc'
    have h0 : k - h.length < 1 := (List.getElem?_eq_some_iff.mp hc').1
    have hk0 : k = h.length := by omega
    subst hk0
    rw [Nat.sub_self] at hc'
    cases hc'
    exact he
theorem jin_spec {i : Int32} {n : Nat} (h : jin i n = true) : vp_in i n := by
  unfold jin at h
  show ¬ (i < 0 ∨ n ≤ i.toNatClampNeg)
  exact of_decide_eq_true h
theorem jfit_ok {ty : FieldType} {v : Value} (b b0 : Nat) (h : jfit ty v = true) : narrow ty (jv b b0 v) = jv b b0 v ∧ fits ty (jv b b0 v) = true := by
  unfold jfit at h
  split at h
  · exact ⟨rfl, rfl⟩
  · next x =>
    rcases of_decide_eq_true h with rfl | rfl
    · exact ⟨show narrow .boolean (.int 0) = .int 0 by decide +kernel, show fits .boolean (.int 0) = true by decide +kernel⟩
    · exact ⟨show narrow .boolean (.int 1) = .int 1 by decide +kernel, show fits .boolean (.int 1) = true by decide +kernel⟩
  · exact ⟨rfl, rfl⟩
  · exact ⟨rfl, rfl⟩
  · exact ⟨rfl, rfl⟩
  · exact ⟨rfl, rfl⟩
  · exact ⟨rfl, rfl⟩
  · cases h
def jsz (c : jC) : Nat := match c with
  | .inl (_, n, _) => n
  | .inr (_, fs) => fs.length
def jsl (h : List jC) : Nat := (h.map jsz).sum
theorem jsl_set : ∀ (h : List jC) (a : Nat) (c0 c : jC), h[a]? = some c0 → jsz c = jsz c0 → jsl (h.set a c) = jsl h
  | [], _, _, _, h1, _ => by simp at h1
  | x :: h, 0, c0, c, h1, h2 => by
    simp at h1
    subst h1
    simp [jsl, h2]
  | x :: h, a + 1, c0, c, h1, h2 => by
    have := jsl_set h a c0 c (by simpa using h1) h2
    simp [jsl] at this ⊢
    exact this
theorem jsl_app (h g : List jC) : jsl (h ++ g) = jsl h + jsl g := by simp [jsl]
theorem jsl_one (c : jC) : jsl [c] = jsz c := by simp [jsl]

def jov (s : State) : Prop := (∀ C ∈ jm_over, va_AO C s) ∧ (Cond.arrayOver (.array .int)).before #[] s = true ∧ ∀ w ∈ jm_nest, va_Nw w s
/-- what stands fixed while a method runs -/
def jcx (D : va_G) (dA : Nat → ClassId) (b b0 L : Nat) (xs : Nat → Int32) (p : Program) (s : State) (m : MethodId) (args : Array Value) (meth : Method) (c : Code) (mi : Nat) : Prop :=
  p.tables.exec = Jvm.exec ∧ c.code = jm_code mi ∧ c.maxLocals = jm_maxL mi ∧ s.vm.findClass (jm_cn (jm_own mi)) = some m.cls ∧ (∀ w ∈ jm_gw, w.before args s = true) ∧ va_K D vwCl (jtys dA) s ∧ jov s ∧ (jm_ini mi = true → meth.name = "<init>") ∧ (mi = 0 → va_X b L xs s s.heap ∧ b < s.heap.size ∧ b < b0) ∧ b0 ≤ s.heap.size
section JH
variable {p : Program} {l : Launch} {e : Env} {R : Room} {s : State} {m : MethodId} {args : Array Value} {below : List Frame} {meth : Method} {c : Code} {H : Heap} {locs : List Loc} {cells slots : Nat} {Q : State → Prop}
variable {D : va_G} {dA : Nat → ClassId} {b b0 L mi pc : Nat} {xs : Nat → Int32} {ls : Array Slot} {rest : List Value} {h : List jC}
theorem jh_get (cx : jcx D dA b b0 L xs p s m args meth c mi) (hW : jWd D dA b b0 h H) {idx a ci f : Nat} {fs : List Value} {v : Value} (hf : jm_fld (jm_own mi) idx = some (ci, f)) (ha : h[a]? = some (.inr (ci, fs))) (hv : fs[f]? = some v) (hd : decode (jm_code mi) pc = .ok (.getfield idx, 3))
    (kk : W p l e R s m args below meth c H locs cells slots Q (F0 m (pc + 3) ls (jv b b0 v :: rest))) : W p l e R s m args below meth c H locs cells slots Q (F0 m pc ls (.ref (b0 + a) :: rest)) := by
  obtain ⟨hx, hb, hml, hown, hts, hK, hov, hin, hX, hbs⟩ := cx
  obtain ⟨C, T, N, hc, hN, hlk⟩ := jm_fld_ok _ _ _ _ hf
  obtain ⟨k1, k2, k3, k4, k5, k6, k7, k8⟩ := jm_cl_ok ci C T N hc
  have hT := (k7 f hN).1
  refine va_get hx hb hts k1 hown hK hW.1 a (jw_get ha) hc f hN (hts _ hlk) (fun x h => by rw [← hT]; exact h) ?_ hd kk
  rw [List.getElem?_map, hv]
  rfl
theorem jh_iald (cx : jcx D dA b b0 L xs p s m args meth c mi) (hW : jWd D dA b b0 h H) {a n : Nat} {f : Nat → Int32} {j : Int32} (ha : h[a]? = some (.inl (0, n, .inl f))) (hj : jin j n = true) (hd : decode (jm_code mi) pc = .ok (.iaload, 1))
    (kk : W p l e R s m args below meth c H locs cells slots Q (F0 m (pc + 1) ls (.int (f j.toNatClampNeg) :: rest))) : W p l e R s m args below meth c H locs cells slots Q (F0 m pc ls (.int j :: .ref (b0 + a) :: rest)) := by
  obtain ⟨hx, hb, hml, hown, hts, hK, hov, hin, hX, hbs⟩ := cx
  have ht := jtys_get (dA := dA) (t := 0) (Nat.lt_of_lt_of_le (by decide) jm_nat2)
  rw [jm_aty0] at ht
  exact va_iald hx hb hK hW.1 a 0 (jw_get ha) ht (jin_spec hj) hd kk
theorem jh_bald (cx : jcx D dA b b0 L xs p s m args meth c mi) (hW : jWd D dA b b0 h H) {a n : Nat} {f : Nat → Int32} {j : Int32} (ha : h[a]? = some (.inl (1, n, .inl f))) (hj : jin j n = true) (hd : decode (jm_code mi) pc = .ok (.baload, 1))
    (kk : W p l e R s m args below meth c H locs cells slots Q (F0 m (pc + 1) ls (.int (f j.toNatClampNeg) :: rest))) : W p l e R s m args below meth c H locs cells slots Q (F0 m pc ls (.int j :: .ref (b0 + a) :: rest)) := by
  obtain ⟨hx, hb, hml, hown, hts, hK, hov, hin, hX, hbs⟩ := cx
  have ht := jtys_get (dA := dA) (t := 1) (Nat.lt_of_lt_of_le (by decide) jm_nat2)
  rw [jm_aty1] at ht
  exact va_zald hx hb hK hW.1 a 1 (jw_get ha) ht (jin_spec hj) hd kk
theorem jh_aald (cx : jcx D dA b b0 L xs p s m args meth c mi) (hW : jWd D dA b b0 h H) {a n t : Nat} {f : Nat → Option Nat} {j : Int32} (ha : h[a]? = some (.inl (t, n, .inr (.inr (.inr (.inr f)))))) (h2 : 2 ≤ t) (ht : t < jm_nat) (hj : jin j n = true) (hd : decode (jm_code mi) pc = .ok (.aaload, 1))
    (kk : W p l e R s m args below meth c H locs cells slots Q (F0 m (pc + 1) ls (jv b b0 (jrf (f j.toNatClampNeg)) :: rest))) : W p l e R s m args below meth c H locs cells slots Q (F0 m pc ls (.int j :: .ref (b0 + a) :: rest)) := by
  obtain ⟨hx, hb, hml, hown, hts, hK, hov, hin, hX, hbs⟩ := cx
  have hr := jm_aref t h2 ht
  have hvi := jin_spec hj
  have hlt : j.toNatClampNeg < n := Nat.not_le.mp fun q => hvi (Or.inr q)
  have hg : ∀ i, va_rf ((f i).map (fun a => b0 + a)) = jv b b0 (jrf (f i)) := fun i => by cases f i <;> rfl
  have hP : H[b0 + a]? = some (arrV (dA t) n (fun i => va_rf ((f i).map (fun a => b0 + a)))) := hW.at ha
  refine W.aald (v := jv b b0 (jrf (f j.toNatClampNeg))) (ty := jm_aty t) hx hb hP ((hK.2 t _ (jtys_get ht)).1 n (fun i => va_rf ((f i).map (fun a => b0 + a)))) hr (fun q => by cases q) (by rw [arrV_size]; exact hvi) (by rw [arrV_read _ _ hlt, hg]) rfl rfl hd kk
theorem jh_alen (cx : jcx D dA b b0 L xs p s m args meth c mi) (hW : jWd D dA b b0 h H) {a n t : Nat} {x : (Nat → Int32) ⊕ (Nat → Int64) ⊕ (Nat → UInt32) ⊕ (Nat → UInt64) ⊕ (Nat → Option Nat)} (ha : h[a]? = some (.inl (t, n, x))) (ht : t < jm_nat) (hd : decode (jm_code mi) pc = .ok (.arraylength, 1))
    (kk : W p l e R s m args below meth c H locs cells slots Q (F0 m (pc + 1) ls (.int (Int32.ofNat n) :: rest))) : W p l e R s m args below meth c H locs cells slots Q (F0 m pc ls (.ref (b0 + a) :: rest)) := by
  obtain ⟨hx, hb, hml, hown, hts, hK, hov, hin, hX, hbs⟩ := cx
  refine va_alen hx hb hK hW.1 a t (jw_get ha) (jtys_get ht) ?_ hd kk
  obtain f | f | f | f | f := x <;> rfl
theorem jh_sld (cx : jcx D dA b b0 L xs p s m args meth c mi) (h0 : mi = 0) (hS : va_S (fun q => b0 ≤ q) s.heap H locs) {j : Int32} (hj : jin j L = true) (hd : decode (jm_code mi) pc = .ok (.iaload, 1))
    (kk : W p l e R s m args below meth c H locs cells slots Q (F0 m (pc + 1) ls (.int (xs j.toNatClampNeg) :: rest))) : W p l e R s m args below meth c H locs cells slots Q (F0 m pc ls (.int j :: .ref b :: rest)) := by
  obtain ⟨hx, hb, hml, hown, hts, hK, hov, hin, hX, hbs⟩ := cx
  obtain ⟨g1, g2, g3⟩ := hX h0
  exact va_sld hx hb g1 g2 (by show ¬ b0 ≤ b; omega) hS (jin_spec hj) hd kk
theorem jh_slen (cx : jcx D dA b b0 L xs p s m args meth c mi) (h0 : mi = 0) (hS : va_S (fun q => b0 ≤ q) s.heap H locs) (hd : decode (jm_code mi) pc = .ok (.arraylength, 1))
    (kk : W p l e R s m args below meth c H locs cells slots Q (F0 m (pc + 1) ls (.int (Int32.ofNat L) :: rest))) : W p l e R s m args below meth c H locs cells slots Q (F0 m pc ls (.ref b :: rest)) := by
  obtain ⟨hx, hb, hml, hown, hts, hK, hov, hin, hX, hbs⟩ := cx
  obtain ⟨g1, g2, g3⟩ := hX h0
  exact va_slen hx hb g1 g2 (by show ¬ b0 ≤ b; omega) hS hd kk
end JH
end
section
section JP
variable {p : Program} {l : Launch} {e : Env} {R : Room} {s : State} {m : MethodId} {args : Array Value} {below : List Frame} {meth : Method} {c : Code} {H : Heap} {locs : List Loc} {cells slots : Nat} {Q : State → Prop}
variable {D : va_G} {dA : Nat → ClassId} {b b0 L mi pc : Nat} {xs : Nat → Int32} {ls : Array Slot} {rest : List Value} {h : List jC}
/-- what is to be shown behind a step that leaves the heap h' -/
def jKH (p : Program) (l : Launch) (e : Env) (R : Room) (s : State) (m : MethodId) (args : Array Value) (below : List Frame) (meth : Method) (c : Code) (cells slots : Nat) (Q : State → Prop) (D : va_G) (dA : Nat → ClassId) (b b0 : Nat) (h' : List jC) (g : JFrame) : Prop :=
  ∀ (H1 : Heap) (locs1 : List Loc), jWd D dA b b0 h' H1 → va_S (fun q => b0 ≤ q) s.heap H1 locs1 → W p l e R s m args below meth c H1 locs1 cells slots Q g
theorem jh_put (cx : jcx D dA b b0 L xs p s m args meth c mi) (hW : jWd D dA b b0 h H) (hS : va_S (fun q => b0 ≤ q) s.heap H locs) {idx a ci f : Nat} {fs : List Value} {v : Value} (hf : jm_fld (jm_own mi) idx = some (ci, f)) (ha : h[a]? = some (.inr (ci, fs))) (hl : f < fs.length) (hv : jfit (jm_ty ci f) v = true) (hfin : jm_fin ci f = false ∨ jm_ini mi = true ∧ jm_own mi = ci) (hd : decode (jm_code mi) pc = .ok (.putfield idx, 3))
    (kk : jKH p l e R s m args below meth c cells slots Q D dA b b0 (h.set a (.inr (ci, fs.set f v))) (F0 m (pc + 3) ls rest)) : W p l e R s m args below meth c H locs cells slots Q (F0 m pc ls (jv b b0 v :: .ref (b0 + a) :: rest)) := by
  obtain ⟨hx, hb, hml, hown, hts, hK, hov, hin, hX, hbs⟩ := cx
  obtain ⟨C, T, N, hc, hN, hlk⟩ := jm_fld_ok _ _ _ _ hf
  obtain ⟨k1, k2, k3, k4, k5, k6, k7, k8⟩ := jm_cl_ok ci C T N hc
  obtain ⟨hT, hFn⟩ := k7 f hN
  obtain ⟨n1, n2⟩ := jfit_ok b b0 hv
  have hap := va_apart (own := C) hts k1 (jm_ty ci) k2 k3 hK hc
  obtain ⟨r, h1, cell, q1, q2, q3, q4⟩ := hW.at ha
  have hr : r = (C, T, N) := Option.some.inj (h1.symm.trans hc)
  subst hr
  obtain ⟨hSl, hfc, kC, hkC, hkind⟩ := hK.1 ci _ hc
  obtain ⟨cf, kf, fi, fd, hi, hsl⟩ := hSl f hN
  have hlay := hts _ (k1 _ (u_in_lay hN))
  have hst := (u_facts hfc hkC (u_lays hts k1 hN) hi).1
  have hll : f < (fs.map (jv b b0)).length := by rw [List.length_map]; exact hl
  have fin : ∀ (H' : Heap) (i9 : Nat), H'[b0 + a]? = some (cell.setSlot fd.slot (jv b b0 v)) → H'.size = H.size → (∀ q, q ≠ b0 + a → H'[q]? = H[q]?) → W p l e R s m args below meth c H' (locs ++ [⟨b0 + a, i9⟩]) cells slots Q (F0 m (pc + 3) ls rest) := by
    intro H' i9 e1 e2 e3
    rw [hsl] at e1
    refine kk H' _ (hW.set ha ?_ e2 e3) (hS.put e2 e3 (Nat.le_add_right b0 a))
    refine ⟨_, hc, ?_⟩
    have := t_OB.to (V := updV (vp_V (fs.map (jv b b0))) f (jv b b0 v)) ⟨_, e1, q2, q3, t_set q4 hap hN (jv b b0 v)⟩ (fun j _ => vp_updV_set hll (jv b b0 v) j)
    rw [← List.map_set] at this
    exact this
  unfold u_lay at hlay
  by_cases hff : (T f).2.2.2 = true
  · rw [if_pos hff] at hlay
    have hii : jm_ini mi = true ∧ jm_own mi = ci := by
      rcases hfin with g | g
      · rw [← hFn, hff] at g; cases g
      · exact g
    have hcf : m.cls = cf := by
      obtain ⟨_, _, c', _, _, _, -, -, hf', -, -, -, hown2, -⟩ := Cond.laysFinal_spec hlay
      have e1 : c' = cf := by have := hi.symm.trans hf'; simp at this; exact this.1.symm
      rw [hT, ← k8, ← hii.2] at hown2
      rw [← e1]; exact Option.some.inj (hown.symm.trans hown2)
    have h6 := u_fits hfc hkC hkind (Or.inr hlay) hi (k2 f hN) n1 n2
    refine W.putFinK hx hb hown (hts _ hlk) (by rw [← hT]; exact hi) hst hcf (hin hii.1) (by rw [q2]; exact h6) q1 q3 (by rw [hsl]; exact k2_hasslot (q4 f hN)) rfl rfl hd fun H' e1 e2 e3 => fin H' _ e1 e2 e3
  · rw [if_neg hff] at hlay
    have h6 := u_store hfc hkC hkind hlay hi (k2 f hN) n1 n2
    refine W.putK hx hb (f := fd) ⟨hown, hts _ hlk, ⟨_, _, _, by rw [← hT]; exact hi⟩, hst⟩ (by rw [q2]; exact h6) q1 q3 (by rw [hsl]; exact k2_hasslot (q4 f hN)) rfl rfl hd fun H' e1 e2 e3 => fin H' _ e1 e2 e3
theorem jh_iast (cx : jcx D dA b b0 L xs p s m args meth c mi) (hW : jWd D dA b b0 h H) (hS : va_S (fun q => b0 ≤ q) s.heap H locs) {a n : Nat} {f : Nat → Int32} {j x : Int32} (ha : h[a]? = some (.inl (0, n, .inl f))) (hj : jin j n = true) (hd : decode (jm_code mi) pc = .ok (.iastore, 1))
    (kk : jKH p l e R s m args below meth c cells slots Q D dA b b0 (h.set a (.inl (0, n, .inl (upd f j.toNatClampNeg x)))) (F0 m (pc + 1) ls rest)) : W p l e R s m args below meth c H locs cells slots Q (F0 m pc ls (.int x :: .int j :: .ref (b0 + a) :: rest)) := by
  obtain ⟨hx, hb, hml, hown, hts, hK, hov, hin, hX, hbs⟩ := cx
  have ht := jtys_get (dA := dA) (t := 0) (Nat.lt_of_lt_of_le (by decide) jm_nat2)
  rw [jm_aty0] at ht
  have hP : H[b0 + a]? = some (arrV (dA 0) n (fun i => .int (f i))) := hW.at ha
  refine W.iast hx hb hP ((hK.2 0 _ ht).1 n (fun i => .int (f i))) (fun q => by cases q) (by rw [arrV_size]; exact jin_spec hj) rfl rfl hd fun H1 e1 z oq => ?_
  refine kk H1 _ (hW.set ha ?_ z oq) (hS.put z oq (Nat.le_add_right b0 a))
  show H1[b0 + a]? = some (arrV (dA 0) n (fun i => .int (upd f j.toNatClampNeg x i)))
  rw [e1, arrV_store]
  refine congrArg (fun g => some (arrV (dA 0) n g)) (funext fun q => ?_)
  by_cases hq : q = j.toNatClampNeg
  · subst hq
    simp [updV, upd]
  · simp [updV, upd, hq]
theorem jh_bast (cx : jcx D dA b b0 L xs p s m args meth c mi) (hW : jWd D dA b b0 h H) (hS : va_S (fun q => b0 ≤ q) s.heap H locs) {a n : Nat} {f : Nat → Int32} {j x : Int32} (ha : h[a]? = some (.inl (1, n, .inl f))) (hj : jin j n = true) (hz : x = 0 ∨ x = 1) (hd : decode (jm_code mi) pc = .ok (.bastore, 1))
    (kk : jKH p l e R s m args below meth c cells slots Q D dA b b0 (h.set a (.inl (1, n, .inl (upd f j.toNatClampNeg x)))) (F0 m (pc + 1) ls rest)) : W p l e R s m args below meth c H locs cells slots Q (F0 m pc ls (.int x :: .int j :: .ref (b0 + a) :: rest)) := by
  obtain ⟨hx, hb, hml, hown, hts, hK, hov, hin, hX, hbs⟩ := cx
  have ht := jtys_get (dA := dA) (t := 1) (Nat.lt_of_lt_of_le (by decide) jm_nat2)
  rw [jm_aty1] at ht
  have hP : H[b0 + a]? = some (arrV (dA 1) n (fun i => .int (f i))) := hW.at ha
  have hnz : narrow .boolean (.int x) = .int x := by
    rcases hz with rfl | rfl <;> decide +kernel
  refine W.zast hx hb hP ((hK.2 1 _ ht).1 n (fun i => .int (f i))) (fun q => by cases q) (by rw [arrV_size]; exact jin_spec hj) rfl rfl hd fun H1 e1 z oq => ?_
  refine kk H1 _ (hW.set ha ?_ z oq) (hS.put z oq (Nat.le_add_right b0 a))
  show H1[b0 + a]? = some (arrV (dA 1) n (fun i => .int (upd f j.toNatClampNeg x i)))
  rw [e1, arrV_store, hnz]
  refine congrArg (fun g => some (arrV (dA 1) n g)) (funext fun q => ?_)
  by_cases hq : q = j.toNatClampNeg
  · subst hq
    simp [updV, upd]
  · simp [updV, upd, hq]
theorem jh_aast (cx : jcx D dA b b0 L xs p s m args meth c mi) (hW : jWd D dA b b0 h H) (hS : va_S (fun q => b0 ≤ q) s.heap H locs) {a n t v ci : Nat} {vs : List Value} {f : Nat → Option Nat} {j : Int32} (ha : h[a]? = some (.inl (t, n, .inr (.inr (.inr (.inr f)))))) (hv : h[v]? = some (.inr (ci, vs))) (he : jm_ael t = some ci) (ht : t < jm_nat) (hj : jin j n = true) (hd : decode (jm_code mi) pc = .ok (.aastore, 1))
    (kk : jKH p l e R s m args below meth c cells slots Q D dA b b0 (h.set a (.inl (t, n, .inr (.inr (.inr (.inr (va_up f j.toNatClampNeg (some v)))))))) (F0 m (pc + 1) ls rest)) : W p l e R s m args below meth c H locs cells slots Q (F0 m pc ls (.ref (b0 + v) :: .int j :: .ref (b0 + a) :: rest)) := by
  obtain ⟨hx, hb, hml, hown, hts, hK, hov, hin, hX, hbs⟩ := cx
  obtain ⟨r, hr, hty⟩ := jm_ael_ok t ci he
  have hvi := jin_spec hj
  have hlt : j.toNatClampNeg < n := Nat.not_le.mp fun q => hvi (Or.inr q)
  have h0 : ¬ j < 0 := fun q => hvi (Or.inl q)
  obtain ⟨r', hr', cellV, g1, g2, g3, -⟩ := hW.at hv
  have hcls := (hK.1 ci r hr).2
  have hK2 := (hK.2 t _ (jtys_get ht)).2
  simp only [hty] at hK2
  obtain ⟨kA, comp, k1, k2, k3, -⟩ := hK2
  have hcomp : comp = D.1 ci := Option.some.inj (k3.symm.trans hcls.1)
  subst hcomp
  obtain ⟨kC, hkC, -⟩ := hcls.2
  have hP : H[b0 + a]? = some (arrV (dA t) n (fun i => va_rf ((f i).map (fun a => b0 + a)))) := hW.at ha
  refine W.aast hx hb hP (fun q h => by cases h) (fun h => by cases h) k1 k2 rfl hkC ⟨h0, by rw [arrV_size]; exact hlt⟩ g1 (fun q h => by rw [g3] at h; cases h) (by rw [g2]; exact hkC) (by rw [g2]; exact va_assign hcls) rfl rfl hd fun H1 e1 z oq => ?_
  refine kk H1 _ (hW.set ha ?_ z oq) (hS.put z oq (Nat.le_add_right b0 a))
  show H1[b0 + a]? = some (arrV (dA t) n (fun i => va_rf ((va_up f j.toNatClampNeg (some v) i).map (fun a => b0 + a))))
  rw [e1, arrV_store]
  refine congrArg (fun g => some (arrV (dA t) n g)) (funext fun q => ?_)
  by_cases hq : q = j.toNatClampNeg
  · subst hq
    simp [updV, va_up, va_rf]
  · simp [updV, va_up, hq]
end JP
end
section
section JN
variable {p : Program} {l : Launch} {e : Env} {R : Room} {s : State} {m : MethodId} {args : Array Value} {below : List Frame} {meth : Method} {c : Code} {H : Heap} {locs : List Loc} {cells slots : Nat} {Q : State → Prop}
variable {D : va_G} {dA : Nat → ClassId} {b b0 L mi pc : Nat} {xs : Nat → Int32} {ls : Array Slot} {rest : List Value} {h : List jC}
theorem jS_push {H1 : Heap} (hS : va_S (fun q => b0 ≤ q) s.heap H locs) (hz : H1.size = H.size + 1) (oq : ∀ q : Nat, q < H.size → H1[q]? = H[q]?) : va_S (fun q => b0 ≤ q) s.heap H1 locs :=
  ⟨Nat.le_trans hS.1 (by omega), fun q h1 h2 => (oq q (Nat.lt_of_lt_of_le h1 hS.1)).trans (hS.2.1 q h1 h2), hS.2.2⟩
theorem jv_def (b b0 : Nat) (ty : FieldType) : jv b b0 (defaultValue ty) = defaultValue ty := by
  cases ty <;> rfl
theorem jh_new (cx : jcx D dA b b0 L xs p s m args meth c mi) (hW : jWd D dA b b0 h H) (hS : va_S (fun q => b0 ≤ q) s.heap H locs) {idx ci : Nat} (hn : jm_new (jm_own mi) idx = some ci) (hd : decode (jm_code mi) pc = .ok (.new idx, 3)) (hcells : cells + 1 ≤ R.cells) (hslots : slots + jm_nf ci ≤ R.slots)
    (kk : jKH p l e R s m args below meth c (cells + 1) (slots + jm_nf ci) Q D dA b b0 (h ++ [.inr (ci, (List.range (jm_nf ci)).map (fun j => defaultValue (jm_ty ci j)))]) (F0 m (pc + 3) ls (.ref (b0 + h.length) :: rest))) : W p l e R s m args below meth c H locs cells slots Q (F0 m pc ls rest) := by
  obtain ⟨hx, hb, hml, hown, hts, hK, hov, hin, hX, hbs⟩ := cx
  obtain ⟨C, T, N, hc, hlk⟩ := jm_new_ok _ _ _ hn
  obtain ⟨k1, k2, k3, k4, k5, k6, k7, k8⟩ := jm_cl_ok ci C T N hc
  subst k6
  have hKn := hK.1 ci _ hc
  refine W.newcK hx hb hown (hts _ hlk) (hts _ k4) (hts _ k5) rfl hd hcells hslots hKn.2.1 hW.2 fun H1 kC hkC e1 z1 o1 => ?_
  have z1' : H1.size = H.size + 1 := by rw [z1, hW.2]
  have o1' : ∀ q : Nat, q < H.size → H1[q]? = H[q]? := fun q hq => o1 q (by rw [← hW.2]; exact hq)
  refine kk H1 _ (hW.push ?_ z1' o1') (jS_push hS z1' o1')
  refine ⟨_, hc, (u_born (jm_ty ci) hts k1 hKn hkC e1 k2).to ?_⟩
  intro j hj
  simp [vp_V, List.getD_eq_getElem?_getD, List.getElem?_map, List.getElem?_range hj, jv_def]
theorem jh_newa (cx : jcx D dA b b0 L xs p s m args meth c mi) (hW : jWd D dA b b0 h H) (hS : va_S (fun q => b0 ≤ q) s.heap H locs) {at9 : ArrayType} {t : Nat} (ht : t < jm_nat) (hty : newarray.typeOf at9 = jm_aty t) (har : Cond.arrayClass (jm_aty t) ∈ jm_gw) (hdv : defaultValue (jm_aty t) = .int 0) (hcb : componentBytes (jm_aty t) ≤ 4) (hra : ∀ (U : State) (cA : ClassId), va_RA U cA (jm_aty t) → U.vm.findClass ("[" ++ (jm_aty t).toString) = some cA) {n : Int32} (hn : ¬ n < 0) (hn2 : n.toNatClampNeg ≤ 100000) (hd : decode (jm_code mi) pc = .ok (.newarray at9, 2)) (hcells : cells + 1 ≤ R.cells) (hslots : slots + n.toNatClampNeg ≤ R.slots)
    (kk : jKH p l e R s m args below meth c (cells + 1) (slots + n.toNatClampNeg) Q D dA b b0 (h ++ [.inl (t, n.toNatClampNeg, .inl (fun _ => 0))]) (F0 m (pc + 2) ls (.ref (b0 + h.length) :: rest))) : W p l e R s m args below meth c H locs cells slots Q (F0 m pc ls (.int n :: rest)) := by
  obtain ⟨hx, hb, hml, hown, hts, hK, hov, hin, hX, hbs⟩ := cx
  have hbytes : n.toNatClampNeg * componentBytes (jm_aty t) ≤ 536870912 := Nat.le_trans (Nat.mul_le_mul hn2 hcb) (by decide)
  refine va_newaK hx hb (by rw [hty]; exact hts _ har) rfl hd rfl hn rfl (by rw [hty]; exact hbytes) hcells hslots hW.2 fun H1 cA e1 z1 o1 hAr hNm => ?_
  have z1' : H1.size = H.size + 1 := by rw [z1, hW.2]
  have o1' : ∀ q : Nat, q < H.size → H1[q]? = H[q]? := fun q hq => o1 q (by rw [← hW.2]; exact hq)
  rw [hty] at e1 hNm
  have hcA : cA = dA t := Option.some.inj (hNm.symm.trans (hra s _ (hK.2 t _ (jtys_get ht)).2))
  subst hcA
  refine kk H1 _ (hW.push ?_ z1' o1') (jS_push hS z1' o1')
  show H1[b0 + h.length]? = some (arrV (dA t) n.toNatClampNeg (fun _ => .int 0))
  rw [e1, hdv]
theorem jh_newq (cx : jcx D dA b b0 L xs p s m args meth c mi) (hW : jWd D dA b b0 h H) (hS : va_S (fun q => b0 ≤ q) s.heap H locs) {idx t : Nat} (hq : jm_anew (jm_own mi) idx = some t) {n : Int32} (hn : ¬ n < 0) (hn2 : n.toNatClampNeg ≤ 100000) (hd : decode (jm_code mi) pc = .ok (.anewarray idx, 3)) (hcells : cells + 1 ≤ R.cells) (hslots : slots + n.toNatClampNeg ≤ R.slots)
    (kk : jKH p l e R s m args below meth c (cells + 1) (slots + n.toNatClampNeg) Q D dA b b0 (h ++ [.inl (t, n.toNatClampNeg, .inr (.inr (.inr (.inr (fun _ => none)))))]) (F0 m (pc + 3) ls (.ref (b0 + h.length) :: rest))) : W p l e R s m args below meth c H locs cells slots Q (F0 m pc ls (.int n :: rest)) := by
  obtain ⟨hx, hb, hml, hown, hts, hK, hov, hin, hX, hbs⟩ := cx
  obtain ⟨t2, ht, C, hty, hC, hlk⟩ := jm_anew_ok _ _ _ hq
  refine W.anew hx hb hown (hts _ hlk) (va_AO.use (hov.1 C hC)) rfl hd rfl hn (by omega) hcells hslots fun cA kA comp f1 f2 f3 f4 => ?_
  generalize hH1 : H.push ({ cls := cA, slots := Array.replicate n.toNatClampNeg .null, vm := .none } : Cell) = H1
  have z1 : H1.size = H.size + 1 := by rw [← hH1, Array.size_push]
  have e1 : H1[H.size]? = some (arrV cA n.toNatClampNeg (fun _ => .null)) := by rw [← hH1, Array.getElem?_push_size, ← arrV_new]
  have o1 : ∀ q : Nat, q < H.size → H1[q]? = H[q]? := fun q hq => by rw [← hH1, Array.getElem?_push, if_neg (Nat.ne_of_lt hq)]
  have hK2 := (hK.2 t _ (jtys_get ht)).2
  simp only [hty] at hK2
  obtain ⟨kA9, comp9, k1, k2, k3, k4⟩ := hK2
  have hcA : cA = dA t := Option.some.inj (f1.symm.trans k4)
  subst hcA
  have := kk H1 locs (hW.push (c := .inl (t, n.toNatClampNeg, .inr (.inr (.inr (.inr (fun _ => none)))))) (by
    show H1[b0 + h.length]? = some (arrV (dA t) n.toNatClampNeg (fun _ => va_rf (Option.map (fun a => b0 + a) none)))
    rw [← hW.2, e1]
    rfl) z1 o1) (jS_push hS z1 o1)
  rw [hW.2]
  exact this
theorem jh_oi (cx : jcx D dA b b0 L xs p s m args meth c mi) (hl : ls.size = jm_maxL mi) {idx : Nat} {a : Nat} (ho : jm_oi (jm_own mi) idx = true) (hd : decode (jm_code mi) pc = .ok (.invokespecial idx, 3)) (hfr : 1 ≤ R.frames) (hlo : 40 ≤ R.locals) (hcat : (rest.map fun v => v.category).sum ≤ 8)
    (kk : W p l e R s m args below meth c H locs cells slots Q (F0 m (pc + 3) ls rest)) : W p l e R s m args below meth c H locs cells slots Q (F0 m pc ls (.ref a :: rest)) := by
  obtain ⟨hx, hb, hml, hown, hts, hK, hov, hin, hX, hbs⟩ := cx
  obtain ⟨g1, g2, g3⟩ := jm_oi_ok _ _ ho
  exact W.objInit hx hb hown (hts _ g1) (hts _ g2) (hts _ g3) rfl (by rw [hml]; exact hl) rfl hd hfr (by show 2 * 0 + _ + 12 ≤ _; omega) kk
theorem va_mfmod (hexec : p.tables.exec = Jvm.exec) {cc : ByteArray} (hb : c.code = cc) (hml : c.maxLocals = ls.size) {own : String} {index : Nat} (hown : s.vm.findClass own = some m.cls) (hlink : (Cond.methodLink own index Jvm.Free.MCB.FloorMod.yN).before args s = true) (hstat : (Cond.static Jvm.Free.MCB.FloorMod.yN).before args s = true) (hini : (Cond.initialized "java/lang/Math").before args s = true) (hcode : Jvm.Free.MCB.FloorMod.tab.before args s = true)
    (hframes : 1 ≤ R.frames) (hlocals : 40 ≤ R.locals) (hcat : (rest.map fun v => v.category).sum ≤ 8) (hc : cells ≤ R.cells) (hs : slots ≤ R.slots) {x y : Int32} (hy : y ≠ 0) (hdg : decode cc pc = .ok (.invokestatic index, 3))
    (kk : W p l e R s m args below meth c H locs cells slots Q (F0 m (pc + 3) ls (.int (Jvm.Free.MCB.fmod x y) :: rest))) : W p l e R s m args below meth c H locs cells slots Q (F0 m pc ls (.int y :: .int x :: rest)) := by
  intro T hT X
  obtain ⟨v, vm₁, ⟨U', l2, c2, s2⟩, hW₁, X', ⟨⟨e1, e2, e3, e4⟩, hq⟩, st⟩ := callS X hexec (own := own) (index := index) (y := Jvm.Free.MCB.FloorMod.yN) (bytes := Jvm.Free.MCB.FloorMod.yB) (maxL := 3) (ret := some .int) hown hlink hstat hini hcode (by decide) (W := 8) (Jvm.Free.MCB.FloorMod.pays (len := 3) (W := 8) hframes (by omega) hcode hini) (g := F0 m pc ls (.int y :: .int x :: rest)) rfl (by rw [hml]) (argsL := [.int x, .int y]) (rest := rest) (fun sig hs => by
      have h : parseMethodDescriptor "(II)I" = some { parameters := [.int, .int], returnType := some .int } := by decide +kernel
      rw [show Jvm.Free.MCB.FloorMod.yN.desc = "(II)I" from rfl, h] at hs
      rw [← Option.some.inj hs]
      rfl) rfl (by show 2 * 0 + _ ≤ 8; omega) (by rw [hb]; exact hdg) (fun vm₁ hW => ⟨hc, hs, (x, y), rfl, hy⟩)
  dsimp only [Pt.U, Pt.locs, Pt.cells, Pt.slots] at X' e1 e2 e3 e4 st
  have hv := hq (x, y) ⟨rfl, hy⟩
  subst hv
  subst e2; subst e3; subst e4
  obtain ⟨t, a1, b1⟩ := kk U' (e1.trans hT) X'
  exact ⟨t, st t a1, b1⟩
theorem jh_mm (cx : jcx D dA b b0 L xs p s m args meth c mi) (hl : ls.size = jm_maxL mi) {idx v : Nat} {x y : Int32} (ho : jm_mm (jm_own mi) idx = some v) (hd : decode (jm_code mi) pc = .ok (.invokestatic idx, 3)) (hfr : 1 ≤ R.frames) (hlo : 40 ≤ R.locals) (hcat : (rest.map fun v => v.category).sum ≤ 8) (hy : v = 2 → y ≠ 0) (hc : cells ≤ R.cells) (hs : slots ≤ R.slots)
    (kk : W p l e R s m args below meth c H locs cells slots Q (F0 m (pc + 3) ls (.int (jmmv v x y) :: rest))) : W p l e R s m args below meth c H locs cells slots Q (F0 m pc ls (.int y :: .int x :: rest)) := by
  obtain ⟨hx, hb, hml, hown, hts, hK, hov, hin, hX, hbs⟩ := cx
  have hlk := jm_mm_ok _ _ _ ho
  unfold jmmv at kk
  by_cases hv : v = 1
  · rw [if_pos hv] at hlk kk
    exact va_mmax hx hb (by rw [hml]; exact hl.symm) hown (hts _ hlk) (hts _ jm_max_ok.1) (hts _ jm_max_ok.2.1) (hts _ jm_max_ok.2.2) hfr (by omega) hc hs hd kk
  · rw [if_neg hv] at hlk kk
    by_cases hv2 : v = 2
    · rw [if_pos hv2] at hlk kk
      exact va_mfmod hx hb (by rw [hml]; exact hl.symm) hown (hts _ hlk) (hts _ jm_fmd_ok.1) (hts _ jm_fmd_ok.2.1) (hts _ jm_fmd_ok.2.2) hfr hlo hcat hc hs (hy hv2) hd kk
    · rw [if_neg hv2] at hlk kk
      exact va_mmin hx hb (by rw [hml]; exact hl.symm) hown (hts _ hlk) (hts _ jm_min_ok.1) (hts _ jm_min_ok.2.1) (hts _ jm_min_ok.2.2) hfr (by omega) hc hs hd kk
end JN
end
section
section JAC
variable {p : Program} {l : Launch} {e : Env} {R : Room} {s : State} {m : MethodId} {args : Array Value} {below : List Frame} {meth : Method} {c : Code} {H : Heap} {locs : List Loc} {cells slots : Nat} {Q : State → Prop}
variable {D : va_G} {dA : Nat → ClassId} {b b0 L mi pc : Nat} {xs : Nat → Int32} {ls : Array Slot} {rest : List Value} {h : List jC}
theorem jn_nn {z : Int32} (hz : ¬ z < 0) : z.toInt = (z.toNatClampNeg : Int) := by
  have h1 : (0 : Int) ≤ z.toInt := by
    have := Int32.not_lt.mp hz
    simpa using Int32.le_iff_toInt_le.mp this
  show z.toInt = ((z.toInt.toNat : Nat) : Int)
  omega
set_option maxHeartbeats 1000000 in
theorem jh_copy (cx : jcx D dA b b0 L xs p s m args meth c mi) (hW : jWd D dA b b0 h H) (hS : va_S (fun q => b0 ≤ q) s.heap H locs) (hl : ls.size = jm_maxL mi) {idx a a0 n0 n1 : Nat} {f g : Nat → Int32} {sp dp n : Int32} (ho : jm_ac (jm_own mi) idx = true) (ha0 : h[a0]? = some (.inl (0, n0, .inl f))) (ha : h[a]? = some (.inl (0, n1, .inl g)))
    (h1 : ¬ sp < 0) (h2 : ¬ dp < 0) (h3 : ¬ n < 0) (h4 : sp.toNatClampNeg + n.toNatClampNeg ≤ n0) (h5 : dp.toNatClampNeg + n.toNatClampNeg ≤ n1) (hd : decode (jm_code mi) pc = .ok (.invokestatic idx, 3)) (hfr : 1 ≤ R.frames) (hlo : 40 ≤ R.locals) (hcat : (rest.map fun v => v.category).sum ≤ 8)
    (kk : jKH p l e R s m args below meth c cells slots Q D dA b b0 (h.set a (.inl (0, n1, .inl (va_cpy f g sp.toNatClampNeg dp.toNatClampNeg n.toNatClampNeg)))) (F0 m (pc + 3) ls rest)) : W p l e R s m args below meth c H locs cells slots Q (F0 m pc ls (.int n :: .int dp :: .ref (b0 + a) :: .int sp :: .ref (b0 + a0) :: rest)) := by
  obtain ⟨hx, hb, hml, hown, hts, hK, hov, hin, hX, hbs⟩ := cx
  obtain ⟨g1, g2, g3, g4⟩ := jm_ac_ok _ _ ho
  have ht := jtys_get (dA := dA) (t := 0) (Nat.lt_of_lt_of_le (by decide) jm_nat2)
  rw [jm_aty0] at ht
  have hc0 : H[b0 + a0]? = some (arrV (dA 0) n0 (fun j => .int (f j))) := hW.at ha0
  have hc1 : H[b0 + a]? = some (arrV (dA 0) n1 (fun j => .int (g j))) := hW.at ha
  intro T hT X
  obtain ⟨-, k0, hk0, cm0, hkk0⟩ := (hK.2 0 _ ht).1 n0 (fun j => .int (f j))
  obtain ⟨-, k1, hk1, cm1, hkk1⟩ := (hK.2 0 _ ht).1 n1 (fun j => .int (g j))
  have hrd : ∀ i, i < n.toNatClampNeg → (arrV (dA 0) n0 (fun j => .int (f j))).slots.getD (sp.toNatClampNeg + i) .null = .int (f (sp.toNatClampNeg + i)) := fun i hi => by
    rw [Array.getD_eq_getD_getElem?, arrV_read _ _ (by omega)]
    rfl
  obtain ⟨vm', X', step⟩ := X.arraycopy hx hown (hts _ g1) (hts _ g2) (hts _ g3) (hts _ g4) (src := b0 + a0) (dst := b0 + a) (srcPos := sp) (destPos := dp) (n := n) (by rw [hT]; exact hc0) (by rw [hT]; exact hc1)
    (fun _ h => by cases h) (fun _ h => by cases h) (fun h => by cases h) (fun h => by cases h) hk0 hk1 hkk0 hkk1 (by simp [refKind]) h1 h2 h3
    (by rw [jn_nn h1, jn_nn h3, arrV_size]; omega)
    (by rw [jn_nn h2, jn_nn h3, arrV_size]; omega)
    (fun vm₁ _ i hi => by rw [hrd i hi]; exact ⟨rfl, trivial⟩)
    (g := F0 m pc ls (.int n :: .int dp :: .ref (b0 + a) :: .int sp :: .ref (b0 + a0) :: rest)) rfl (by rw [hml]; exact hl) (rest := rest) rfl (by rw [hb]; exact hd) hfr (by
      have : nativeFrameWords "java/lang/System" "arraycopy" 5 + 11 ≤ 32 := by decide +kernel
      show 2 * 0 + _ + _ ≤ _
      omega)
  have e1 : copied (arrV (dA 0) n0 (fun j => .int (f j))) (arrV (dA 0) n1 (fun j => .int (g j))) sp dp n = arrV (dA 0) n1 (fun j => .int (va_cpy f g sp.toNatClampNeg dp.toNatClampNeg n.toNatClampNeg j)) := va_copied (fun z => .int z) (dA 0) (dA 0) f g h4
  rw [e1] at X' step
  have hlt : b0 + a < H.size := (Array.getElem?_eq_some_iff.mp hc1).1
  obtain ⟨t, a1, b1⟩ := kk (H.setIfInBounds (b0 + a) (arrV (dA 0) n1 (fun j => .int (va_cpy f g sp.toNatClampNeg dp.toNatClampNeg n.toNatClampNeg j)))) _
    (hW.set ha (show (H.setIfInBounds (b0 + a) (arrV (dA 0) n1 (fun j => .int (va_cpy f g sp.toNatClampNeg dp.toNatClampNeg n.toNatClampNeg j))))[b0 + a]? = some (arrV (dA 0) n1 (fun j => .int (va_cpy f g sp.toNatClampNeg dp.toNatClampNeg n.toNatClampNeg j))) by simp [Array.getElem?_setIfInBounds, hlt]) (by simp) (fun q hq => by simp [Array.getElem?_setIfInBounds, Ne.symm hq]))
    ⟨by simp; exact hS.1, fun q q1 q2 => by
      have hq : ¬ b0 + a = q := fun z => q2 (by show b0 ≤ q; omega)
      simp [Array.getElem?_setIfInBounds, hq]
      exact hS.2.1 q q1 q2, fun q hq => by
      rcases List.mem_append.mp hq with z | z
      · exact hS.2.2 q z
      · obtain ⟨y, -, hy⟩ := List.mem_map.mp z
        rw [← hy]
        exact Nat.le_add_right b0 a⟩ _ (by rw [← hT]; rfl) X'
  exact ⟨t, step t a1, b1⟩
end JAC
end
