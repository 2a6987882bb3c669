set_option maxRecDepth 100000 in
theorem jwc_161 : Cond.code jq_161.1 jq_161.2.1 jq_161.2.2.1 jq_161.2.2.2.1 ∈ jm_gw := List.mem_filter.mpr ⟨jtabs_ok 6 _ (List.mem_of_getElem? (i := 229) rfl), rfl⟩
set_option maxRecDepth 100000 in
theorem jwc_162 : Cond.code jq_162.1 jq_162.2.1 jq_162.2.2.1 jq_162.2.2.2.1 ∈ jm_gw := List.mem_filter.mpr ⟨jtabs_ok 6 _ (List.mem_of_getElem? (i := 221) rfl), rfl⟩
set_option maxRecDepth 100000 in
theorem jwc_163 : Cond.code jq_163.1 jq_163.2.1 jq_163.2.2.1 jq_163.2.2.2.1 ∈ jm_gw := List.mem_filter.mpr ⟨jtabs_ok 6 _ (List.mem_of_getElem? (i := 225) rfl), rfl⟩
set_option maxRecDepth 100000 in
theorem jwc_164 : Cond.code jq_164.1 jq_164.2.1 jq_164.2.2.1 jq_164.2.2.2.1 ∈ jm_gw := List.mem_filter.mpr ⟨jtabs_ok 6 _ (List.mem_of_getElem? (i := 238) rfl), rfl⟩
set_option maxRecDepth 100000 in
theorem jwc_165 : Cond.code jq_165.1 jq_165.2.1 jq_165.2.2.1 jq_165.2.2.2.1 ∈ jm_gw := List.mem_filter.mpr ⟨jtabs_ok 7 _ (List.mem_of_getElem? (i := 2) rfl), rfl⟩
set_option maxRecDepth 100000 in
theorem jwc_166 : Cond.code jq_166.1 jq_166.2.1 jq_166.2.2.1 jq_166.2.2.2.1 ∈ jm_gw := List.mem_filter.mpr ⟨jtabs_ok 6 _ (List.mem_of_getElem? (i := 234) rfl), rfl⟩
set_option maxRecDepth 100000 in
theorem jwc_167 : Cond.code jq_167.1 jq_167.2.1 jq_167.2.2.1 jq_167.2.2.2.1 ∈ jm_gw := List.mem_filter.mpr ⟨jtabs_ok 7 _ (List.mem_of_getElem? (i := 6) rfl), rfl⟩
set_option maxRecDepth 100000 in
theorem jwc_168 : Cond.code jq_168.1 jq_168.2.1 jq_168.2.2.1 jq_168.2.2.2.1 ∈ jm_gw := List.mem_filter.mpr ⟨jtabs_ok 7 _ (List.mem_of_getElem? (i := 54) rfl), rfl⟩
set_option maxRecDepth 100000 in
theorem jwc_169 : Cond.code jq_169.1 jq_169.2.1 jq_169.2.2.1 jq_169.2.2.2.1 ∈ jm_gw := List.mem_filter.mpr ⟨jtabs_ok 7 _ (List.mem_of_getElem? (i := 18) rfl), rfl⟩
set_option maxRecDepth 100000 in
theorem jwc_170 : Cond.code jq_170.1 jq_170.2.1 jq_170.2.2.1 jq_170.2.2.2.1 ∈ jm_gw := List.mem_filter.mpr ⟨jtabs_ok 7 _ (List.mem_of_getElem? (i := 14) rfl), rfl⟩
set_option maxRecDepth 100000 in
theorem jwc_171 : Cond.code jq_171.1 jq_171.2.1 jq_171.2.2.1 jq_171.2.2.2.1 ∈ jm_gw := List.mem_filter.mpr ⟨jtabs_ok 7 _ (List.mem_of_getElem? (i := 26) rfl), rfl⟩
set_option maxRecDepth 100000 in
theorem jwc_172 : Cond.code jq_172.1 jq_172.2.1 jq_172.2.2.1 jq_172.2.2.2.1 ∈ jm_gw := List.mem_filter.mpr ⟨jtabs_ok 7 _ (List.mem_of_getElem? (i := 22) rfl), rfl⟩
set_option maxRecDepth 100000 in
theorem jwc_173 : Cond.code jq_173.1 jq_173.2.1 jq_173.2.2.1 jq_173.2.2.2.1 ∈ jm_gw := List.mem_filter.mpr ⟨jtabs_ok 7 _ (List.mem_of_getElem? (i := 30) rfl), rfl⟩
set_option maxRecDepth 100000 in
theorem jwc_174 : Cond.code jq_174.1 jq_174.2.1 jq_174.2.2.1 jq_174.2.2.2.1 ∈ jm_gw := List.mem_filter.mpr ⟨jtabs_ok 7 _ (List.mem_of_getElem? (i := 34) rfl), rfl⟩
set_option maxRecDepth 100000 in
theorem jwc_175 : Cond.code jq_175.1 jq_175.2.1 jq_175.2.2.1 jq_175.2.2.2.1 ∈ jm_gw := List.mem_filter.mpr ⟨jtabs_ok 7 _ (List.mem_of_getElem? (i := 42) rfl), rfl⟩
set_option maxRecDepth 100000 in
theorem jwc_176 : Cond.code jq_176.1 jq_176.2.1 jq_176.2.2.1 jq_176.2.2.2.1 ∈ jm_gw := List.mem_filter.mpr ⟨jtabs_ok 7 _ (List.mem_of_getElem? (i := 78) rfl), rfl⟩
set_option maxRecDepth 100000 in
theorem jwc_177 : Cond.code jq_177.1 jq_177.2.1 jq_177.2.2.1 jq_177.2.2.2.1 ∈ jm_gw := List.mem_filter.mpr ⟨jtabs_ok 7 _ (List.mem_of_getElem? (i := 82) rfl), rfl⟩
set_option maxRecDepth 100000 in
theorem jwc_178 : Cond.code jq_178.1 jq_178.2.1 jq_178.2.2.1 jq_178.2.2.2.1 ∈ jm_gw := List.mem_filter.mpr ⟨jtabs_ok 7 _ (List.mem_of_getElem? (i := 74) rfl), rfl⟩
set_option maxRecDepth 100000 in
theorem jwc_179 : Cond.code jq_179.1 jq_179.2.1 jq_179.2.2.1 jq_179.2.2.2.1 ∈ jm_gw := List.mem_filter.mpr ⟨jtabs_ok 7 _ (List.mem_of_getElem? (i := 70) rfl), rfl⟩
set_option maxRecDepth 100000 in
theorem jwc_180 : Cond.code jq_180.1 jq_180.2.1 jq_180.2.2.1 jq_180.2.2.2.1 ∈ jm_gw := List.mem_filter.mpr ⟨jtabs_ok 7 _ (List.mem_of_getElem? (i := 106) rfl), rfl⟩
set_option maxRecDepth 100000 in
theorem jwc_181 : Cond.code jq_181.1 jq_181.2.1 jq_181.2.2.1 jq_181.2.2.2.1 ∈ jm_gw := List.mem_filter.mpr ⟨jtabs_ok 7 _ (List.mem_of_getElem? (i := 102) rfl), rfl⟩
set_option maxRecDepth 100000 in
theorem jwc_182 : Cond.code jq_182.1 jq_182.2.1 jq_182.2.2.1 jq_182.2.2.2.1 ∈ jm_gw := List.mem_filter.mpr ⟨jtabs_ok 7 _ (List.mem_of_getElem? (i := 98) rfl), rfl⟩
set_option maxRecDepth 100000 in
theorem jwc_183 : Cond.code jq_183.1 jq_183.2.1 jq_183.2.2.1 jq_183.2.2.2.1 ∈ jm_gw := List.mem_filter.mpr ⟨jtabs_ok 7 _ (List.mem_of_getElem? (i := 90) rfl), rfl⟩
set_option maxRecDepth 100000 in
theorem jwc_184 : Cond.code jq_184.1 jq_184.2.1 jq_184.2.2.1 jq_184.2.2.2.1 ∈ jm_gw := List.mem_filter.mpr ⟨jtabs_ok 7 _ (List.mem_of_getElem? (i := 94) rfl), rfl⟩
set_option maxRecDepth 100000 in
theorem jwc_185 : Cond.code jq_185.1 jq_185.2.1 jq_185.2.2.1 jq_185.2.2.2.1 ∈ jm_gw := List.mem_filter.mpr ⟨jtabs_ok 7 _ (List.mem_of_getElem? (i := 167) rfl), rfl⟩
set_option maxRecDepth 100000 in
theorem jwc_186 : Cond.code jq_186.1 jq_186.2.1 jq_186.2.2.1 jq_186.2.2.2.1 ∈ jm_gw := List.mem_filter.mpr ⟨jtabs_ok 7 _ (List.mem_of_getElem? (i := 163) rfl), rfl⟩
set_option maxRecDepth 100000 in
theorem jwc_187 : Cond.code jq_187.1 jq_187.2.1 jq_187.2.2.1 jq_187.2.2.2.1 ∈ jm_gw := List.mem_filter.mpr ⟨jtabs_ok 7 _ (List.mem_of_getElem? (i := 175) rfl), rfl⟩
set_option maxRecDepth 100000 in
theorem jwc_188 : Cond.code jq_188.1 jq_188.2.1 jq_188.2.2.1 jq_188.2.2.2.1 ∈ jm_gw := List.mem_filter.mpr ⟨jtabs_ok 7 _ (List.mem_of_getElem? (i := 171) rfl), rfl⟩
set_option maxRecDepth 100000 in
theorem jwc_189 : Cond.code jq_189.1 jq_189.2.1 jq_189.2.2.1 jq_189.2.2.2.1 ∈ jm_gw := List.mem_filter.mpr ⟨jtabs_ok 7 _ (List.mem_of_getElem? (i := 159) rfl), rfl⟩
set_option maxRecDepth 100000 in
theorem jwc_190 : Cond.code jq_190.1 jq_190.2.1 jq_190.2.2.1 jq_190.2.2.2.1 ∈ jm_gw := List.mem_filter.mpr ⟨jtabs_ok 7 _ (List.mem_of_getElem? (i := 66) rfl), rfl⟩
set_option maxRecDepth 100000 in
theorem jwc_191 : Cond.code jq_191.1 jq_191.2.1 jq_191.2.2.1 jq_191.2.2.2.1 ∈ jm_gw := List.mem_filter.mpr ⟨jtabs_ok 7 _ (List.mem_of_getElem? (i := 38) rfl), rfl⟩
set_option maxRecDepth 100000 in
theorem jwc_192 : Cond.code jq_192.1 jq_192.2.1 jq_192.2.2.1 jq_192.2.2.2.1 ∈ jm_gw := List.mem_filter.mpr ⟨jtabs_ok 7 _ (List.mem_of_getElem? (i := 46) rfl), rfl⟩
set_option maxRecDepth 100000 in
theorem jwc_193 : Cond.code jq_193.1 jq_193.2.1 jq_193.2.2.1 jq_193.2.2.2.1 ∈ jm_gw := List.mem_filter.mpr ⟨jtabs_ok 7 _ (List.mem_of_getElem? (i := 58) rfl), rfl⟩
set_option maxRecDepth 100000 in
theorem jwc_194 : Cond.code jq_194.1 jq_194.2.1 jq_194.2.2.1 jq_194.2.2.2.1 ∈ jm_gw := List.mem_filter.mpr ⟨jtabs_ok 7 _ (List.mem_of_getElem? (i := 62) rfl), rfl⟩
set_option maxRecDepth 100000 in
theorem jwc_195 : Cond.code jq_195.1 jq_195.2.1 jq_195.2.2.1 jq_195.2.2.2.1 ∈ jm_gw := List.mem_filter.mpr ⟨jtabs_ok 7 _ (List.mem_of_getElem? (i := 50) rfl), rfl⟩
set_option maxRecDepth 100000 in
theorem jwc_196 : Cond.code jq_196.1 jq_196.2.1 jq_196.2.2.1 jq_196.2.2.2.1 ∈ jm_gw := List.mem_filter.mpr ⟨jtabs_ok 7 _ (List.mem_of_getElem? (i := 114) rfl), rfl⟩
set_option maxRecDepth 100000 in
theorem jwc_197 : Cond.code jq_197.1 jq_197.2.1 jq_197.2.2.1 jq_197.2.2.2.1 ∈ jm_gw := List.mem_filter.mpr ⟨jtabs_ok 7 _ (List.mem_of_getElem? (i := 110) rfl), rfl⟩
set_option maxRecDepth 100000 in
theorem jwc_198 : Cond.code jq_198.1 jq_198.2.1 jq_198.2.2.1 jq_198.2.2.2.1 ∈ jm_gw := List.mem_filter.mpr ⟨jtabs_ok 7 _ (List.mem_of_getElem? (i := 118) rfl), rfl⟩
set_option maxRecDepth 100000 in
theorem jwc_199 : Cond.code jq_199.1 jq_199.2.1 jq_199.2.2.1 jq_199.2.2.2.1 ∈ jm_gw := List.mem_filter.mpr ⟨jtabs_ok 7 _ (List.mem_of_getElem? (i := 131) rfl), rfl⟩
set_option maxRecDepth 100000 in
theorem jwc_200 : Cond.code jq_200.1 jq_200.2.1 jq_200.2.2.1 jq_200.2.2.2.1 ∈ jm_gw := List.mem_filter.mpr ⟨jtabs_ok 7 _ (List.mem_of_getElem? (i := 135) rfl), rfl⟩
set_option maxRecDepth 100000 in
theorem jwc_201 : Cond.code jq_201.1 jq_201.2.1 jq_201.2.2.1 jq_201.2.2.2.1 ∈ jm_gw := List.mem_filter.mpr ⟨jtabs_ok 7 _ (List.mem_of_getElem? (i := 139) rfl), rfl⟩
set_option maxRecDepth 100000 in
theorem jwc_202 : Cond.code jq_202.1 jq_202.2.1 jq_202.2.2.1 jq_202.2.2.2.1 ∈ jm_gw := List.mem_filter.mpr ⟨jtabs_ok 7 _ (List.mem_of_getElem? (i := 143) rfl), rfl⟩
set_option maxRecDepth 100000 in
theorem jwc_203 : Cond.code jq_203.1 jq_203.2.1 jq_203.2.2.1 jq_203.2.2.2.1 ∈ jm_gw := List.mem_filter.mpr ⟨jtabs_ok 7 _ (List.mem_of_getElem? (i := 127) rfl), rfl⟩
set_option maxRecDepth 100000 in
theorem jwc_204 : Cond.code jq_204.1 jq_204.2.1 jq_204.2.2.1 jq_204.2.2.2.1 ∈ jm_gw := List.mem_filter.mpr ⟨jtabs_ok 7 _ (List.mem_of_getElem? (i := 122) rfl), rfl⟩
set_option maxRecDepth 100000 in
theorem jwc_205 : Cond.code jq_205.1 jq_205.2.1 jq_205.2.2.1 jq_205.2.2.2.1 ∈ jm_gw := List.mem_filter.mpr ⟨jtabs_ok 7 _ (List.mem_of_getElem? (i := 147) rfl), rfl⟩
set_option maxRecDepth 100000 in
theorem jwc_206 : Cond.code jq_206.1 jq_206.2.1 jq_206.2.2.1 jq_206.2.2.2.1 ∈ jm_gw := List.mem_filter.mpr ⟨jtabs_ok 7 _ (List.mem_of_getElem? (i := 151) rfl), rfl⟩
set_option maxRecDepth 100000 in
theorem jwc_207 : Cond.code jq_207.1 jq_207.2.1 jq_207.2.2.1 jq_207.2.2.2.1 ∈ jm_gw := List.mem_filter.mpr ⟨jtabs_ok 7 _ (List.mem_of_getElem? (i := 155) rfl), rfl⟩
set_option maxRecDepth 100000 in
theorem jwc_208 : Cond.code jq_208.1 jq_208.2.1 jq_208.2.2.1 jq_208.2.2.2.1 ∈ jm_gw := List.mem_filter.mpr ⟨jtabs_ok 7 _ (List.mem_of_getElem? (i := 179) rfl), rfl⟩
set_option maxRecDepth 100000 in
theorem jwc_209 : Cond.code jq_209.1 jq_209.2.1 jq_209.2.2.1 jq_209.2.2.2.1 ∈ jm_gw := List.mem_filter.mpr ⟨jtabs_ok 7 _ (List.mem_of_getElem? (i := 10) rfl), rfl⟩
set_option maxRecDepth 100000 in
theorem jwc_210 : Cond.code jq_210.1 jq_210.2.1 jq_210.2.2.1 jq_210.2.2.2.1 ∈ jm_gw := List.mem_filter.mpr ⟨jtabs_ok 7 _ (List.mem_of_getElem? (i := 203) rfl), rfl⟩
set_option maxRecDepth 100000 in
theorem jwc_211 : Cond.code jq_211.1 jq_211.2.1 jq_211.2.2.1 jq_211.2.2.2.1 ∈ jm_gw := List.mem_filter.mpr ⟨jtabs_ok 7 _ (List.mem_of_getElem? (i := 195) rfl), rfl⟩
set_option maxRecDepth 100000 in
theorem jwc_212 : Cond.code jq_212.1 jq_212.2.1 jq_212.2.2.1 jq_212.2.2.2.1 ∈ jm_gw := List.mem_filter.mpr ⟨jtabs_ok 7 _ (List.mem_of_getElem? (i := 191) rfl), rfl⟩
set_option maxRecDepth 100000 in
theorem jwc_213 : Cond.code jq_213.1 jq_213.2.1 jq_213.2.2.1 jq_213.2.2.2.1 ∈ jm_gw := List.mem_filter.mpr ⟨jtabs_ok 7 _ (List.mem_of_getElem? (i := 187) rfl), rfl⟩
set_option maxRecDepth 100000 in
theorem jwc_214 : Cond.code jq_214.1 jq_214.2.1 jq_214.2.2.1 jq_214.2.2.2.1 ∈ jm_gw := List.mem_filter.mpr ⟨jtabs_ok 7 _ (List.mem_of_getElem? (i := 215) rfl), rfl⟩
set_option maxRecDepth 100000 in
theorem jwc_215 : Cond.code jq_215.1 jq_215.2.1 jq_215.2.2.1 jq_215.2.2.2.1 ∈ jm_gw := List.mem_filter.mpr ⟨jtabs_ok 7 _ (List.mem_of_getElem? (i := 221) rfl), rfl⟩
set_option maxRecDepth 100000 in
theorem jwc_216 : Cond.code jq_216.1 jq_216.2.1 jq_216.2.2.1 jq_216.2.2.2.1 ∈ jm_gw := List.mem_filter.mpr ⟨jtabs_ok 7 _ (List.mem_of_getElem? (i := 211) rfl), rfl⟩
set_option maxRecDepth 100000 in
theorem jwc_217 : Cond.code jq_217.1 jq_217.2.1 jq_217.2.2.1 jq_217.2.2.2.1 ∈ jm_gw := List.mem_filter.mpr ⟨jtabs_ok 7 _ (List.mem_of_getElem? (i := 207) rfl), rfl⟩
set_option maxRecDepth 100000 in
theorem jwc_218 : Cond.code jq_218.1 jq_218.2.1 jq_218.2.2.1 jq_218.2.2.2.1 ∈ jm_gw := List.mem_filter.mpr ⟨jtabs_ok 7 _ (List.mem_of_getElem? (i := 199) rfl), rfl⟩
set_option maxRecDepth 100000 in
theorem jwc_219 : Cond.code jq_219.1 jq_219.2.1 jq_219.2.2.1 jq_219.2.2.2.1 ∈ jm_gw := List.mem_filter.mpr ⟨jtabs_ok 7 _ (List.mem_of_getElem? (i := 225) rfl), rfl⟩
set_option maxRecDepth 100000 in
theorem jwc_220 : Cond.code jq_220.1 jq_220.2.1 jq_220.2.2.1 jq_220.2.2.2.1 ∈ jm_gw := List.mem_filter.mpr ⟨jtabs_ok 7 _ (List.mem_of_getElem? (i := 183) rfl), rfl⟩
set_option maxRecDepth 100000 in
theorem jwc_221 : Cond.code jq_221.1 jq_221.2.1 jq_221.2.2.1 jq_221.2.2.2.1 ∈ jm_gw := List.mem_filter.mpr ⟨jtabs_ok 7 _ (List.mem_of_getElem? (i := 229) rfl), rfl⟩
set_option maxRecDepth 100000 in
theorem jwc_222 : Cond.code jq_222.1 jq_222.2.1 jq_222.2.2.1 jq_222.2.2.2.1 ∈ jm_gw := List.mem_filter.mpr ⟨jtabs_ok 7 _ (List.mem_of_getElem? (i := 233) rfl), rfl⟩
set_option maxRecDepth 100000 in
theorem jwc_223 : Cond.code jq_223.1 jq_223.2.1 jq_223.2.2.1 jq_223.2.2.2.1 ∈ jm_gw := List.mem_filter.mpr ⟨jtabs_ok 7 _ (List.mem_of_getElem? (i := 237) rfl), rfl⟩
set_option maxRecDepth 100000 in
theorem jwc_224 : Cond.code jq_224.1 jq_224.2.1 jq_224.2.2.1 jq_224.2.2.2.1 ∈ jm_gw := List.mem_filter.mpr ⟨jtabs_ok 8 _ (List.mem_of_getElem? (i := 2) rfl), rfl⟩
set_option maxRecDepth 100000 in
theorem jwc_225 : Cond.code jq_225.1 jq_225.2.1 jq_225.2.2.1 jq_225.2.2.2.1 ∈ jm_gw := List.mem_filter.mpr ⟨jtabs_ok 8 _ (List.mem_of_getElem? (i := 6) rfl), rfl⟩
set_option maxRecDepth 100000 in
theorem jwc_226 : Cond.code jq_226.1 jq_226.2.1 jq_226.2.2.1 jq_226.2.2.2.1 ∈ jm_gw := List.mem_filter.mpr ⟨jtabs_ok 8 _ (List.mem_of_getElem? (i := 12) rfl), rfl⟩
set_option maxRecDepth 100000 in
theorem jwc_227 : Cond.code jq_227.1 jq_227.2.1 jq_227.2.2.1 jq_227.2.2.2.1 ∈ jm_gw := List.mem_filter.mpr ⟨jtabs_ok 1 _ (List.mem_of_getElem? (i := 32) rfl), rfl⟩
set_option maxRecDepth 100000 in
theorem jwc_228 : Cond.code jq_228.1 jq_228.2.1 jq_228.2.2.1 jq_228.2.2.2.1 ∈ jm_gw := List.mem_filter.mpr ⟨jtabs_ok 5 _ (List.mem_of_getElem? (i := 140) rfl), rfl⟩
set_option maxRecDepth 100000 in
theorem jwc_229 : Cond.code jq_229.1 jq_229.2.1 jq_229.2.2.1 jq_229.2.2.2.1 ∈ jm_gw := List.mem_filter.mpr ⟨jtabs_ok 3 _ (List.mem_of_getElem? (i := 216) rfl), rfl⟩
set_option maxRecDepth 100000 in
theorem jwc_230 : Cond.code jq_230.1 jq_230.2.1 jq_230.2.2.1 jq_230.2.2.2.1 ∈ jm_gw := List.mem_filter.mpr ⟨jtabs_ok 3 _ (List.mem_of_getElem? (i := 204) rfl), rfl⟩
set_option maxRecDepth 100000 in
theorem jwc_all : ∀ q ∈ jm_L.drop 1, Cond.code q.1 q.2.1 q.2.2.1 q.2.2.2.1 ∈ jm_gw := by
  intro q hq
  have hq : q ∈ [jq_1, jq_2, jq_3, jq_4, jq_5, jq_6, jq_7, jq_8, jq_9, jq_10, jq_11, jq_12, jq_13, jq_14, jq_15, jq_16, jq_17, jq_18, jq_19, jq_20, jq_21, jq_22, jq_23, jq_24, jq_25, jq_26, jq_27, jq_28, jq_29, jq_30, jq_31, jq_32, jq_33, jq_34, jq_35, jq_36, jq_37, jq_38, jq_39, jq_40, jq_41, jq_42, jq_43, jq_44, jq_45, jq_46, jq_47, jq_48, jq_49, jq_50, jq_51, jq_52, jq_53, jq_54, jq_55, jq_56, jq_57, jq_58, jq_59, jq_60, jq_61, jq_62, jq_63, jq_64, jq_65, jq_66, jq_67, jq_68, jq_69, jq_70, jq_71, jq_72, jq_73, jq_74, jq_75, jq_76, jq_77, jq_78, jq_79, jq_80, jq_81, jq_82, jq_83, jq_84, jq_85, jq_86, jq_87, jq_88, jq_89, jq_90, jq_91, jq_92, jq_93, jq_94, jq_95, jq_96, jq_97, jq_98, jq_99, jq_100, jq_101, jq_102, jq_103, jq_104, jq_105, jq_106, jq_107, jq_108, jq_109, jq_110, jq_111, jq_112, jq_113, jq_114, jq_115, jq_116, jq_117, jq_118, jq_119, jq_120, jq_121, jq_122, jq_123, jq_124, jq_125, jq_126, jq_127, jq_128, jq_129, jq_130, jq_131, jq_132, jq_133, jq_134, jq_135, jq_136, jq_137, jq_138, jq_139, jq_140, jq_141, jq_142, jq_143, jq_144, jq_145, jq_146, jq_147, jq_148, jq_149, jq_150, jq_151, jq_152, jq_153, jq_154, jq_155, jq_156, jq_157, jq_158, jq_159, jq_160, jq_161, jq_162, jq_163, jq_164, jq_165, jq_166, jq_167, jq_168, jq_169, jq_170, jq_171, jq_172, jq_173, jq_174, jq_175, jq_176, jq_177, jq_178, jq_179, jq_180, jq_181, jq_182, jq_183, jq_184, jq_185, jq_186, jq_187, jq_188, jq_189, jq_190, jq_191, jq_192, jq_193, jq_194, jq_195, jq_196, jq_197, jq_198, jq_199, jq_200, jq_201, jq_202, jq_203, jq_204, jq_205, jq_206, jq_207, jq_208, jq_209, jq_210, jq_211, jq_212, jq_213, jq_214, jq_215, jq_216, jq_217, jq_218, jq_219, jq_220, jq_221, jq_222, jq_223, jq_224, jq_225, jq_226, jq_227, jq_228, jq_229, jq_230] := hq
  rcases List.mem_cons.mp hq with rfl | hq
  · exact jwc_1
  rcases List.mem_cons.mp hq with rfl | hq
  · exact jwc_2
  rcases List.mem_cons.mp hq with rfl | hq
  · exact jwc_3
  rcases List.mem_cons.mp hq with rfl | hq
  · exact jwc_4
  rcases List.mem_cons.mp hq with rfl | hq
  · exact jwc_5
  rcases List.mem_cons.mp hq with rfl | hq
  · exact jwc_6
  rcases List.mem_cons.mp hq with rfl | hq
  · exact jwc_7
  rcases List.mem_cons.mp hq with rfl | hq
  · exact jwc_8
  rcases List.mem_cons.mp hq with rfl | hq
  · exact jwc_9
  rcases List.mem_cons.mp hq with rfl | hq
  · exact jwc_10
  rcases List.mem_cons.mp hq with rfl | hq
  · exact jwc_11
  rcases List.mem_cons.mp hq with rfl | hq
  · exact jwc_12
  rcases List.mem_cons.mp hq with rfl | hq
  · exact jwc_13
  rcases List.mem_cons.mp hq with rfl | hq
  · exact jwc_14
  rcases List.mem_cons.mp hq with rfl | hq
  · exact jwc_15
  rcases List.mem_cons.mp hq with rfl | hq
  · exact jwc_16
  rcases List.mem_cons.mp hq with rfl | hq
  · exact jwc_17
  rcases List.mem_cons.mp hq with rfl | hq
  · exact jwc_18
  rcases List.mem_cons.mp hq with rfl | hq
  · exact jwc_19
  rcases List.mem_cons.mp hq with rfl | hq
  · exact jwc_20
  rcases List.mem_cons.mp hq with rfl | hq
  · exact jwc_21
  rcases List.mem_cons.mp hq with rfl | hq
  · exact jwc_22
  rcases List.mem_cons.mp hq with rfl | hq
  · exact jwc_23
  rcases List.mem_cons.mp hq with rfl | hq
  · exact jwc_24
  rcases List.mem_cons.mp hq with rfl | hq
  · exact jwc_25
  rcases List.mem_cons.mp hq with rfl | hq
  · exact jwc_26
  rcases List.mem_cons.mp hq with rfl | hq
  · exact jwc_27
  rcases List.mem_cons.mp hq with rfl | hq
  · exact jwc_28
  rcases List.mem_cons.mp hq with rfl | hq
  · exact jwc_29
  rcases List.mem_cons.mp hq with rfl | hq
  · exact jwc_30
  rcases List.mem_cons.mp hq with rfl | hq
  · exact jwc_31
  rcases List.mem_cons.mp hq with rfl | hq
  · exact jwc_32
  rcases List.mem_cons.mp hq with rfl | hq
  · exact jwc_33
  rcases List.mem_cons.mp hq with rfl | hq
  · exact jwc_34
  rcases List.mem_cons.mp hq with rfl | hq
  · exact jwc_35
  rcases List.mem_cons.mp hq with rfl | hq
  · exact jwc_36
  rcases List.mem_cons.mp hq with rfl | hq
  · exact jwc_37
  rcases List.mem_cons.mp hq with rfl | hq
  · exact jwc_38
  rcases List.mem_cons.mp hq with rfl | hq
  · exact jwc_39
  rcases List.mem_cons.mp hq with rfl | hq
  · exact jwc_40
  rcases List.mem_cons.mp hq with rfl | hq
  · exact jwc_41
  rcases List.mem_cons.mp hq with rfl | hq
  · exact jwc_42
  rcases List.mem_cons.mp hq with rfl | hq
  · exact jwc_43
  rcases List.mem_cons.mp hq with rfl | hq
  · exact jwc_44
  rcases List.mem_cons.mp hq with rfl | hq
  · exact jwc_45
  rcases List.mem_cons.mp hq with rfl | hq
  · exact jwc_46
  rcases List.mem_cons.mp hq with rfl | hq
  · exact jwc_47
  rcases List.mem_cons.mp hq with rfl | hq
  · exact jwc_48
  rcases List.mem_cons.mp hq with rfl | hq
  · exact jwc_49
  rcases List.mem_cons.mp hq with rfl | hq
  · exact jwc_50
  rcases List.mem_cons.mp hq with rfl | hq
  · exact jwc_51
  rcases List.mem_cons.mp hq with rfl | hq
  · exact jwc_52
  rcases List.mem_cons.mp hq with rfl | hq
  · exact jwc_53
  rcases List.mem_cons.mp hq with rfl | hq
  · exact jwc_54
  rcases List.mem_cons.mp hq with rfl | hq
  · exact jwc_55
  rcases List.mem_cons.mp hq with rfl | hq
  · exact jwc_56
  rcases List.mem_cons.mp hq with rfl | hq
  · exact jwc_57
  rcases List.mem_cons.mp hq with rfl | hq
  · exact jwc_58
  rcases List.mem_cons.mp hq with rfl | hq
  · exact jwc_59
  rcases List.mem_cons.mp hq with rfl | hq
  · exact jwc_60
  rcases List.mem_cons.mp hq with rfl | hq
  · exact jwc_61
  rcases List.mem_cons.mp hq with rfl | hq
  · exact jwc_62
  rcases List.mem_cons.mp hq with rfl | hq
  · exact jwc_63
  rcases List.mem_cons.mp hq with rfl | hq
  · exact jwc_64
  rcases List.mem_cons.mp hq with rfl | hq
  · exact jwc_65
  rcases List.mem_cons.mp hq with rfl | hq
  · exact jwc_66
  rcases List.mem_cons.mp hq with rfl | hq
  · exact jwc_67
  rcases List.mem_cons.mp hq with rfl | hq
  · exact jwc_68
  rcases List.mem_cons.mp hq with rfl | hq
  · exact jwc_69
  rcases List.mem_cons.mp hq with rfl | hq
  · exact jwc_70
  rcases List.mem_cons.mp hq with rfl | hq
  · exact jwc_71
  rcases List.mem_cons.mp hq with rfl | hq
  · exact jwc_72
  rcases List.mem_cons.mp hq with rfl | hq
  · exact jwc_73
  rcases List.mem_cons.mp hq with rfl | hq
  · exact jwc_74
  rcases List.mem_cons.mp hq with rfl | hq
  · exact jwc_75
  rcases List.mem_cons.mp hq with rfl | hq
  · exact jwc_76
  rcases List.mem_cons.mp hq with rfl | hq
  · exact jwc_77
  rcases List.mem_cons.mp hq with rfl | hq
  · exact jwc_78
  rcases List.mem_cons.mp hq with rfl | hq
  · exact jwc_79
  rcases List.mem_cons.mp hq with rfl | hq
  · exact jwc_80
  rcases List.mem_cons.mp hq with rfl | hq
  · exact jwc_81
  rcases List.mem_cons.mp hq with rfl | hq
  · exact jwc_82
  rcases List.mem_cons.mp hq with rfl | hq
  · exact jwc_83
  rcases List.mem_cons.mp hq with rfl | hq
  · exact jwc_84
  rcases List.mem_cons.mp hq with rfl | hq
  · exact jwc_85
  rcases List.mem_cons.mp hq with rfl | hq
  · exact jwc_86
  rcases List.mem_cons.mp hq with rfl | hq
  · exact jwc_87
  rcases List.mem_cons.mp hq with rfl | hq
  · exact jwc_88
  rcases List.mem_cons.mp hq with rfl | hq
  · exact jwc_89
  rcases List.mem_cons.mp hq with rfl | hq
  · exact jwc_90
  rcases List.mem_cons.mp hq with rfl | hq
  · exact jwc_91
  rcases List.mem_cons.mp hq with rfl | hq
  · exact jwc_92
  rcases List.mem_cons.mp hq with rfl | hq
  · exact jwc_93
  rcases List.mem_cons.mp hq with rfl | hq
  · exact jwc_94
  rcases List.mem_cons.mp hq with rfl | hq
  · exact jwc_95
  rcases List.mem_cons.mp hq with rfl | hq
  · exact jwc_96
  rcases List.mem_cons.mp hq with rfl | hq
  · exact jwc_97
  rcases List.mem_cons.mp hq with rfl | hq
  · exact jwc_98
  rcases List.mem_cons.mp hq with rfl | hq
  · exact jwc_99
  rcases List.mem_cons.mp hq with rfl | hq
  · exact jwc_100
  rcases List.mem_cons.mp hq with rfl | hq
  · exact jwc_101
  rcases List.mem_cons.mp hq with rfl | hq
  · exact jwc_102
  rcases List.mem_cons.mp hq with rfl | hq
  · exact jwc_103
  rcases List.mem_cons.mp hq with rfl | hq
  · exact jwc_104
  rcases List.mem_cons.mp hq with rfl | hq
  · exact jwc_105
  rcases List.mem_cons.mp hq with rfl | hq
  · exact jwc_106
  rcases List.mem_cons.mp hq with rfl | hq
  · exact jwc_107
  rcases List.mem_cons.mp hq with rfl | hq
  · exact jwc_108
  rcases List.mem_cons.mp hq with rfl | hq
  · exact jwc_109
  rcases List.mem_cons.mp hq with rfl | hq
  · exact jwc_110
  rcases List.mem_cons.mp hq with rfl | hq
  · exact jwc_111
  rcases List.mem_cons.mp hq with rfl | hq
  · exact jwc_112
  rcases List.mem_cons.mp hq with rfl | hq
  · exact jwc_113
  rcases List.mem_cons.mp hq with rfl | hq
  · exact jwc_114
  rcases List.mem_cons.mp hq with rfl | hq
  · exact jwc_115
  rcases List.mem_cons.mp hq with rfl | hq
  · exact jwc_116
  rcases List.mem_cons.mp hq with rfl | hq
  · exact jwc_117
  rcases List.mem_cons.mp hq with rfl | hq
  · exact jwc_118
  rcases List.mem_cons.mp hq with rfl | hq
  · exact jwc_119
  rcases List.mem_cons.mp hq with rfl | hq
  · exact jwc_120
  rcases List.mem_cons.mp hq with rfl | hq
  · exact jwc_121
  rcases List.mem_cons.mp hq with rfl | hq
  · exact jwc_122
  rcases List.mem_cons.mp hq with rfl | hq
  · exact jwc_123
  rcases List.mem_cons.mp hq with rfl | hq
  · exact jwc_124
  rcases List.mem_cons.mp hq with rfl | hq
  · exact jwc_125
  rcases List.mem_cons.mp hq with rfl | hq
  · exact jwc_126
  rcases List.mem_cons.mp hq with rfl | hq
  · exact jwc_127
  rcases List.mem_cons.mp hq with rfl | hq
  · exact jwc_128
  rcases List.mem_cons.mp hq with rfl | hq
  · exact jwc_129
  rcases List.mem_cons.mp hq with rfl | hq
  · exact jwc_130
  rcases List.mem_cons.mp hq with rfl | hq
  · exact jwc_131
  rcases List.mem_cons.mp hq with rfl | hq
  · exact jwc_132
  rcases List.mem_cons.mp hq with rfl | hq
  · exact jwc_133
  rcases List.mem_cons.mp hq with rfl | hq
  · exact jwc_134
  rcases List.mem_cons.mp hq with rfl | hq
  · exact jwc_135
  rcases List.mem_cons.mp hq with rfl | hq
  · exact jwc_136
  rcases List.mem_cons.mp hq with rfl | hq
  · exact jwc_137
  rcases List.mem_cons.mp hq with rfl | hq
  · exact jwc_138
  rcases List.mem_cons.mp hq with rfl | hq
  · exact jwc_139
  rcases List.mem_cons.mp hq with rfl | hq
  · exact jwc_140
  rcases List.mem_cons.mp hq with rfl | hq
  · exact jwc_141
  rcases List.mem_cons.mp hq with rfl | hq
  · exact jwc_142
  rcases List.mem_cons.mp hq with rfl | hq
  · exact jwc_143
  rcases List.mem_cons.mp hq with rfl | hq
  · exact jwc_144
  rcases List.mem_cons.mp hq with rfl | hq
  · exact jwc_145
  rcases List.mem_cons.mp hq with rfl | hq
  · exact jwc_146
  rcases List.mem_cons.mp hq with rfl | hq
  · exact jwc_147
  rcases List.mem_cons.mp hq with rfl | hq
  · exact jwc_148
  rcases List.mem_cons.mp hq with rfl | hq
  · exact jwc_149
  rcases List.mem_cons.mp hq with rfl | hq
  · exact jwc_150
  rcases List.mem_cons.mp hq with rfl | hq
  · exact jwc_151
  rcases List.mem_cons.mp hq with rfl | hq
  · exact jwc_152
  rcases List.mem_cons.mp hq with rfl | hq
  · exact jwc_153
  rcases List.mem_cons.mp hq with rfl | hq
  · exact jwc_154
  rcases List.mem_cons.mp hq with rfl | hq
  · exact jwc_155
  rcases List.mem_cons.mp hq with rfl | hq
  · exact jwc_156
  rcases List.mem_cons.mp hq with rfl | hq
  · exact jwc_157
  rcases List.mem_cons.mp hq with rfl | hq
  · exact jwc_158
  rcases List.mem_cons.mp hq with rfl | hq
  · exact jwc_159
  rcases List.mem_cons.mp hq with rfl | hq
  · exact jwc_160
  rcases List.mem_cons.mp hq with rfl | hq
  · exact jwc_161
  rcases List.mem_cons.mp hq with rfl | hq
  · exact jwc_162
  rcases List.mem_cons.mp hq with rfl | hq
  · exact jwc_163
  rcases List.mem_cons.mp hq with rfl | hq
  · exact jwc_164
  rcases List.mem_cons.mp hq with rfl | hq
  · exact jwc_165
  rcases List.mem_cons.mp hq with rfl | hq
  · exact jwc_166
  rcases List.mem_cons.mp hq with rfl | hq
  · exact jwc_167
  rcases List.mem_cons.mp hq with rfl | hq
  · exact jwc_168
  rcases List.mem_cons.mp hq with rfl | hq
  · exact jwc_169
  rcases List.mem_cons.mp hq with rfl | hq
  · exact jwc_170
  rcases List.mem_cons.mp hq with rfl | hq
  · exact jwc_171
  rcases List.mem_cons.mp hq with rfl | hq
  · exact jwc_172
  rcases List.mem_cons.mp hq with rfl | hq
  · exact jwc_173
  rcases List.mem_cons.mp hq with rfl | hq
  · exact jwc_174
  rcases List.mem_cons.mp hq with rfl | hq
  · exact jwc_175
  rcases List.mem_cons.mp hq with rfl | hq
  · exact jwc_176
  rcases List.mem_cons.mp hq with rfl | hq
  · exact jwc_177
  rcases List.mem_cons.mp hq with rfl | hq
  · exact jwc_178
  rcases List.mem_cons.mp hq with rfl | hq
  · exact jwc_179
  rcases List.mem_cons.mp hq with rfl | hq
  · exact jwc_180
  rcases List.mem_cons.mp hq with rfl | hq
  · exact jwc_181
  rcases List.mem_cons.mp hq with rfl | hq
  · exact jwc_182
  rcases List.mem_cons.mp hq with rfl | hq
  · exact jwc_183
  rcases List.mem_cons.mp hq with rfl | hq
  · exact jwc_184
  rcases List.mem_cons.mp hq with rfl | hq
  · exact jwc_185
  rcases List.mem_cons.mp hq with rfl | hq
  · exact jwc_186
  rcases List.mem_cons.mp hq with rfl | hq
  · exact jwc_187
  rcases List.mem_cons.mp hq with rfl | hq
  · exact jwc_188
  rcases List.mem_cons.mp hq with rfl | hq
  · exact jwc_189
  rcases List.mem_cons.mp hq with rfl | hq
  · exact jwc_190
  rcases List.mem_cons.mp hq with rfl | hq
  · exact jwc_191
  rcases List.mem_cons.mp hq with rfl | hq
  · exact jwc_192
  rcases List.mem_cons.mp hq with rfl | hq
  · exact jwc_193
  rcases List.mem_cons.mp hq with rfl | hq
  · exact jwc_194
  rcases List.mem_cons.mp hq with rfl | hq
  · exact jwc_195
  rcases List.mem_cons.mp hq with rfl | hq
  · exact jwc_196
  rcases List.mem_cons.mp hq with rfl | hq
  · exact jwc_197
  rcases List.mem_cons.mp hq with rfl | hq
  · exact jwc_198
  rcases List.mem_cons.mp hq with rfl | hq
  · exact jwc_199
  rcases List.mem_cons.mp hq with rfl | hq
  · exact jwc_200
  rcases List.mem_cons.mp hq with rfl | hq
  · exact jwc_201
  rcases List.mem_cons.mp hq with rfl | hq
  · exact jwc_202
  rcases List.mem_cons.mp hq with rfl | hq
  · exact jwc_203
  rcases List.mem_cons.mp hq with rfl | hq
  · exact jwc_204
  rcases List.mem_cons.mp hq with rfl | hq
  · exact jwc_205
  rcases List.mem_cons.mp hq with rfl | hq
  · exact jwc_206
  rcases List.mem_cons.mp hq with rfl | hq
  · exact jwc_207
  rcases List.mem_cons.mp hq with rfl | hq
  · exact jwc_208
  rcases List.mem_cons.mp hq with rfl | hq
  · exact jwc_209
  rcases List.mem_cons.mp hq with rfl | hq
  · exact jwc_210
  rcases List.mem_cons.mp hq with rfl | hq
  · exact jwc_211
  rcases List.mem_cons.mp hq with rfl | hq
  · exact jwc_212
  rcases List.mem_cons.mp hq with rfl | hq
  · exact jwc_213
  rcases List.mem_cons.mp hq with rfl | hq
  · exact jwc_214
  rcases List.mem_cons.mp hq with rfl | hq
  · exact jwc_215
  rcases List.mem_cons.mp hq with rfl | hq
  · exact jwc_216
  rcases List.mem_cons.mp hq with rfl | hq
  · exact jwc_217
  rcases List.mem_cons.mp hq with rfl | hq
  · exact jwc_218
  rcases List.mem_cons.mp hq with rfl | hq
  · exact jwc_219
  rcases List.mem_cons.mp hq with rfl | hq
  · exact jwc_220
  rcases List.mem_cons.mp hq with rfl | hq
  · exact jwc_221
  rcases List.mem_cons.mp hq with rfl | hq
  · exact jwc_222
  rcases List.mem_cons.mp hq with rfl | hq
  · exact jwc_223
  rcases List.mem_cons.mp hq with rfl | hq
  · exact jwc_224
  rcases List.mem_cons.mp hq with rfl | hq
  · exact jwc_225
  rcases List.mem_cons.mp hq with rfl | hq
  · exact jwc_226
  rcases List.mem_cons.mp hq with rfl | hq
  · exact jwc_227
  rcases List.mem_cons.mp hq with rfl | hq
  · exact jwc_228
  rcases List.mem_cons.mp hq with rfl | hq
  · exact jwc_229
  rcases List.mem_cons.mp hq with rfl | hq
  · exact jwc_230
  exact absurd hq List.not_mem_nil
theorem jm_y_ok : ∀ y, y ≠ 0 → y < jm_n → Cond.code (jm_nm y) (jm_code y) (jm_maxL y) (jm_ret y) ∈ jm_gw ∧ Cond.initialized (jm_nm y).cls ∈ jm_gw ∧ plainName (jm_nm y).cls = true ∧ (jm_nm y).cls = jm_cn (jm_own y) ∧ ((jm_nm y).cls ≠ "java/lang/invoke/MethodHandle" ∧ (jm_nm y).cls ≠ "java/lang/invoke/VarHandle") ∧ jm_maxL y ≤ 21 ∧ (jm_ini y = true → (jm_nm y).name = "<init>") := by
  intro y h0 hy
  have h := jyck_all y hy
  unfold jyck at h
  simp only [Bool.or_eq_true, Bool.and_eq_true, beq_iff_eq, h0, false_or, decide_eq_true_eq, Bool.not_eq_true'] at h
  obtain ⟨h2, h3, h4, h5, h6, h7, h8⟩ := h
  have hq : jm_at y ∈ jm_L.drop 1 := by
    have hlen : jm_n ≤ jm_L.length := by decide +kernel
    have hg : jm_L[y]? = some (jm_L[y]'(Nat.lt_of_lt_of_le hy hlen)) := List.getElem?_eq_getElem _
    have : jm_at y = jm_L[y]'(Nat.lt_of_lt_of_le hy hlen) := by
      unfold jm_at
      rw [List.getD_eq_getElem?_getD, hg]
      rfl
    rw [this]
    refine List.mem_of_getElem? (i := y - 1) ?_
    rw [List.getElem?_drop, show 1 + (y - 1) = y by omega]
    exact hg
  exact ⟨jwc_all _ hq, jck_ok h2, h3, h4, ⟨h5, h6⟩, h7, fun hi => h8.resolve_left (by rw [hi]; decide)⟩
