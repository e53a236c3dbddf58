theorem gk_ok_158 : gw_okC gm_158 = true := by decide +kernel
theorem gk_ok_159 : gw_okC gm_159 = true := by decide +kernel
theorem gk_ok_160_0 : (gk_160.take 50).all (gw_okI gm_160.1 gm_160.2.2.1) = true := by decide +kernel
theorem gk_ok_160_1 : (gk_160.drop 50).all (gw_okI gm_160.1 gm_160.2.2.1) = true := by decide +kernel
theorem gk_ok_160 : gw_okC gm_160 = true := gw_splitC 50 gk_ok_160_0 (gk_ok_160_1)
theorem gk_ok_161 : gw_okC gm_161 = true := by decide +kernel
theorem gk_ok_162 : gw_okC gm_162 = true := by decide +kernel
theorem gk_ok_163 : gw_okC gm_163 = true := by decide +kernel
theorem gk_ok_164 : gw_okC gm_164 = true := by decide +kernel
theorem gk_ok_165 : gw_okC gm_165 = true := by decide +kernel
theorem gk_ok_166 : gw_okC gm_166 = true := by decide +kernel
theorem gk_ok_167 : gw_okC gm_167 = true := by decide +kernel
theorem gk_ok_168 : gw_okC gm_168 = true := by decide +kernel
theorem gk_ok_169 : gw_okC gm_169 = true := by decide +kernel
theorem gk_ok_170 : gw_okC gm_170 = true := by decide +kernel
theorem gk_ok_171 : gw_okC gm_171 = true := by decide +kernel
theorem gk_ok_172 : gw_okC gm_172 = true := by decide +kernel
theorem gk_ok_173 : gw_okC gm_173 = true := by decide +kernel
theorem gk_ok_174 : gw_okC gm_174 = true := by decide +kernel
theorem gk_ok_175 : gw_okC gm_175 = true := by decide +kernel
theorem gk_ok_176 : gw_okC gm_176 = true := by decide +kernel
theorem gk_ok_177 : gw_okC gm_177 = true := by decide +kernel
theorem gk_ok_178 : gw_okC gm_178 = true := by decide +kernel
theorem gk_ok_179 : gw_okC gm_179 = true := by decide +kernel
theorem gk_ok_180 : gw_okC gm_180 = true := by decide +kernel
theorem gk_ok_181 : gw_okC gm_181 = true := by decide +kernel
theorem gk_ok_182 : gw_okC gm_182 = true := by decide +kernel
theorem gk_ok_183 : gw_okC gm_183 = true := by decide +kernel
theorem gk_ok_184 : gw_okC gm_184 = true := by decide +kernel
theorem gk_ok_185 : gw_okC gm_185 = true := by decide +kernel
theorem gk_ok_186 : gw_okC gm_186 = true := by decide +kernel
theorem gk_ok_187 : gw_okC gm_187 = true := by decide +kernel
theorem gk_ok_188 : gw_okC gm_188 = true := by decide +kernel
theorem gk_ok_189 : gw_okC gm_189 = true := by decide +kernel
theorem gk_ok_190 : gw_okC gm_190 = true := by decide +kernel
theorem gk_ok_191 : gw_okC gm_191 = true := by decide +kernel
theorem gk_ok_192 : gw_okC gm_192 = true := by decide +kernel
theorem gk_ok_193 : gw_okC gm_193 = true := by decide +kernel
theorem gk_ok_194 : gw_okC gm_194 = true := by decide +kernel
theorem gk_ok_195 : gw_okC gm_195 = true := by decide +kernel
theorem gk_ok_196 : gw_okC gm_196 = true := by decide +kernel
theorem gk_ok_197 : gw_okC gm_197 = true := by decide +kernel
theorem gk_ok_198 : gw_okC gm_198 = true := by decide +kernel
theorem gk_ok_199 : gw_okC gm_199 = true := by decide +kernel
theorem gk_ok_200 : gw_okC gm_200 = true := by decide +kernel
theorem gk_ok_201 : gw_okC gm_201 = true := by decide +kernel
theorem gk_ok_202 : gw_okC gm_202 = true := by decide +kernel
theorem gk_ok_203 : gw_okC gm_203 = true := by decide +kernel
theorem gk_ok_204 : gw_okC gm_204 = true := by decide +kernel
theorem gk_ok_205 : gw_okC gm_205 = true := by decide +kernel
theorem gk_ok_206 : gw_okC gm_206 = true := by decide +kernel
theorem gk_ok_207 : gw_okC gm_207 = true := by decide +kernel
theorem gk_ok_208_0 : (gk_208.take 50).all (gw_okI gm_208.1 gm_208.2.2.1) = true := by decide +kernel
theorem gk_ok_208_1 : ((gk_208.drop 50).take 50).all (gw_okI gm_208.1 gm_208.2.2.1) = true := by decide +kernel
theorem gk_ok_208_2 : (((gk_208.drop 50).drop 50).take 50).all (gw_okI gm_208.1 gm_208.2.2.1) = true := by decide +kernel
theorem gk_ok_208_3 : (((gk_208.drop 50).drop 50).drop 50).all (gw_okI gm_208.1 gm_208.2.2.1) = true := by decide +kernel
theorem gk_ok_208 : gw_okC gm_208 = true := gw_splitC 50 gk_ok_208_0 (gw_splitC 50 gk_ok_208_1 (gw_splitC 50 gk_ok_208_2 (gk_ok_208_3)))
theorem gk_ok_209 : gw_okC gm_209 = true := by decide +kernel
theorem gk_ok_210 : gw_okC gm_210 = true := by decide +kernel
theorem gk_ok_211 : gw_okC gm_211 = true := by decide +kernel
theorem gk_ok_212_0 : (gk_212.take 50).all (gw_okI gm_212.1 gm_212.2.2.1) = true := by decide +kernel
theorem gk_ok_212_1 : (gk_212.drop 50).all (gw_okI gm_212.1 gm_212.2.2.1) = true := by decide +kernel
theorem gk_ok_212 : gw_okC gm_212 = true := gw_splitC 50 gk_ok_212_0 (gk_ok_212_1)
theorem gk_ok_213 : gw_okC gm_213 = true := by decide +kernel
theorem gk_ok_214 : gw_okC gm_214 = true := by decide +kernel
theorem gk_ok_215 : gw_okC gm_215 = true := by decide +kernel
theorem gk_ok_216 : gw_okC gm_216 = true := by decide +kernel
theorem gk_ok_217 : gw_okC gm_217 = true := by decide +kernel
theorem gk_ok_218 : gw_okC gm_218 = true := by decide +kernel
theorem gk_ok_219_0 : (gk_219.take 50).all (gw_okI gm_219.1 gm_219.2.2.1) = true := by decide +kernel
theorem gk_ok_219_1 : ((gk_219.drop 50).take 50).all (gw_okI gm_219.1 gm_219.2.2.1) = true := by decide +kernel
theorem gk_ok_219_2 : ((gk_219.drop 50).drop 50).all (gw_okI gm_219.1 gm_219.2.2.1) = true := by decide +kernel
theorem gk_ok_219 : gw_okC gm_219 = true := gw_splitC 50 gk_ok_219_0 (gw_splitC 50 gk_ok_219_1 (gk_ok_219_2))
theorem gk_ok_220 : gw_okC gm_220 = true := by decide +kernel
theorem gk_ok_221 : gw_okC gm_221 = true := by decide +kernel
theorem gk_ok_222 : gw_okC gm_222 = true := by decide +kernel
theorem gk_ok_223_0 : (gk_223.take 50).all (gw_okI gm_223.1 gm_223.2.2.1) = true := by decide +kernel
theorem gk_ok_223_1 : (gk_223.drop 50).all (gw_okI gm_223.1 gm_223.2.2.1) = true := by decide +kernel
theorem gk_ok_223 : gw_okC gm_223 = true := gw_splitC 50 gk_ok_223_0 (gk_ok_223_1)
theorem gk_ok_224 : gw_okC gm_224 = true := by decide +kernel
theorem gk_ok_225 : gw_okC gm_225 = true := by decide +kernel
theorem gk_ok_226_0 : (gk_226.take 50).all (gw_okI gm_226.1 gm_226.2.2.1) = true := by decide +kernel
theorem gk_ok_226_1 : (gk_226.drop 50).all (gw_okI gm_226.1 gm_226.2.2.1) = true := by decide +kernel
theorem gk_ok_226 : gw_okC gm_226 = true := gw_splitC 50 gk_ok_226_0 (gk_ok_226_1)
