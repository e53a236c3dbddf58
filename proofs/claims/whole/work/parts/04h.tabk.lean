theorem gk_ok_227_0 : (gk_227.take 50).all (gw_okI gm_227.1 gm_227.2.2.1) = true := by decide +kernel
theorem gk_ok_227_1 : (gk_227.drop 50).all (gw_okI gm_227.1 gm_227.2.2.1) = true := by decide +kernel
theorem gk_ok_227 : gw_okC gm_227 = true := gw_splitC 50 gk_ok_227_0 (gk_ok_227_1)
theorem gk_ok_228 : gw_okC gm_228 = true := by decide +kernel
theorem gk_ok_229 : gw_okC gm_229 = true := by decide +kernel
theorem gk_ok_230_0 : (gk_230.take 50).all (gw_okI gm_230.1 gm_230.2.2.1) = true := by decide +kernel
theorem gk_ok_230_1 : (gk_230.drop 50).all (gw_okI gm_230.1 gm_230.2.2.1) = true := by decide +kernel
theorem gk_ok_230 : gw_okC gm_230 = true := gw_splitC 50 gk_ok_230_0 (gk_ok_230_1)
theorem gk_ok_231 : gw_okC gm_231 = true := by decide +kernel
theorem gk_ok_232 : gw_okC gm_232 = true := by decide +kernel
theorem gk_ok_233 : gw_okC gm_233 = true := by decide +kernel
theorem gk_ok_234 : gw_okC gm_234 = true := by decide +kernel
theorem gk_ok_235 : gw_okC gm_235 = true := by decide +kernel
theorem gk_ok_236 : gw_okC gm_236 = true := by decide +kernel
theorem gk_ok_237_0 : (gk_237.take 50).all (gw_okI gm_237.1 gm_237.2.2.1) = true := by decide +kernel
theorem gk_ok_237_1 : (gk_237.drop 50).all (gw_okI gm_237.1 gm_237.2.2.1) = true := by decide +kernel
theorem gk_ok_237 : gw_okC gm_237 = true := gw_splitC 50 gk_ok_237_0 (gk_ok_237_1)
theorem gk_ok_238 : gw_okC gm_238 = true := by decide +kernel
theorem gk_ok_239 : gw_okC gm_239 = true := by decide +kernel
theorem gk_ok_240 : gw_okC gm_240 = true := by decide +kernel
theorem gk_ok_241 : gw_okC gm_241 = true := by decide +kernel
theorem gk_ok_242_0 : (gk_242.take 50).all (gw_okI gm_242.1 gm_242.2.2.1) = true := by decide +kernel
theorem gk_ok_242_1 : ((gk_242.drop 50).take 50).all (gw_okI gm_242.1 gm_242.2.2.1) = true := by decide +kernel
theorem gk_ok_242_2 : (((gk_242.drop 50).drop 50).take 50).all (gw_okI gm_242.1 gm_242.2.2.1) = true := by decide +kernel
theorem gk_ok_242_3 : (((gk_242.drop 50).drop 50).drop 50).all (gw_okI gm_242.1 gm_242.2.2.1) = true := by decide +kernel
theorem gk_ok_242 : gw_okC gm_242 = true := gw_splitC 50 gk_ok_242_0 (gw_splitC 50 gk_ok_242_1 (gw_splitC 50 gk_ok_242_2 (gk_ok_242_3)))
theorem gk_ok_243 : gw_okC gm_243 = true := by decide +kernel
theorem gk_ok_244 : gw_okC gm_244 = true := by decide +kernel
theorem gk_ok_245 : gw_okC gm_245 = true := by decide +kernel
theorem gk_ok_246 : gw_okC gm_246 = true := by decide +kernel
theorem gk_ok_247_0 : (gk_247.take 50).all (gw_okI gm_247.1 gm_247.2.2.1) = true := by decide +kernel
theorem gk_ok_247_1 : (gk_247.drop 50).all (gw_okI gm_247.1 gm_247.2.2.1) = true := by decide +kernel
theorem gk_ok_247 : gw_okC gm_247 = true := gw_splitC 50 gk_ok_247_0 (gk_ok_247_1)
theorem gk_ok_248 : gw_okC gm_248 = true := by decide +kernel
theorem gk_ok_249 : gw_okC gm_249 = true := by decide +kernel
theorem gk_ok_250_0 : (gk_250.take 50).all (gw_okI gm_250.1 gm_250.2.2.1) = true := by decide +kernel
theorem gk_ok_250_1 : ((gk_250.drop 50).take 50).all (gw_okI gm_250.1 gm_250.2.2.1) = true := by decide +kernel
theorem gk_ok_250_2 : (((gk_250.drop 50).drop 50).take 50).all (gw_okI gm_250.1 gm_250.2.2.1) = true := by decide +kernel
theorem gk_ok_250_3 : (((gk_250.drop 50).drop 50).drop 50).all (gw_okI gm_250.1 gm_250.2.2.1) = true := by decide +kernel
theorem gk_ok_250 : gw_okC gm_250 = true := gw_splitC 50 gk_ok_250_0 (gw_splitC 50 gk_ok_250_1 (gw_splitC 50 gk_ok_250_2 (gk_ok_250_3)))
theorem gk_ok_251_0 : (gk_251.take 50).all (gw_okI gm_251.1 gm_251.2.2.1) = true := by decide +kernel
theorem gk_ok_251_1 : (gk_251.drop 50).all (gw_okI gm_251.1 gm_251.2.2.1) = true := by decide +kernel
theorem gk_ok_251 : gw_okC gm_251 = true := gw_splitC 50 gk_ok_251_0 (gk_ok_251_1)
theorem gk_ok_252 : gw_okC gm_252 = true := by decide +kernel
theorem gk_ok_253 : gw_okC gm_253 = true := by decide +kernel
theorem gk_ok_254 : gw_okC gm_254 = true := by decide +kernel
theorem gk_ok_255 : gw_okC gm_255 = true := by decide +kernel
theorem gk_ok_256 : gw_okC gm_256 = true := by decide +kernel
theorem gk_ok_257_0 : (gk_257.take 50).all (gw_okI gm_257.1 gm_257.2.2.1) = true := by decide +kernel
theorem gk_ok_257_1 : (gk_257.drop 50).all (gw_okI gm_257.1 gm_257.2.2.1) = true := by decide +kernel
theorem gk_ok_257 : gw_okC gm_257 = true := gw_splitC 50 gk_ok_257_0 (gk_ok_257_1)
theorem gk_ok_258_0 : (gk_258.take 50).all (gw_okI gm_258.1 gm_258.2.2.1) = true := by decide +kernel
theorem gk_ok_258_1 : (gk_258.drop 50).all (gw_okI gm_258.1 gm_258.2.2.1) = true := by decide +kernel
theorem gk_ok_258 : gw_okC gm_258 = true := gw_splitC 50 gk_ok_258_0 (gk_ok_258_1)
theorem gk_ok_259 : gw_okC gm_259 = true := by decide +kernel
theorem gk_ok_260 : gw_okC gm_260 = true := by decide +kernel
theorem gk_ok_261 : gw_okC gm_261 = true := by decide +kernel
theorem gk_ok_262_0 : (gk_262.take 50).all (gw_okI gm_262.1 gm_262.2.2.1) = true := by decide +kernel
theorem gk_ok_262_1 : (gk_262.drop 50).all (gw_okI gm_262.1 gm_262.2.2.1) = true := by decide +kernel
theorem gk_ok_262 : gw_okC gm_262 = true := gw_splitC 50 gk_ok_262_0 (gk_ok_262_1)
theorem gk_ok_263 : gw_okC gm_263 = true := by decide +kernel
theorem gk_ok_264_0 : (gk_264.take 50).all (gw_okI gm_264.1 gm_264.2.2.1) = true := by decide +kernel
theorem gk_ok_264_1 : (gk_264.drop 50).all (gw_okI gm_264.1 gm_264.2.2.1) = true := by decide +kernel
theorem gk_ok_264 : gw_okC gm_264 = true := gw_splitC 50 gk_ok_264_0 (gk_ok_264_1)
theorem gk_ok_265_0 : (gk_265.take 50).all (gw_okI gm_265.1 gm_265.2.2.1) = true := by decide +kernel
theorem gk_ok_265_1 : (gk_265.drop 50).all (gw_okI gm_265.1 gm_265.2.2.1) = true := by decide +kernel
theorem gk_ok_265 : gw_okC gm_265 = true := gw_splitC 50 gk_ok_265_0 (gk_ok_265_1)
