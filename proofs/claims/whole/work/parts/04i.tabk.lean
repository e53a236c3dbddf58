theorem gk_ok_266 : gw_okC gm_266 = true := by decide +kernel
theorem gk_ok_267 : gw_okC gm_267 = true := by decide +kernel
theorem gk_ok_268 : gw_okC gm_268 = true := by decide +kernel
theorem gk_ok_269_0 : (gk_269.take 50).all (gw_okI gm_269.1 gm_269.2.2.1) = true := by decide +kernel
theorem gk_ok_269_1 : (gk_269.drop 50).all (gw_okI gm_269.1 gm_269.2.2.1) = true := by decide +kernel
theorem gk_ok_269 : gw_okC gm_269 = true := gw_splitC 50 gk_ok_269_0 (gk_ok_269_1)
theorem gk_ok_270 : gw_okC gm_270 = true := by decide +kernel
theorem gk_ok_271_0 : (gk_271.take 50).all (gw_okI gm_271.1 gm_271.2.2.1) = true := by decide +kernel
theorem gk_ok_271_1 : ((gk_271.drop 50).take 50).all (gw_okI gm_271.1 gm_271.2.2.1) = true := by decide +kernel
theorem gk_ok_271_2 : ((gk_271.drop 50).drop 50).all (gw_okI gm_271.1 gm_271.2.2.1) = true := by decide +kernel
theorem gk_ok_271 : gw_okC gm_271 = true := gw_splitC 50 gk_ok_271_0 (gw_splitC 50 gk_ok_271_1 (gk_ok_271_2))
theorem gk_ok_272 : gw_okC gm_272 = true := by decide +kernel
theorem gk_ok_273_0 : (gk_273.take 50).all (gw_okI gm_273.1 gm_273.2.2.1) = true := by decide +kernel
theorem gk_ok_273_1 : ((gk_273.drop 50).take 50).all (gw_okI gm_273.1 gm_273.2.2.1) = true := by decide +kernel
theorem gk_ok_273_2 : ((gk_273.drop 50).drop 50).all (gw_okI gm_273.1 gm_273.2.2.1) = true := by decide +kernel
theorem gk_ok_273 : gw_okC gm_273 = true := gw_splitC 50 gk_ok_273_0 (gw_splitC 50 gk_ok_273_1 (gk_ok_273_2))
theorem gk_ok_274 : gw_okC gm_274 = true := by decide +kernel
theorem gk_ok_275 : gw_okC gm_275 = true := by decide +kernel
theorem gk_ok_276 : gw_okC gm_276 = true := by decide +kernel
theorem gk_ok_277_0 : (gk_277.take 50).all (gw_okI gm_277.1 gm_277.2.2.1) = true := by decide +kernel
theorem gk_ok_277_1 : (gk_277.drop 50).all (gw_okI gm_277.1 gm_277.2.2.1) = true := by decide +kernel
theorem gk_ok_277 : gw_okC gm_277 = true := gw_splitC 50 gk_ok_277_0 (gk_ok_277_1)
theorem gk_ok_278_0 : (gk_278.take 50).all (gw_okI gm_278.1 gm_278.2.2.1) = true := by decide +kernel
theorem gk_ok_278_1 : (gk_278.drop 50).all (gw_okI gm_278.1 gm_278.2.2.1) = true := by decide +kernel
theorem gk_ok_278 : gw_okC gm_278 = true := gw_splitC 50 gk_ok_278_0 (gk_ok_278_1)
theorem gk_ok_279 : gw_okC gm_279 = true := by decide +kernel
theorem gk_ok_280 : gw_okC gm_280 = true := by decide +kernel
theorem gk_ok_281_0 : (gk_281.take 50).all (gw_okI gm_281.1 gm_281.2.2.1) = true := by decide +kernel
theorem gk_ok_281_1 : ((gk_281.drop 50).take 50).all (gw_okI gm_281.1 gm_281.2.2.1) = true := by decide +kernel
theorem gk_ok_281_2 : ((gk_281.drop 50).drop 50).all (gw_okI gm_281.1 gm_281.2.2.1) = true := by decide +kernel
theorem gk_ok_281 : gw_okC gm_281 = true := gw_splitC 50 gk_ok_281_0 (gw_splitC 50 gk_ok_281_1 (gk_ok_281_2))
theorem gk_ok_282 : gw_okC gm_282 = true := by decide +kernel
theorem gk_ok_283 : gw_okC gm_283 = true := by decide +kernel
theorem gk_ok_284 : gw_okC gm_284 = true := by decide +kernel
theorem gk_ok_285 : gw_okC gm_285 = true := by decide +kernel
theorem gk_ok_286 : gw_okC gm_286 = true := by decide +kernel
theorem gk_ok_287 : gw_okC gm_287 = true := by decide +kernel
theorem gk_ok_288 : gw_okC gm_288 = true := by decide +kernel
theorem gk_ok_289 : gw_okC gm_289 = true := by decide +kernel
theorem gk_ok_290 : gw_okC gm_290 = true := by decide +kernel
theorem gk_ok_291 : gw_okC gm_291 = true := by decide +kernel
theorem gk_ok_292 : gw_okC gm_292 = true := by decide +kernel
theorem gk_ok_293 : gw_okC gm_293 = true := by decide +kernel
theorem gk_ok_294 : gw_okC gm_294 = true := by decide +kernel
theorem gk_ok_295 : gw_okC gm_295 = true := by decide +kernel
theorem gk_ok_296 : gw_okC gm_296 = true := by decide +kernel
theorem gk_ok_297 : gw_okC gm_297 = true := by decide +kernel
theorem gk_ok_298 : gw_okC gm_298 = true := by decide +kernel
theorem gk_ok_299 : gw_okC gm_299 = true := by decide +kernel
theorem gk_ok_300 : gw_okC gm_300 = true := by decide +kernel
theorem gk_ok_301 : gw_okC gm_301 = true := by decide +kernel
theorem gk_ok_302 : gw_okC gm_302 = true := by decide +kernel
theorem gk_ok_303_0 : (gk_303.take 50).all (gw_okI gm_303.1 gm_303.2.2.1) = true := by decide +kernel
theorem gk_ok_303_1 : ((gk_303.drop 50).take 50).all (gw_okI gm_303.1 gm_303.2.2.1) = true := by decide +kernel
theorem gk_ok_303_2 : ((gk_303.drop 50).drop 50).all (gw_okI gm_303.1 gm_303.2.2.1) = true := by decide +kernel
theorem gk_ok_303 : gw_okC gm_303 = true := gw_splitC 50 gk_ok_303_0 (gw_splitC 50 gk_ok_303_1 (gk_ok_303_2))
theorem gk_ok_304_0 : (gk_304.take 50).all (gw_okI gm_304.1 gm_304.2.2.1) = true := by decide +kernel
theorem gk_ok_304_1 : (gk_304.drop 50).all (gw_okI gm_304.1 gm_304.2.2.1) = true := by decide +kernel
theorem gk_ok_304 : gw_okC gm_304 = true := gw_splitC 50 gk_ok_304_0 (gk_ok_304_1)
theorem gk_ok_305 : gw_okC gm_305 = true := by decide +kernel
theorem gk_ok_306_0 : (gk_306.take 50).all (gw_okI gm_306.1 gm_306.2.2.1) = true := by decide +kernel
theorem gk_ok_306_1 : ((gk_306.drop 50).take 50).all (gw_okI gm_306.1 gm_306.2.2.1) = true := by decide +kernel
theorem gk_ok_306_2 : ((gk_306.drop 50).drop 50).all (gw_okI gm_306.1 gm_306.2.2.1) = true := by decide +kernel
theorem gk_ok_306 : gw_okC gm_306 = true := gw_splitC 50 gk_ok_306_0 (gw_splitC 50 gk_ok_306_1 (gk_ok_306_2))
theorem gk_ok_307 : gw_okC gm_307 = true := by decide +kernel
theorem gk_ok_308_0 : (gk_308.take 50).all (gw_okI gm_308.1 gm_308.2.2.1) = true := by decide +kernel
theorem gk_ok_308_1 : ((gk_308.drop 50).take 50).all (gw_okI gm_308.1 gm_308.2.2.1) = true := by decide +kernel
theorem gk_ok_308_2 : (((gk_308.drop 50).drop 50).take 50).all (gw_okI gm_308.1 gm_308.2.2.1) = true := by decide +kernel
theorem gk_ok_308_3 : ((((gk_308.drop 50).drop 50).drop 50).take 50).all (gw_okI gm_308.1 gm_308.2.2.1) = true := by decide +kernel
theorem gk_ok_308_4 : (((((gk_308.drop 50).drop 50).drop 50).drop 50).take 50).all (gw_okI gm_308.1 gm_308.2.2.1) = true := by decide +kernel
theorem gk_ok_308_5 : ((((((gk_308.drop 50).drop 50).drop 50).drop 50).drop 50).take 50).all (gw_okI gm_308.1 gm_308.2.2.1) = true := by decide +kernel
theorem gk_ok_308_6 : ((((((gk_308.drop 50).drop 50).drop 50).drop 50).drop 50).drop 50).all (gw_okI gm_308.1 gm_308.2.2.1) = true := by decide +kernel
theorem gk_ok_308 : gw_okC gm_308 = true := gw_splitC 50 gk_ok_308_0 (gw_splitC 50 gk_ok_308_1 (gw_splitC 50 gk_ok_308_2 (gw_splitC 50 gk_ok_308_3 (gw_splitC 50 gk_ok_308_4 (gw_splitC 50 gk_ok_308_5 (gk_ok_308_6))))))
