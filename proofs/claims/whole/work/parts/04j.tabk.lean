theorem gk_ok_309_0 : (gk_309.take 50).all (gw_okI gm_309.1 gm_309.2.2.1) = true := sorry
theorem gk_ok_309_1 : ((gk_309.drop 50).take 50).all (gw_okI gm_309.1 gm_309.2.2.1) = true := sorry
theorem gk_ok_309_2 : (((gk_309.drop 50).drop 50).take 50).all (gw_okI gm_309.1 gm_309.2.2.1) = true := sorry
theorem gk_ok_309_3 : ((((gk_309.drop 50).drop 50).drop 50).take 50).all (gw_okI gm_309.1 gm_309.2.2.1) = true := sorry
theorem gk_ok_309_4 : (((((gk_309.drop 50).drop 50).drop 50).drop 50).take 50).all (gw_okI gm_309.1 gm_309.2.2.1) = true := sorry
theorem gk_ok_309_5 : ((((((gk_309.drop 50).drop 50).drop 50).drop 50).drop 50).take 50).all (gw_okI gm_309.1 gm_309.2.2.1) = true := sorry
theorem gk_ok_309_6 : (((((((gk_309.drop 50).drop 50).drop 50).drop 50).drop 50).drop 50).take 50).all (gw_okI gm_309.1 gm_309.2.2.1) = true := sorry
theorem gk_ok_309_7 : ((((((((gk_309.drop 50).drop 50).drop 50).drop 50).drop 50).drop 50).drop 50).take 50).all (gw_okI gm_309.1 gm_309.2.2.1) = true := sorry
theorem gk_ok_309_8 : (((((((((gk_309.drop 50).drop 50).drop 50).drop 50).drop 50).drop 50).drop 50).drop 50).take 50).all (gw_okI gm_309.1 gm_309.2.2.1) = true := sorry
theorem gk_ok_309_9 : ((((((((((gk_309.drop 50).drop 50).drop 50).drop 50).drop 50).drop 50).drop 50).drop 50).drop 50).take 50).all (gw_okI gm_309.1 gm_309.2.2.1) = true := sorry
theorem gk_ok_309_10 : (((((((((((gk_309.drop 50).drop 50).drop 50).drop 50).drop 50).drop 50).drop 50).drop 50).drop 50).drop 50).take 50).all (gw_okI gm_309.1 gm_309.2.2.1) = true := sorry
theorem gk_ok_309_11 : ((((((((((((gk_309.drop 50).drop 50).drop 50).drop 50).drop 50).drop 50).drop 50).drop 50).drop 50).drop 50).drop 50).take 50).all (gw_okI gm_309.1 gm_309.2.2.1) = true := sorry
theorem gk_ok_309_12 : (((((((((((((gk_309.drop 50).drop 50).drop 50).drop 50).drop 50).drop 50).drop 50).drop 50).drop 50).drop 50).drop 50).drop 50).take 50).all (gw_okI gm_309.1 gm_309.2.2.1) = true := sorry
theorem gk_ok_309_13 : ((((((((((((((gk_309.drop 50).drop 50).drop 50).drop 50).drop 50).drop 50).drop 50).drop 50).drop 50).drop 50).drop 50).drop 50).drop 50).take 50).all (gw_okI gm_309.1 gm_309.2.2.1) = true := sorry
theorem gk_ok_309_14 : (((((((((((((((gk_309.drop 50).drop 50).drop 50).drop 50).drop 50).drop 50).drop 50).drop 50).drop 50).drop 50).drop 50).drop 50).drop 50).drop 50).take 50).all (gw_okI gm_309.1 gm_309.2.2.1) = true := sorry
theorem gk_ok_309_15 : ((((((((((((((((gk_309.drop 50).drop 50).drop 50).drop 50).drop 50).drop 50).drop 50).drop 50).drop 50).drop 50).drop 50).drop 50).drop 50).drop 50).drop 50).take 50).all (gw_okI gm_309.1 gm_309.2.2.1) = true := sorry
theorem gk_ok_309_16 : (((((((((((((((((gk_309.drop 50).drop 50).drop 50).drop 50).drop 50).drop 50).drop 50).drop 50).drop 50).drop 50).drop 50).drop 50).drop 50).drop 50).drop 50).drop 50).take 50).all (gw_okI gm_309.1 gm_309.2.2.1) = true := sorry
theorem gk_ok_309_17 : ((((((((((((((((((gk_309.drop 50).drop 50).drop 50).drop 50).drop 50).drop 50).drop 50).drop 50).drop 50).drop 50).drop 50).drop 50).drop 50).drop 50).drop 50).drop 50).drop 50).take 50).all (gw_okI gm_309.1 gm_309.2.2.1) = true := sorry
theorem gk_ok_309_18 : (((((((((((((((((((gk_309.drop 50).drop 50).drop 50).drop 50).drop 50).drop 50).drop 50).drop 50).drop 50).drop 50).drop 50).drop 50).drop 50).drop 50).drop 50).drop 50).drop 50).drop 50).take 50).all (gw_okI gm_309.1 gm_309.2.2.1) = true := sorry
theorem gk_ok_309_19 : ((((((((((((((((((((gk_309.drop 50).drop 50).drop 50).drop 50).drop 50).drop 50).drop 50).drop 50).drop 50).drop 50).drop 50).drop 50).drop 50).drop 50).drop 50).drop 50).drop 50).drop 50).drop 50).take 50).all (gw_okI gm_309.1 gm_309.2.2.1) = true := sorry
theorem gk_ok_309_20 : (((((((((((((((((((((gk_309.drop 50).drop 50).drop 50).drop 50).drop 50).drop 50).drop 50).drop 50).drop 50).drop 50).drop 50).drop 50).drop 50).drop 50).drop 50).drop 50).drop 50).drop 50).drop 50).drop 50).take 50).all (gw_okI gm_309.1 gm_309.2.2.1) = true := sorry
theorem gk_ok_309_21 : (((((((((((((((((((((gk_309.drop 50).drop 50).drop 50).drop 50).drop 50).drop 50).drop 50).drop 50).drop 50).drop 50).drop 50).drop 50).drop 50).drop 50).drop 50).drop 50).drop 50).drop 50).drop 50).drop 50).drop 50).all (gw_okI gm_309.1 gm_309.2.2.1) = true := sorry
theorem gk_ok_309 : gw_okC gm_309 = true := gw_splitC 50 gk_ok_309_0 (gw_splitC 50 gk_ok_309_1 (gw_splitC 50 gk_ok_309_2 (gw_splitC 50 gk_ok_309_3 (gw_splitC 50 gk_ok_309_4 (gw_splitC 50 gk_ok_309_5 (gw_splitC 50 gk_ok_309_6 (gw_splitC 50 gk_ok_309_7 (gw_splitC 50 gk_ok_309_8 (gw_splitC 50 gk_ok_309_9 (gw_splitC 50 gk_ok_309_10 (gw_splitC 50 gk_ok_309_11 (gw_splitC 50 gk_ok_309_12 (gw_splitC 50 gk_ok_309_13 (gw_splitC 50 gk_ok_309_14 (gw_splitC 50 gk_ok_309_15 (gw_splitC 50 gk_ok_309_16 (gw_splitC 50 gk_ok_309_17 (gw_splitC 50 gk_ok_309_18 (gw_splitC 50 gk_ok_309_19 (gw_splitC 50 gk_ok_309_20 (gk_ok_309_21)))))))))))))))))))))
theorem gk_ok_310 : gw_okC gm_310 = true := sorry
theorem gk_ok_311 : gw_okC gm_311 = true := sorry
theorem gk_ok_312 : gw_okC gm_312 = true := sorry
theorem gk_ok_313 : gw_okC gm_313 = true := sorry
