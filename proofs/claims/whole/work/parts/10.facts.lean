theorem kc_m266 : rg (-266) := by unfold rg; omega
theorem kc_m2 : rg (-2) := by unfold rg; omega
theorem kc_m1 : rg (-1) := by unfold rg; omega
theorem kc_0 : rg 0 := by unfold rg; omega
theorem kc_1 : rg 1 := by unfold rg; omega
theorem kc_2 : rg 2 := by unfold rg; omega
theorem kc_3 : rg 3 := by unfold rg; omega
theorem kc_4 : rg 4 := by unfold rg; omega
theorem kc_5 : rg 5 := by unfold rg; omega
theorem kc_6 : rg 6 := by unfold rg; omega
theorem kc_7 : rg 7 := by unfold rg; omega
theorem kc_8 : rg 8 := by unfold rg; omega
theorem kc_9 : rg 9 := by unfold rg; omega
theorem kc_10 : rg 10 := by unfold rg; omega
theorem kc_11 : rg 11 := by unfold rg; omega
theorem kc_12 : rg 12 := by unfold rg; omega
theorem kc_13 : rg 13 := by unfold rg; omega
theorem kc_16 : rg 16 := by unfold rg; omega
theorem kc_17 : rg 17 := by unfold rg; omega
theorem kc_18 : rg 18 := by unfold rg; omega
theorem kc_19 : rg 19 := by unfold rg; omega
theorem kc_20 : rg 20 := by unfold rg; omega
theorem kc_21 : rg 21 := by unfold rg; omega
theorem kc_22 : rg 22 := by unfold rg; omega
theorem kc_24 : rg 24 := by unfold rg; omega
theorem kc_25 : rg 25 := by unfold rg; omega
theorem kc_26 : rg 26 := by unfold rg; omega
theorem kc_27 : rg 27 := by unfold rg; omega
theorem kc_28 : rg 28 := by unfold rg; omega
theorem kc_29 : rg 29 := by unfold rg; omega
theorem kc_30 : rg 30 := by unfold rg; omega
theorem kc_31 : rg 31 := by unfold rg; omega
theorem kc_32 : rg 32 := by unfold rg; omega
theorem kc_40 : rg 40 := by unfold rg; omega
theorem kc_41 : rg 41 := by unfold rg; omega
theorem kc_42 : rg 42 := by unfold rg; omega
theorem kc_43 : rg 43 := by unfold rg; omega
theorem kc_45 : rg 45 := by unfold rg; omega
theorem kc_47 : rg 47 := by unfold rg; omega
theorem kc_48 : rg 48 := by unfold rg; omega
theorem kc_50 : rg 50 := by unfold rg; omega
theorem kc_57 : rg 57 := by unfold rg; omega
theorem kc_59 : rg 59 := by unfold rg; omega
theorem kc_60 : rg 60 := by unfold rg; omega
theorem kc_61 : rg 61 := by unfold rg; omega
theorem kc_62 : rg 62 := by unfold rg; omega
theorem kc_63 : rg 63 := by unfold rg; omega
theorem kc_64 : rg 64 := by unfold rg; omega
theorem kc_65 : rg 65 := by unfold rg; omega
theorem kc_72 : rg 72 := by unfold rg; omega
theorem kc_81 : rg 81 := by unfold rg; omega
theorem kc_90 : rg 90 := by unfold rg; omega
theorem kc_97 : rg 97 := by unfold rg; omega
theorem kc_99 : rg 99 := by unfold rg; omega
theorem kc_100 : rg 100 := by unfold rg; omega
theorem kc_101 : rg 101 := by unfold rg; omega
theorem kc_120 : rg 120 := by unfold rg; omega
theorem kc_121 : rg 121 := by unfold rg; omega
theorem kc_122 : rg 122 := by unfold rg; omega
theorem kc_141 : rg 141 := by unfold rg; omega
theorem kc_144 : rg 144 := by unfold rg; omega
theorem kc_150 : rg 150 := by unfold rg; omega
theorem kc_151 : rg 151 := by unfold rg; omega
theorem kc_161 : rg 161 := by unfold rg; omega
theorem kc_169 : rg 169 := by unfold rg; omega
theorem kc_200 : rg 200 := by unfold rg; omega
theorem kc_201 : rg 201 := by unfold rg; omega
theorem kc_255 : rg 255 := by unfold rg; omega
theorem kc_256 : rg 256 := by unfold rg; omega
theorem kc_257 : rg 257 := by unfold rg; omega
theorem kc_258 : rg 258 := by unfold rg; omega
theorem kc_260 : rg 260 := by unfold rg; omega
theorem kc_261 : rg 261 := by unfold rg; omega
theorem kc_262 : rg 262 := by unfold rg; omega
theorem kc_263 : rg 263 := by unfold rg; omega
theorem kc_264 : rg 264 := by unfold rg; omega
theorem kc_265 : rg 265 := by unfold rg; omega
theorem kc_266 : rg 266 := by unfold rg; omega
theorem kc_270 : rg 270 := by unfold rg; omega
theorem kc_271 : rg 271 := by unfold rg; omega
theorem kc_272 : rg 272 := by unfold rg; omega
theorem kc_273 : rg 273 := by unfold rg; omega
theorem kc_274 : rg 274 := by unfold rg; omega
theorem kc_275 : rg 275 := by unfold rg; omega
theorem kc_276 : rg 276 := by unfold rg; omega
theorem kc_277 : rg 277 := by unfold rg; omega
theorem kc_278 : rg 278 := by unfold rg; omega
theorem kc_279 : rg 279 := by unfold rg; omega
theorem kc_280 : rg 280 := by unfold rg; omega
theorem kc_281 : rg 281 := by unfold rg; omega
theorem kc_282 : rg 282 := by unfold rg; omega
theorem kc_283 : rg 283 := by unfold rg; omega
theorem kc_284 : rg 284 := by unfold rg; omega
theorem kc_285 : rg 285 := by unfold rg; omega
theorem kc_286 : rg 286 := by unfold rg; omega
theorem kc_287 : rg 287 := by unfold rg; omega
theorem kc_288 : rg 288 := by unfold rg; omega
theorem kc_289 : rg 289 := by unfold rg; omega
theorem kc_290 : rg 290 := by unfold rg; omega
theorem kc_380 : rg 380 := by unfold rg; omega
theorem kc_400 : rg 400 := by unfold rg; omega
theorem kc_500 : rg 500 := by unfold rg; omega
theorem kc_750 : rg 750 := by unfold rg; omega
theorem kc_800 : rg 800 := by unfold rg; omega
theorem kc_999 : rg 999 := by unfold rg; omega
theorem kc_1000 : rg 1000 := by unfold rg; omega
theorem kc_1234 : rg 1234 := by unfold rg; omega
theorem kc_2048 : rg 2048 := by unfold rg; omega
theorem kc_2197 : rg 2197 := by unfold rg; omega
theorem kc_9990 : rg 9990 := by unfold rg; omega
theorem kc_9999 : rg 9999 := by unfold rg; omega
theorem kc_10000 : rg 10000 := by unfold rg; omega
theorem kc_43210 : rg 43210 := by unfold rg; omega
theorem kc_1664525 : rg 1664525 := by unfold rg; omega
theorem kc_100000000 : rg 100000000 := by unfold rg; omega
theorem kc_252645135 : rg 252645135 := by unfold rg; omega
theorem kc_858993459 : rg 858993459 := by unfold rg; omega
theorem kc_1000000007 : rg 1000000007 := by unfold rg; omega
theorem kc_1013904223 : rg 1013904223 := by unfold rg; omega
theorem kc_1431655765 : rg 1431655765 := by unfold rg; omega
theorem kb_0 : r01 0 := Or.inl rfl
theorem kb_1 : r01 1 := Or.inr rfl
theorem bi_m2 : (Int8.ofInt (-2)).toInt32 = pI (-2) := by decide +kernel
theorem bi_6 : (Int8.ofInt (6)).toInt32 = pI (6) := by decide +kernel
theorem bi_7 : (Int8.ofInt (7)).toInt32 = pI (7) := by decide +kernel
theorem bi_8 : (Int8.ofInt (8)).toInt32 = pI (8) := by decide +kernel
theorem bi_9 : (Int8.ofInt (9)).toInt32 = pI (9) := by decide +kernel
theorem bi_10 : (Int8.ofInt (10)).toInt32 = pI (10) := by decide +kernel
theorem bi_11 : (Int8.ofInt (11)).toInt32 = pI (11) := by decide +kernel
theorem bi_12 : (Int8.ofInt (12)).toInt32 = pI (12) := by decide +kernel
theorem bi_13 : (Int8.ofInt (13)).toInt32 = pI (13) := by decide +kernel
theorem bi_16 : (Int8.ofInt (16)).toInt32 = pI (16) := by decide +kernel
theorem bi_17 : (Int8.ofInt (17)).toInt32 = pI (17) := by decide +kernel
theorem bi_18 : (Int8.ofInt (18)).toInt32 = pI (18) := by decide +kernel
theorem bi_19 : (Int8.ofInt (19)).toInt32 = pI (19) := by decide +kernel
theorem bi_20 : (Int8.ofInt (20)).toInt32 = pI (20) := by decide +kernel
theorem bi_21 : (Int8.ofInt (21)).toInt32 = pI (21) := by decide +kernel
theorem bi_22 : (Int8.ofInt (22)).toInt32 = pI (22) := by decide +kernel
theorem bi_24 : (Int8.ofInt (24)).toInt32 = pI (24) := by decide +kernel
theorem bi_25 : (Int8.ofInt (25)).toInt32 = pI (25) := by decide +kernel
theorem bi_26 : (Int8.ofInt (26)).toInt32 = pI (26) := by decide +kernel
theorem bi_27 : (Int8.ofInt (27)).toInt32 = pI (27) := by decide +kernel
theorem bi_29 : (Int8.ofInt (29)).toInt32 = pI (29) := by decide +kernel
theorem bi_30 : (Int8.ofInt (30)).toInt32 = pI (30) := by decide +kernel
theorem bi_31 : (Int8.ofInt (31)).toInt32 = pI (31) := by decide +kernel
theorem bi_32 : (Int8.ofInt (32)).toInt32 = pI (32) := by decide +kernel
theorem bi_40 : (Int8.ofInt (40)).toInt32 = pI (40) := by decide +kernel
theorem bi_41 : (Int8.ofInt (41)).toInt32 = pI (41) := by decide +kernel
theorem bi_42 : (Int8.ofInt (42)).toInt32 = pI (42) := by decide +kernel
theorem bi_43 : (Int8.ofInt (43)).toInt32 = pI (43) := by decide +kernel
theorem bi_45 : (Int8.ofInt (45)).toInt32 = pI (45) := by decide +kernel
theorem bi_47 : (Int8.ofInt (47)).toInt32 = pI (47) := by decide +kernel
theorem bi_48 : (Int8.ofInt (48)).toInt32 = pI (48) := by decide +kernel
theorem bi_50 : (Int8.ofInt (50)).toInt32 = pI (50) := by decide +kernel
theorem bi_57 : (Int8.ofInt (57)).toInt32 = pI (57) := by decide +kernel
theorem bi_59 : (Int8.ofInt (59)).toInt32 = pI (59) := by decide +kernel
theorem bi_60 : (Int8.ofInt (60)).toInt32 = pI (60) := by decide +kernel
theorem bi_61 : (Int8.ofInt (61)).toInt32 = pI (61) := by decide +kernel
theorem bi_62 : (Int8.ofInt (62)).toInt32 = pI (62) := by decide +kernel
theorem bi_63 : (Int8.ofInt (63)).toInt32 = pI (63) := by decide +kernel
theorem bi_64 : (Int8.ofInt (64)).toInt32 = pI (64) := by decide +kernel
theorem bi_65 : (Int8.ofInt (65)).toInt32 = pI (65) := by decide +kernel
theorem bi_72 : (Int8.ofInt (72)).toInt32 = pI (72) := by decide +kernel
theorem bi_81 : (Int8.ofInt (81)).toInt32 = pI (81) := by decide +kernel
theorem bi_90 : (Int8.ofInt (90)).toInt32 = pI (90) := by decide +kernel
theorem bi_97 : (Int8.ofInt (97)).toInt32 = pI (97) := by decide +kernel
theorem bi_99 : (Int8.ofInt (99)).toInt32 = pI (99) := by decide +kernel
theorem bi_100 : (Int8.ofInt (100)).toInt32 = pI (100) := by decide +kernel
theorem bi_101 : (Int8.ofInt (101)).toInt32 = pI (101) := by decide +kernel
theorem bi_120 : (Int8.ofInt (120)).toInt32 = pI (120) := by decide +kernel
theorem bi_121 : (Int8.ofInt (121)).toInt32 = pI (121) := by decide +kernel
theorem bi_122 : (Int8.ofInt (122)).toInt32 = pI (122) := by decide +kernel
theorem si_m266 : (Int16.ofInt (-266)).toInt32 = pI (-266) := by decide +kernel
theorem si_141 : (Int16.ofInt (141)).toInt32 = pI (141) := by decide +kernel
theorem si_144 : (Int16.ofInt (144)).toInt32 = pI (144) := by decide +kernel
theorem si_150 : (Int16.ofInt (150)).toInt32 = pI (150) := by decide +kernel
theorem si_151 : (Int16.ofInt (151)).toInt32 = pI (151) := by decide +kernel
theorem si_161 : (Int16.ofInt (161)).toInt32 = pI (161) := by decide +kernel
theorem si_169 : (Int16.ofInt (169)).toInt32 = pI (169) := by decide +kernel
theorem si_200 : (Int16.ofInt (200)).toInt32 = pI (200) := by decide +kernel
theorem si_201 : (Int16.ofInt (201)).toInt32 = pI (201) := by decide +kernel
theorem si_255 : (Int16.ofInt (255)).toInt32 = pI (255) := by decide +kernel
theorem si_256 : (Int16.ofInt (256)).toInt32 = pI (256) := by decide +kernel
theorem si_257 : (Int16.ofInt (257)).toInt32 = pI (257) := by decide +kernel
theorem si_258 : (Int16.ofInt (258)).toInt32 = pI (258) := by decide +kernel
theorem si_260 : (Int16.ofInt (260)).toInt32 = pI (260) := by decide +kernel
theorem si_261 : (Int16.ofInt (261)).toInt32 = pI (261) := by decide +kernel
theorem si_262 : (Int16.ofInt (262)).toInt32 = pI (262) := by decide +kernel
theorem si_263 : (Int16.ofInt (263)).toInt32 = pI (263) := by decide +kernel
theorem si_264 : (Int16.ofInt (264)).toInt32 = pI (264) := by decide +kernel
theorem si_265 : (Int16.ofInt (265)).toInt32 = pI (265) := by decide +kernel
theorem si_266 : (Int16.ofInt (266)).toInt32 = pI (266) := by decide +kernel
theorem si_270 : (Int16.ofInt (270)).toInt32 = pI (270) := by decide +kernel
theorem si_271 : (Int16.ofInt (271)).toInt32 = pI (271) := by decide +kernel
theorem si_272 : (Int16.ofInt (272)).toInt32 = pI (272) := by decide +kernel
theorem si_273 : (Int16.ofInt (273)).toInt32 = pI (273) := by decide +kernel
theorem si_274 : (Int16.ofInt (274)).toInt32 = pI (274) := by decide +kernel
theorem si_275 : (Int16.ofInt (275)).toInt32 = pI (275) := by decide +kernel
theorem si_276 : (Int16.ofInt (276)).toInt32 = pI (276) := by decide +kernel
theorem si_277 : (Int16.ofInt (277)).toInt32 = pI (277) := by decide +kernel
theorem si_278 : (Int16.ofInt (278)).toInt32 = pI (278) := by decide +kernel
theorem si_279 : (Int16.ofInt (279)).toInt32 = pI (279) := by decide +kernel
theorem si_280 : (Int16.ofInt (280)).toInt32 = pI (280) := by decide +kernel
theorem si_281 : (Int16.ofInt (281)).toInt32 = pI (281) := by decide +kernel
theorem si_282 : (Int16.ofInt (282)).toInt32 = pI (282) := by decide +kernel
theorem si_283 : (Int16.ofInt (283)).toInt32 = pI (283) := by decide +kernel
theorem si_284 : (Int16.ofInt (284)).toInt32 = pI (284) := by decide +kernel
theorem si_285 : (Int16.ofInt (285)).toInt32 = pI (285) := by decide +kernel
theorem si_286 : (Int16.ofInt (286)).toInt32 = pI (286) := by decide +kernel
theorem si_287 : (Int16.ofInt (287)).toInt32 = pI (287) := by decide +kernel
theorem si_288 : (Int16.ofInt (288)).toInt32 = pI (288) := by decide +kernel
theorem si_289 : (Int16.ofInt (289)).toInt32 = pI (289) := by decide +kernel
theorem si_290 : (Int16.ofInt (290)).toInt32 = pI (290) := by decide +kernel
theorem si_380 : (Int16.ofInt (380)).toInt32 = pI (380) := by decide +kernel
theorem si_400 : (Int16.ofInt (400)).toInt32 = pI (400) := by decide +kernel
theorem si_500 : (Int16.ofInt (500)).toInt32 = pI (500) := by decide +kernel
theorem si_750 : (Int16.ofInt (750)).toInt32 = pI (750) := by decide +kernel
theorem si_800 : (Int16.ofInt (800)).toInt32 = pI (800) := by decide +kernel
theorem si_999 : (Int16.ofInt (999)).toInt32 = pI (999) := by decide +kernel
theorem si_1000 : (Int16.ofInt (1000)).toInt32 = pI (1000) := by decide +kernel
theorem si_1234 : (Int16.ofInt (1234)).toInt32 = pI (1234) := by decide +kernel
theorem si_2048 : (Int16.ofInt (2048)).toInt32 = pI (2048) := by decide +kernel
theorem si_2197 : (Int16.ofInt (2197)).toInt32 = pI (2197) := by decide +kernel
theorem si_9990 : (Int16.ofInt (9990)).toInt32 = pI (9990) := by decide +kernel
theorem si_9999 : (Int16.ofInt (9999)).toInt32 = pI (9999) := by decide +kernel
theorem si_10000 : (Int16.ofInt (10000)).toInt32 = pI (10000) := by decide +kernel
theorem ki_43210 : ((43210) : Int32) = pI (43210) := by decide +kernel
theorem ki_1664525 : ((1664525) : Int32) = pI (1664525) := by decide +kernel
theorem ki_100000000 : ((100000000) : Int32) = pI (100000000) := by decide +kernel
theorem ki_252645135 : ((252645135) : Int32) = pI (252645135) := by decide +kernel
theorem ki_858993459 : ((858993459) : Int32) = pI (858993459) := by decide +kernel
theorem ki_1000000007 : ((1000000007) : Int32) = pI (1000000007) := by decide +kernel
theorem ki_1013904223 : ((1013904223) : Int32) = pI (1013904223) := by decide +kernel
theorem ki_1431655765 : ((1431655765) : Int32) = pI (1431655765) := by decide +kernel
theorem kl_0 : rl 0 := by unfold rl; omega
theorem kj_0 : ((0) : Int64) = pJ 0 := by decide +kernel
theorem kl_1 : rl 1 := by unfold rl; omega
theorem kj_1 : ((1) : Int64) = pJ 1 := by decide +kernel
theorem kl_2 : rl 2 := by unfold rl; omega
theorem kj_2 : ((2) : Int64) = pJ 2 := by decide +kernel
theorem kl_1000000007 : rl 1000000007 := by unfold rl; omega
theorem kj_1000000007 : ((1000000007) : Int64) = pJ 1000000007 := by decide +kernel
def SX : List Kd := [.inr (.inl (11, [3, 5, 19, 52, 54, 141, 151, 154, 155, 159, 173, 187, 201, 234, 0])), .inr (.inl (7, [4, 0])), .inl (1, 400), .inr (.inl (2, [0, 0, 0, 0, 0, 0, 6, 7, 8, 9, 10, 11, 12, 13, 14, 15, 16, 17, 18])), .inl (0, 12), .inl (0, 12), .inl (0, 12), .inl (0, 12), .inl (0, 12), .inl (0, 20), .inl (0, 20), .inl (0, 20), .inl (0, 20), .inl (0, 20), .inl (0, 20), .inl (0, 20), .inl (0, 20), .inr (.inl (9, [20, 22, 24, 26, 28, 30, 32, 34, 36, 38, 40, 42, 44, 46, 48, 50])), .inr (.inl (6, [0, 21, 0])), .inl (0, 64), .inr (.inl (6, [0, 23, 0])), .inl (0, 400), .inr (.inl (6, [0, 25, 0])), .inl (0, 64), .inr (.inl (6, [0, 27, 0])), .inl (0, 64), .inr (.inl (6, [0, 29, 0])), .inl (0, 64), .inr (.inl (6, [0, 31, 0])), .inl (0, 50), .inr (.inl (6, [0, 33, 0])), .inl (0, 10), .inr (.inl (6, [0, 35, 0])), .inl (0, 48), .inr (.inl (6, [0, 37, 0])), .inl (0, 8), .inr (.inl (6, [0, 39, 0])), .inl (0, 12), .inr (.inl (6, [0, 41, 0])), .inl (0, 24), .inr (.inl (6, [0, 43, 0])), .inl (0, 12), .inr (.inl (6, [0, 45, 0])), .inl (0, 12), .inr (.inl (6, [0, 47, 0])), .inl (0, 24), .inr (.inl (6, [0, 49, 0])), .inl (0, 8), .inr (.inl (6, [0, 51, 0])), .inl (0, 16), .inr (.inl (6, [0, 53, 0])), .inl (0, 750), .inr (.inl (10, [55, 56, 0, 0])), .inr (.inr [55, 69, 83, 97, 111, 125]), .inl (0, 6), .inr (.inl (2, [0, 0, 0, 0, 0, 0, 58, 59, 60, 61, 62, 63, 64, 65, 66, 67, 68, 69, 70])), .inl (0, 12), .inl (0, 12), .inl (0, 12), .inl (0, 12), .inl (0, 12), .inl (0, 20), .inl (0, 20), .inl (0, 20), .inl (0, 20), .inl (0, 20), .inl (0, 20), .inl (0, 20), .inl (0, 20), .inr (.inl (2, [0, 0, 0, 0, 0, 0, 72, 73, 74, 75, 76, 77, 78, 79, 80, 81, 82, 83, 84])), .inl (0, 12), .inl (0, 12), .inl (0, 12), .inl (0, 12), .inl (0, 12), .inl (0, 20), .inl (0, 20), .inl (0, 20), .inl (0, 20), .inl (0, 20), .inl (0, 20), .inl (0, 20), .inl (0, 20), .inr (.inl (2, [0, 0, 0, 0, 0, 0, 86, 87, 88, 89, 90, 91, 92, 93, 94, 95, 96, 97, 98])), .inl (0, 12), .inl (0, 12), .inl (0, 12), .inl (0, 12), .inl (0, 12), .inl (0, 20), .inl (0, 20), .inl (0, 20), .inl (0, 20), .inl (0, 20), .inl (0, 20), .inl (0, 20), .inl (0, 20), .inr (.inl (2, [0, 0, 0, 0, 0, 0, 100, 101, 102, 103, 104, 105, 106, 107, 108, 109, 110, 111, 112])), .inl (0, 12), .inl (0, 12), .inl (0, 12), .inl (0, 12), .inl (0, 12), .inl (0, 20), .inl (0, 20), .inl (0, 20), .inl (0, 20), .inl (0, 20), .inl (0, 20), .inl (0, 20), .inl (0, 20), .inr (.inl (2, [0, 0, 0, 0, 0, 0, 114, 115, 116, 117, 118, 119, 120, 121, 122, 123, 124, 125, 126])), .inl (0, 12), .inl (0, 12), .inl (0, 12), .inl (0, 12), .inl (0, 12), .inl (0, 20), .inl (0, 20), .inl (0, 20), .inl (0, 20), .inl (0, 20), .inl (0, 20), .inl (0, 20), .inl (0, 20), .inr (.inl (2, [0, 0, 0, 0, 0, 0, 128, 129, 130, 131, 132, 133, 134, 135, 136, 137, 138, 139, 140])), .inl (0, 12), .inl (0, 12), .inl (0, 12), .inl (0, 12), .inl (0, 12), .inl (0, 20), .inl (0, 20), .inl (0, 20), .inl (0, 20), .inl (0, 20), .inl (0, 20), .inl (0, 20), .inl (0, 20), .inr (.inl (5, [147, 5, 142, 144, 146, 0, 0, 0, 0])), .inr (.inl (6, [0, 143, 0])), .inl (0, 64), .inr (.inl (6, [0, 145, 0])), .inl (0, 400), .inl (0, 28), .inr (.inl (8, [3, 148, 149, 150, 0, 0])), .inl (0, 401), .inl (0, 401), .inl (0, 401), .inr (.inl (3, [5, 20, 22, 152, 153])), .inl (0, 10), .inl (0, 40), .inr (.inl (1, [5, 19, 151, 52, 0])), .inr (.inl (0, [30, 156, 157, 158])), .inl (0, 5), .inl (0, 5), .inl (0, 5), .inr (.inl (4, [19, 160, 161, 162, 163, 164, 165, 166, 167, 168, 169, 170, 171, 172, 0])), .inl (0, 256), .inl (0, 256), .inl (0, 2048), .inl (0, 12), .inl (0, 8), .inl (2, 41), .inl (2, 13), .inl (0, 169), .inl (0, 169), .inl (0, 3), .inl (0, 3), .inl (0, 9), .inl (0, 9), .inr (.inl (2, [0, 0, 0, 0, 0, 0, 174, 175, 176, 177, 178, 179, 180, 181, 182, 183, 184, 185, 186])), .inl (0, 12), .inl (0, 12), .inl (0, 12), .inl (0, 12), .inl (0, 12), .inl (0, 20), .inl (0, 20), .inl (0, 20), .inl (0, 20), .inl (0, 20), .inl (0, 20), .inl (0, 20), .inl (0, 20), .inr (.inl (2, [0, 0, 0, 0, 0, 0, 188, 189, 190, 191, 192, 193, 194, 195, 196, 197, 198, 199, 200])), .inl (0, 12), .inl (0, 12), .inl (0, 12), .inl (0, 12), .inl (0, 12), .inl (0, 20), .inl (0, 20), .inl (0, 20), .inl (0, 20), .inl (0, 20), .inl (0, 20), .inl (0, 20), .inl (0, 20), .inr (.inl (9, [202, 204, 206, 208, 210, 212, 214, 216, 218, 220, 222, 224, 226, 228, 230, 232])), .inr (.inl (6, [0, 203, 0])), .inl (0, 64), .inr (.inl (6, [0, 205, 0])), .inl (0, 400), .inr (.inl (6, [0, 207, 0])), .inl (0, 64), .inr (.inl (6, [0, 209, 0])), .inl (0, 64), .inr (.inl (6, [0, 211, 0])), .inl (0, 64), .inr (.inl (6, [0, 213, 0])), .inl (0, 50), .inr (.inl (6, [0, 215, 0])), .inl (0, 10), .inr (.inl (6, [0, 217, 0])), .inl (0, 48), .inr (.inl (6, [0, 219, 0])), .inl (0, 8), .inr (.inl (6, [0, 221, 0])), .inl (0, 12), .inr (.inl (6, [0, 223, 0])), .inl (0, 24), .inr (.inl (6, [0, 225, 0])), .inl (0, 12), .inr (.inl (6, [0, 227, 0])), .inl (0, 12), .inr (.inl (6, [0, 229, 0])), .inl (0, 24), .inr (.inl (6, [0, 231, 0])), .inl (0, 8), .inr (.inl (6, [0, 233, 0])), .inl (0, 16), .inr (.inl (6, [0, 235, 0])), .inl (0, 750)]
def SM : List Kd := [.inr (.inl (12, [0, 3, 4, 0, 5, 0, 0, 0, 6, 7, 8, 9, 10, 0, 0, 0, 0, 0, 11, 12, 13, 14, 15, 16, 17, 18, 0, 0, 0, 19, 0, 0, 0, 0, 0, 0, 20, 0, 21, 0, 22, 23, 24, 25, 26, 27, 28, 29, 30, 0, 31, 32, 0, 33, 34, 35, 36, 37, 0, 38, 39, 40, 0, 41, 0, 42, 43, 44, 45, 46, 0, 47, 0, 48, 49, 50, 51, 52, 53, 54, 55, 56, 57, 0, 0, 0, 58])), .inl (0, 161), .inl (0, 966), .inl (0, 161), .inl (0, 12), .inl (0, 20), .inl (0, 20), .inl (0, 750), .inl (0, 400), .inl (0, 152), .inl (0, 2), .inl (0, 48), .inl (0, 48), .inl (0, 48), .inl (0, 48), .inl (0, 1200), .inl (0, 1200), .inl (0, 40), .inl (0, 128), .inl (0, 128), .inl (0, 288), .inl (0, 10), .inl (0, 420), .inl (0, 10), .inl (0, 50), .inl (0, 50), .inl (0, 5), .inl (0, 5), .inl (0, 9), .inl (0, 5), .inl (0, 5), .inl (0, 12), .inl (0, 12), .inl (0, 12), .inl (0, 12), .inl (0, 8), .inl (0, 8), .inl (0, 256), .inl (0, 4), .inl (0, 12), .inl (0, 24), .inl (0, 16), .inl (0, 3), .inl (0, 72), .inl (0, 169), .inl (0, 8), .inl (0, 8), .inl (0, 2048), .inl (0, 12), .inl (0, 41), .inl (0, 3), .inl (0, 3), .inl (0, 2197), .inl (0, 2197), .inl (0, 9), .inl (0, 40401), .inl (0, 2600)]
theorem sx_0 : SX[0]? = some (.inr (.inl (11, [3, 5, 19, 52, 54, 141, 151, 154, 155, 159, 173, 187, 201, 234, 0]))) := rfl
theorem sx_1 : SX[1]? = some (.inr (.inl (7, [4, 0]))) := rfl
theorem sx_2 : SX[2]? = some (.inl (1, 400)) := rfl
theorem sx_3 : SX[3]? = some (.inr (.inl (2, [0, 0, 0, 0, 0, 0, 6, 7, 8, 9, 10, 11, 12, 13, 14, 15, 16, 17, 18]))) := rfl
theorem sx_4 : SX[4]? = some (.inl (0, 12)) := rfl
theorem sx_5 : SX[5]? = some (.inl (0, 12)) := rfl
theorem sx_6 : SX[6]? = some (.inl (0, 12)) := rfl
theorem sx_7 : SX[7]? = some (.inl (0, 12)) := rfl
theorem sx_8 : SX[8]? = some (.inl (0, 12)) := rfl
theorem sx_9 : SX[9]? = some (.inl (0, 20)) := rfl
theorem sx_10 : SX[10]? = some (.inl (0, 20)) := rfl
theorem sx_11 : SX[11]? = some (.inl (0, 20)) := rfl
theorem sx_12 : SX[12]? = some (.inl (0, 20)) := rfl
theorem sx_13 : SX[13]? = some (.inl (0, 20)) := rfl
theorem sx_14 : SX[14]? = some (.inl (0, 20)) := rfl
theorem sx_15 : SX[15]? = some (.inl (0, 20)) := rfl
theorem sx_16 : SX[16]? = some (.inl (0, 20)) := rfl
theorem sx_17 : SX[17]? = some (.inr (.inl (9, [20, 22, 24, 26, 28, 30, 32, 34, 36, 38, 40, 42, 44, 46, 48, 50]))) := rfl
theorem sx_18 : SX[18]? = some (.inr (.inl (6, [0, 21, 0]))) := rfl
theorem sx_19 : SX[19]? = some (.inl (0, 64)) := rfl
theorem sx_20 : SX[20]? = some (.inr (.inl (6, [0, 23, 0]))) := rfl
theorem sx_21 : SX[21]? = some (.inl (0, 400)) := rfl
theorem sx_22 : SX[22]? = some (.inr (.inl (6, [0, 25, 0]))) := rfl
theorem sx_23 : SX[23]? = some (.inl (0, 64)) := rfl
theorem sx_24 : SX[24]? = some (.inr (.inl (6, [0, 27, 0]))) := rfl
theorem sx_25 : SX[25]? = some (.inl (0, 64)) := rfl
theorem sx_26 : SX[26]? = some (.inr (.inl (6, [0, 29, 0]))) := rfl
theorem sx_27 : SX[27]? = some (.inl (0, 64)) := rfl
theorem sx_28 : SX[28]? = some (.inr (.inl (6, [0, 31, 0]))) := rfl
theorem sx_29 : SX[29]? = some (.inl (0, 50)) := rfl
theorem sx_30 : SX[30]? = some (.inr (.inl (6, [0, 33, 0]))) := rfl
theorem sx_31 : SX[31]? = some (.inl (0, 10)) := rfl
theorem sx_32 : SX[32]? = some (.inr (.inl (6, [0, 35, 0]))) := rfl
theorem sx_33 : SX[33]? = some (.inl (0, 48)) := rfl
theorem sx_34 : SX[34]? = some (.inr (.inl (6, [0, 37, 0]))) := rfl
theorem sx_35 : SX[35]? = some (.inl (0, 8)) := rfl
theorem sx_36 : SX[36]? = some (.inr (.inl (6, [0, 39, 0]))) := rfl
theorem sx_37 : SX[37]? = some (.inl (0, 12)) := rfl
theorem sx_38 : SX[38]? = some (.inr (.inl (6, [0, 41, 0]))) := rfl
theorem sx_39 : SX[39]? = some (.inl (0, 24)) := rfl
theorem sx_40 : SX[40]? = some (.inr (.inl (6, [0, 43, 0]))) := rfl
theorem sx_41 : SX[41]? = some (.inl (0, 12)) := rfl
theorem sx_42 : SX[42]? = some (.inr (.inl (6, [0, 45, 0]))) := rfl
theorem sx_43 : SX[43]? = some (.inl (0, 12)) := rfl
theorem sx_44 : SX[44]? = some (.inr (.inl (6, [0, 47, 0]))) := rfl
theorem sx_45 : SX[45]? = some (.inl (0, 24)) := rfl
theorem sx_46 : SX[46]? = some (.inr (.inl (6, [0, 49, 0]))) := rfl
theorem sx_47 : SX[47]? = some (.inl (0, 8)) := rfl
theorem sx_48 : SX[48]? = some (.inr (.inl (6, [0, 51, 0]))) := rfl
theorem sx_49 : SX[49]? = some (.inl (0, 16)) := rfl
theorem sx_50 : SX[50]? = some (.inr (.inl (6, [0, 53, 0]))) := rfl
theorem sx_51 : SX[51]? = some (.inl (0, 750)) := rfl
theorem sx_52 : SX[52]? = some (.inr (.inl (10, [55, 56, 0, 0]))) := rfl
theorem sx_53 : SX[53]? = some (.inr (.inr [55, 69, 83, 97, 111, 125])) := rfl
theorem sx_54 : SX[54]? = some (.inl (0, 6)) := rfl
theorem sx_55 : SX[55]? = some (.inr (.inl (2, [0, 0, 0, 0, 0, 0, 58, 59, 60, 61, 62, 63, 64, 65, 66, 67, 68, 69, 70]))) := rfl
theorem sx_56 : SX[56]? = some (.inl (0, 12)) := rfl
theorem sx_57 : SX[57]? = some (.inl (0, 12)) := rfl
theorem sx_58 : SX[58]? = some (.inl (0, 12)) := rfl
theorem sx_59 : SX[59]? = some (.inl (0, 12)) := rfl
theorem sx_60 : SX[60]? = some (.inl (0, 12)) := rfl
theorem sx_61 : SX[61]? = some (.inl (0, 20)) := rfl
theorem sx_62 : SX[62]? = some (.inl (0, 20)) := rfl
theorem sx_63 : SX[63]? = some (.inl (0, 20)) := rfl
theorem sx_64 : SX[64]? = some (.inl (0, 20)) := rfl
theorem sx_65 : SX[65]? = some (.inl (0, 20)) := rfl
theorem sx_66 : SX[66]? = some (.inl (0, 20)) := rfl
theorem sx_67 : SX[67]? = some (.inl (0, 20)) := rfl
theorem sx_68 : SX[68]? = some (.inl (0, 20)) := rfl
theorem sx_69 : SX[69]? = some (.inr (.inl (2, [0, 0, 0, 0, 0, 0, 72, 73, 74, 75, 76, 77, 78, 79, 80, 81, 82, 83, 84]))) := rfl
theorem sx_70 : SX[70]? = some (.inl (0, 12)) := rfl
theorem sx_71 : SX[71]? = some (.inl (0, 12)) := rfl
theorem sx_72 : SX[72]? = some (.inl (0, 12)) := rfl
theorem sx_73 : SX[73]? = some (.inl (0, 12)) := rfl
theorem sx_74 : SX[74]? = some (.inl (0, 12)) := rfl
theorem sx_75 : SX[75]? = some (.inl (0, 20)) := rfl
theorem sx_76 : SX[76]? = some (.inl (0, 20)) := rfl
theorem sx_77 : SX[77]? = some (.inl (0, 20)) := rfl
theorem sx_78 : SX[78]? = some (.inl (0, 20)) := rfl
theorem sx_79 : SX[79]? = some (.inl (0, 20)) := rfl
theorem sx_80 : SX[80]? = some (.inl (0, 20)) := rfl
theorem sx_81 : SX[81]? = some (.inl (0, 20)) := rfl
theorem sx_82 : SX[82]? = some (.inl (0, 20)) := rfl
theorem sx_83 : SX[83]? = some (.inr (.inl (2, [0, 0, 0, 0, 0, 0, 86, 87, 88, 89, 90, 91, 92, 93, 94, 95, 96, 97, 98]))) := rfl
theorem sx_84 : SX[84]? = some (.inl (0, 12)) := rfl
theorem sx_85 : SX[85]? = some (.inl (0, 12)) := rfl
theorem sx_86 : SX[86]? = some (.inl (0, 12)) := rfl
theorem sx_87 : SX[87]? = some (.inl (0, 12)) := rfl
theorem sx_88 : SX[88]? = some (.inl (0, 12)) := rfl
theorem sx_89 : SX[89]? = some (.inl (0, 20)) := rfl
theorem sx_90 : SX[90]? = some (.inl (0, 20)) := rfl
theorem sx_91 : SX[91]? = some (.inl (0, 20)) := rfl
theorem sx_92 : SX[92]? = some (.inl (0, 20)) := rfl
theorem sx_93 : SX[93]? = some (.inl (0, 20)) := rfl
theorem sx_94 : SX[94]? = some (.inl (0, 20)) := rfl
theorem sx_95 : SX[95]? = some (.inl (0, 20)) := rfl
theorem sx_96 : SX[96]? = some (.inl (0, 20)) := rfl
theorem sx_97 : SX[97]? = some (.inr (.inl (2, [0, 0, 0, 0, 0, 0, 100, 101, 102, 103, 104, 105, 106, 107, 108, 109, 110, 111, 112]))) := rfl
theorem sx_98 : SX[98]? = some (.inl (0, 12)) := rfl
theorem sx_99 : SX[99]? = some (.inl (0, 12)) := rfl
theorem sx_100 : SX[100]? = some (.inl (0, 12)) := rfl
theorem sx_101 : SX[101]? = some (.inl (0, 12)) := rfl
theorem sx_102 : SX[102]? = some (.inl (0, 12)) := rfl
theorem sx_103 : SX[103]? = some (.inl (0, 20)) := rfl
theorem sx_104 : SX[104]? = some (.inl (0, 20)) := rfl
theorem sx_105 : SX[105]? = some (.inl (0, 20)) := rfl
theorem sx_106 : SX[106]? = some (.inl (0, 20)) := rfl
theorem sx_107 : SX[107]? = some (.inl (0, 20)) := rfl
theorem sx_108 : SX[108]? = some (.inl (0, 20)) := rfl
theorem sx_109 : SX[109]? = some (.inl (0, 20)) := rfl
theorem sx_110 : SX[110]? = some (.inl (0, 20)) := rfl
theorem sx_111 : SX[111]? = some (.inr (.inl (2, [0, 0, 0, 0, 0, 0, 114, 115, 116, 117, 118, 119, 120, 121, 122, 123, 124, 125, 126]))) := rfl
theorem sx_112 : SX[112]? = some (.inl (0, 12)) := rfl
theorem sx_113 : SX[113]? = some (.inl (0, 12)) := rfl
theorem sx_114 : SX[114]? = some (.inl (0, 12)) := rfl
theorem sx_115 : SX[115]? = some (.inl (0, 12)) := rfl
theorem sx_116 : SX[116]? = some (.inl (0, 12)) := rfl
theorem sx_117 : SX[117]? = some (.inl (0, 20)) := rfl
theorem sx_118 : SX[118]? = some (.inl (0, 20)) := rfl
theorem sx_119 : SX[119]? = some (.inl (0, 20)) := rfl
theorem sx_120 : SX[120]? = some (.inl (0, 20)) := rfl
theorem sx_121 : SX[121]? = some (.inl (0, 20)) := rfl
theorem sx_122 : SX[122]? = some (.inl (0, 20)) := rfl
theorem sx_123 : SX[123]? = some (.inl (0, 20)) := rfl
theorem sx_124 : SX[124]? = some (.inl (0, 20)) := rfl
theorem sx_125 : SX[125]? = some (.inr (.inl (2, [0, 0, 0, 0, 0, 0, 128, 129, 130, 131, 132, 133, 134, 135, 136, 137, 138, 139, 140]))) := rfl
theorem sx_126 : SX[126]? = some (.inl (0, 12)) := rfl
theorem sx_127 : SX[127]? = some (.inl (0, 12)) := rfl
theorem sx_128 : SX[128]? = some (.inl (0, 12)) := rfl
theorem sx_129 : SX[129]? = some (.inl (0, 12)) := rfl
theorem sx_130 : SX[130]? = some (.inl (0, 12)) := rfl
theorem sx_131 : SX[131]? = some (.inl (0, 20)) := rfl
theorem sx_132 : SX[132]? = some (.inl (0, 20)) := rfl
theorem sx_133 : SX[133]? = some (.inl (0, 20)) := rfl
theorem sx_134 : SX[134]? = some (.inl (0, 20)) := rfl
theorem sx_135 : SX[135]? = some (.inl (0, 20)) := rfl
theorem sx_136 : SX[136]? = some (.inl (0, 20)) := rfl
theorem sx_137 : SX[137]? = some (.inl (0, 20)) := rfl
theorem sx_138 : SX[138]? = some (.inl (0, 20)) := rfl
theorem sx_139 : SX[139]? = some (.inr (.inl (5, [147, 5, 142, 144, 146, 0, 0, 0, 0]))) := rfl
theorem sx_140 : SX[140]? = some (.inr (.inl (6, [0, 143, 0]))) := rfl
theorem sx_141 : SX[141]? = some (.inl (0, 64)) := rfl
theorem sx_142 : SX[142]? = some (.inr (.inl (6, [0, 145, 0]))) := rfl
theorem sx_143 : SX[143]? = some (.inl (0, 400)) := rfl
theorem sx_144 : SX[144]? = some (.inl (0, 28)) := rfl
theorem sx_145 : SX[145]? = some (.inr (.inl (8, [3, 148, 149, 150, 0, 0]))) := rfl
theorem sx_146 : SX[146]? = some (.inl (0, 401)) := rfl
theorem sx_147 : SX[147]? = some (.inl (0, 401)) := rfl
theorem sx_148 : SX[148]? = some (.inl (0, 401)) := rfl
theorem sx_149 : SX[149]? = some (.inr (.inl (3, [5, 20, 22, 152, 153]))) := rfl
theorem sx_150 : SX[150]? = some (.inl (0, 10)) := rfl
theorem sx_151 : SX[151]? = some (.inl (0, 40)) := rfl
theorem sx_152 : SX[152]? = some (.inr (.inl (1, [5, 19, 151, 52, 0]))) := rfl
theorem sx_153 : SX[153]? = some (.inr (.inl (0, [30, 156, 157, 158]))) := rfl
theorem sx_154 : SX[154]? = some (.inl (0, 5)) := rfl
theorem sx_155 : SX[155]? = some (.inl (0, 5)) := rfl
theorem sx_156 : SX[156]? = some (.inl (0, 5)) := rfl
theorem sx_157 : SX[157]? = some (.inr (.inl (4, [19, 160, 161, 162, 163, 164, 165, 166, 167, 168, 169, 170, 171, 172, 0]))) := rfl
theorem sx_158 : SX[158]? = some (.inl (0, 256)) := rfl
theorem sx_159 : SX[159]? = some (.inl (0, 256)) := rfl
theorem sx_160 : SX[160]? = some (.inl (0, 2048)) := rfl
theorem sx_161 : SX[161]? = some (.inl (0, 12)) := rfl
theorem sx_162 : SX[162]? = some (.inl (0, 8)) := rfl
theorem sx_163 : SX[163]? = some (.inl (2, 41)) := rfl
theorem sx_164 : SX[164]? = some (.inl (2, 13)) := rfl
theorem sx_165 : SX[165]? = some (.inl (0, 169)) := rfl
theorem sx_166 : SX[166]? = some (.inl (0, 169)) := rfl
theorem sx_167 : SX[167]? = some (.inl (0, 3)) := rfl
theorem sx_168 : SX[168]? = some (.inl (0, 3)) := rfl
theorem sx_169 : SX[169]? = some (.inl (0, 9)) := rfl
theorem sx_170 : SX[170]? = some (.inl (0, 9)) := rfl
theorem sx_171 : SX[171]? = some (.inr (.inl (2, [0, 0, 0, 0, 0, 0, 174, 175, 176, 177, 178, 179, 180, 181, 182, 183, 184, 185, 186]))) := rfl
theorem sx_172 : SX[172]? = some (.inl (0, 12)) := rfl
theorem sx_173 : SX[173]? = some (.inl (0, 12)) := rfl
theorem sx_174 : SX[174]? = some (.inl (0, 12)) := rfl
theorem sx_175 : SX[175]? = some (.inl (0, 12)) := rfl
theorem sx_176 : SX[176]? = some (.inl (0, 12)) := rfl
theorem sx_177 : SX[177]? = some (.inl (0, 20)) := rfl
theorem sx_178 : SX[178]? = some (.inl (0, 20)) := rfl
theorem sx_179 : SX[179]? = some (.inl (0, 20)) := rfl
theorem sx_180 : SX[180]? = some (.inl (0, 20)) := rfl
theorem sx_181 : SX[181]? = some (.inl (0, 20)) := rfl
theorem sx_182 : SX[182]? = some (.inl (0, 20)) := rfl
theorem sx_183 : SX[183]? = some (.inl (0, 20)) := rfl
theorem sx_184 : SX[184]? = some (.inl (0, 20)) := rfl
theorem sx_185 : SX[185]? = some (.inr (.inl (2, [0, 0, 0, 0, 0, 0, 188, 189, 190, 191, 192, 193, 194, 195, 196, 197, 198, 199, 200]))) := rfl
theorem sx_186 : SX[186]? = some (.inl (0, 12)) := rfl
theorem sx_187 : SX[187]? = some (.inl (0, 12)) := rfl
theorem sx_188 : SX[188]? = some (.inl (0, 12)) := rfl
theorem sx_189 : SX[189]? = some (.inl (0, 12)) := rfl
theorem sx_190 : SX[190]? = some (.inl (0, 12)) := rfl
theorem sx_191 : SX[191]? = some (.inl (0, 20)) := rfl
theorem sx_192 : SX[192]? = some (.inl (0, 20)) := rfl
theorem sx_193 : SX[193]? = some (.inl (0, 20)) := rfl
theorem sx_194 : SX[194]? = some (.inl (0, 20)) := rfl
theorem sx_195 : SX[195]? = some (.inl (0, 20)) := rfl
theorem sx_196 : SX[196]? = some (.inl (0, 20)) := rfl
theorem sx_197 : SX[197]? = some (.inl (0, 20)) := rfl
theorem sx_198 : SX[198]? = some (.inl (0, 20)) := rfl
theorem sx_199 : SX[199]? = some (.inr (.inl (9, [202, 204, 206, 208, 210, 212, 214, 216, 218, 220, 222, 224, 226, 228, 230, 232]))) := rfl
theorem sx_200 : SX[200]? = some (.inr (.inl (6, [0, 203, 0]))) := rfl
theorem sx_201 : SX[201]? = some (.inl (0, 64)) := rfl
theorem sx_202 : SX[202]? = some (.inr (.inl (6, [0, 205, 0]))) := rfl
theorem sx_203 : SX[203]? = some (.inl (0, 400)) := rfl
theorem sx_204 : SX[204]? = some (.inr (.inl (6, [0, 207, 0]))) := rfl
theorem sx_205 : SX[205]? = some (.inl (0, 64)) := rfl
theorem sx_206 : SX[206]? = some (.inr (.inl (6, [0, 209, 0]))) := rfl
theorem sx_207 : SX[207]? = some (.inl (0, 64)) := rfl
theorem sx_208 : SX[208]? = some (.inr (.inl (6, [0, 211, 0]))) := rfl
theorem sx_209 : SX[209]? = some (.inl (0, 64)) := rfl
theorem sx_210 : SX[210]? = some (.inr (.inl (6, [0, 213, 0]))) := rfl
theorem sx_211 : SX[211]? = some (.inl (0, 50)) := rfl
theorem sx_212 : SX[212]? = some (.inr (.inl (6, [0, 215, 0]))) := rfl
theorem sx_213 : SX[213]? = some (.inl (0, 10)) := rfl
theorem sx_214 : SX[214]? = some (.inr (.inl (6, [0, 217, 0]))) := rfl
theorem sx_215 : SX[215]? = some (.inl (0, 48)) := rfl
theorem sx_216 : SX[216]? = some (.inr (.inl (6, [0, 219, 0]))) := rfl
theorem sx_217 : SX[217]? = some (.inl (0, 8)) := rfl
theorem sx_218 : SX[218]? = some (.inr (.inl (6, [0, 221, 0]))) := rfl
theorem sx_219 : SX[219]? = some (.inl (0, 12)) := rfl
theorem sx_220 : SX[220]? = some (.inr (.inl (6, [0, 223, 0]))) := rfl
theorem sx_221 : SX[221]? = some (.inl (0, 24)) := rfl
theorem sx_222 : SX[222]? = some (.inr (.inl (6, [0, 225, 0]))) := rfl
theorem sx_223 : SX[223]? = some (.inl (0, 12)) := rfl
theorem sx_224 : SX[224]? = some (.inr (.inl (6, [0, 227, 0]))) := rfl
theorem sx_225 : SX[225]? = some (.inl (0, 12)) := rfl
theorem sx_226 : SX[226]? = some (.inr (.inl (6, [0, 229, 0]))) := rfl
theorem sx_227 : SX[227]? = some (.inl (0, 24)) := rfl
theorem sx_228 : SX[228]? = some (.inr (.inl (6, [0, 231, 0]))) := rfl
theorem sx_229 : SX[229]? = some (.inl (0, 8)) := rfl
theorem sx_230 : SX[230]? = some (.inr (.inl (6, [0, 233, 0]))) := rfl
theorem sx_231 : SX[231]? = some (.inl (0, 16)) := rfl
theorem sx_232 : SX[232]? = some (.inr (.inl (6, [0, 235, 0]))) := rfl
theorem sx_233 : SX[233]? = some (.inl (0, 750)) := rfl
theorem sm_0 : SM[0]? = some (.inr (.inl (12, [0, 3, 4, 0, 5, 0, 0, 0, 6, 7, 8, 9, 10, 0, 0, 0, 0, 0, 11, 12, 13, 14, 15, 16, 17, 18, 0, 0, 0, 19, 0, 0, 0, 0, 0, 0, 20, 0, 21, 0, 22, 23, 24, 25, 26, 27, 28, 29, 30, 0, 31, 32, 0, 33, 34, 35, 36, 37, 0, 38, 39, 40, 0, 41, 0, 42, 43, 44, 45, 46, 0, 47, 0, 48, 49, 50, 51, 52, 53, 54, 55, 56, 57, 0, 0, 0, 58]))) := rfl
theorem sm_1 : SM[1]? = some (.inl (0, 161)) := rfl
theorem sm_2 : SM[2]? = some (.inl (0, 966)) := rfl
theorem sm_3 : SM[3]? = some (.inl (0, 161)) := rfl
theorem sm_4 : SM[4]? = some (.inl (0, 12)) := rfl
theorem sm_5 : SM[5]? = some (.inl (0, 20)) := rfl
theorem sm_6 : SM[6]? = some (.inl (0, 20)) := rfl
theorem sm_7 : SM[7]? = some (.inl (0, 750)) := rfl
theorem sm_8 : SM[8]? = some (.inl (0, 400)) := rfl
theorem sm_9 : SM[9]? = some (.inl (0, 152)) := rfl
theorem sm_10 : SM[10]? = some (.inl (0, 2)) := rfl
theorem sm_11 : SM[11]? = some (.inl (0, 48)) := rfl
theorem sm_12 : SM[12]? = some (.inl (0, 48)) := rfl
theorem sm_13 : SM[13]? = some (.inl (0, 48)) := rfl
theorem sm_14 : SM[14]? = some (.inl (0, 48)) := rfl
theorem sm_15 : SM[15]? = some (.inl (0, 1200)) := rfl
theorem sm_16 : SM[16]? = some (.inl (0, 1200)) := rfl
theorem sm_17 : SM[17]? = some (.inl (0, 40)) := rfl
theorem sm_18 : SM[18]? = some (.inl (0, 128)) := rfl
theorem sm_19 : SM[19]? = some (.inl (0, 128)) := rfl
theorem sm_20 : SM[20]? = some (.inl (0, 288)) := rfl
theorem sm_21 : SM[21]? = some (.inl (0, 10)) := rfl
theorem sm_22 : SM[22]? = some (.inl (0, 420)) := rfl
theorem sm_23 : SM[23]? = some (.inl (0, 10)) := rfl
theorem sm_24 : SM[24]? = some (.inl (0, 50)) := rfl
theorem sm_25 : SM[25]? = some (.inl (0, 50)) := rfl
theorem sm_26 : SM[26]? = some (.inl (0, 5)) := rfl
theorem sm_27 : SM[27]? = some (.inl (0, 5)) := rfl
theorem sm_28 : SM[28]? = some (.inl (0, 9)) := rfl
theorem sm_29 : SM[29]? = some (.inl (0, 5)) := rfl
theorem sm_30 : SM[30]? = some (.inl (0, 5)) := rfl
theorem sm_31 : SM[31]? = some (.inl (0, 12)) := rfl
theorem sm_32 : SM[32]? = some (.inl (0, 12)) := rfl
theorem sm_33 : SM[33]? = some (.inl (0, 12)) := rfl
theorem sm_34 : SM[34]? = some (.inl (0, 12)) := rfl
theorem sm_35 : SM[35]? = some (.inl (0, 8)) := rfl
theorem sm_36 : SM[36]? = some (.inl (0, 8)) := rfl
theorem sm_37 : SM[37]? = some (.inl (0, 256)) := rfl
theorem sm_38 : SM[38]? = some (.inl (0, 4)) := rfl
theorem sm_39 : SM[39]? = some (.inl (0, 12)) := rfl
theorem sm_40 : SM[40]? = some (.inl (0, 24)) := rfl
theorem sm_41 : SM[41]? = some (.inl (0, 16)) := rfl
theorem sm_42 : SM[42]? = some (.inl (0, 3)) := rfl
theorem sm_43 : SM[43]? = some (.inl (0, 72)) := rfl
theorem sm_44 : SM[44]? = some (.inl (0, 169)) := rfl
theorem sm_45 : SM[45]? = some (.inl (0, 8)) := rfl
theorem sm_46 : SM[46]? = some (.inl (0, 8)) := rfl
theorem sm_47 : SM[47]? = some (.inl (0, 2048)) := rfl
theorem sm_48 : SM[48]? = some (.inl (0, 12)) := rfl
theorem sm_49 : SM[49]? = some (.inl (0, 41)) := rfl
theorem sm_50 : SM[50]? = some (.inl (0, 3)) := rfl
theorem sm_51 : SM[51]? = some (.inl (0, 3)) := rfl
theorem sm_52 : SM[52]? = some (.inl (0, 2197)) := rfl
theorem sm_53 : SM[53]? = some (.inl (0, 2197)) := rfl
theorem sm_54 : SM[54]? = some (.inl (0, 9)) := rfl
theorem sm_55 : SM[55]? = some (.inl (0, 40401)) := rfl
theorem sm_56 : SM[56]? = some (.inl (0, 2600)) := rfl
def keptIds : List Nat := [55, 69, 83, 97, 111, 125]
theorem ish_3 : isH SX 3 := ⟨sx_3, sx_4, sx_5, sx_6, sx_7, sx_8, sx_9, sx_10, sx_11, sx_12, sx_13, sx_14, sx_15, sx_16⟩
theorem ish_55 : isH SX 55 := ⟨sx_55, sx_56, sx_57, sx_58, sx_59, sx_60, sx_61, sx_62, sx_63, sx_64, sx_65, sx_66, sx_67, sx_68⟩
theorem ish_69 : isH SX 69 := ⟨sx_69, sx_70, sx_71, sx_72, sx_73, sx_74, sx_75, sx_76, sx_77, sx_78, sx_79, sx_80, sx_81, sx_82⟩
theorem ish_83 : isH SX 83 := ⟨sx_83, sx_84, sx_85, sx_86, sx_87, sx_88, sx_89, sx_90, sx_91, sx_92, sx_93, sx_94, sx_95, sx_96⟩
theorem ish_97 : isH SX 97 := ⟨sx_97, sx_98, sx_99, sx_100, sx_101, sx_102, sx_103, sx_104, sx_105, sx_106, sx_107, sx_108, sx_109, sx_110⟩
theorem ish_111 : isH SX 111 := ⟨sx_111, sx_112, sx_113, sx_114, sx_115, sx_116, sx_117, sx_118, sx_119, sx_120, sx_121, sx_122, sx_123, sx_124⟩
theorem ish_125 : isH SX 125 := ⟨sx_125, sx_126, sx_127, sx_128, sx_129, sx_130, sx_131, sx_132, sx_133, sx_134, sx_135, sx_136, sx_137, sx_138⟩
theorem ish_171 : isH SX 171 := ⟨sx_171, sx_172, sx_173, sx_174, sx_175, sx_176, sx_177, sx_178, sx_179, sx_180, sx_181, sx_182, sx_183, sx_184⟩
theorem ish_185 : isH SX 185 := ⟨sx_185, sx_186, sx_187, sx_188, sx_189, sx_190, sx_191, sx_192, sx_193, sx_194, sx_195, sx_196, sx_197, sx_198⟩
theorem isH_kept {q : Nat} (h : q ∈ keptIds) : isH SX q := by
  simp only [keptIds, List.mem_cons, List.not_mem_nil, or_false] at h
  rcases h with rfl | rfl | rfl | rfl | rfl | rfl
  · exact ish_55
  · exact ish_69
  · exact ish_83
  · exact ish_97
  · exact ish_111
  · exact ish_125
theorem isR_lines {r : Int} (h : r = 18 ∨ r = 22 ∨ r = 24 ∨ r = 26) : isR SX r.toNat (r.toNat + 1) 64 := by
  rcases h with rfl | rfl | rfl | rfl
  · exact ⟨sx_18, sx_19, by decide⟩
  · exact ⟨sx_22, sx_23, by decide⟩
  · exact ⟨sx_24, sx_25, by decide⟩
  · exact ⟨sx_26, sx_27, by decide⟩
def halfLen (r : Int) : Nat := if r = 44 then 24 else 12
theorem isR_half {r : Int} (h : r = 40 ∨ r = 42 ∨ r = 44) : isR SX r.toNat (r.toNat + 1) (halfLen r) := by
  rcases h with rfl | rfl | rfl
  · exact ⟨sx_40, sx_41, by decide⟩
  · exact ⟨sx_42, sx_43, by decide⟩
  · exact ⟨sx_44, sx_45, by decide⟩
theorem wJ0_charAt_5068e : WV yJ0_charAt_5068e cJ0_charAt_5068e 2 (some .char) 1 := ⟨q_967, q_968, q_175, q_969, by decide +kernel, by decide +kernel, by decide +kernel⟩
theorem wJ0_checkIndex_df160 : WS yJ0_checkIndex_df160 cJ0_checkIndex_df160 2 none 2 := ⟨q_978, q_175, q_979, by decide +kernel, by decide +kernel, by decide +kernel⟩
theorem wJ0_coder_7d493 : WV yJ0_coder_7d493 cJ0_coder_7d493 1 (some .byte) 0 := ⟨q_961, q_962, q_175, q_963, by decide +kernel, by decide +kernel, by decide +kernel⟩
theorem wJ0_isLatin1_aae02 : WV yJ0_isLatin1_aae02 cJ0_isLatin1_aae02 1 (some .boolean) 0 := ⟨q_971, q_972, q_175, q_973, by decide +kernel, by decide +kernel, by decide +kernel⟩
theorem wJ0_length_8abf5 : WV yJ0_length_8abf5 cJ0_length_8abf5 1 (some .int) 0 := ⟨q_957, q_958, q_175, q_959, by decide +kernel, by decide +kernel, by decide +kernel⟩
theorem wJ1_charAt_3b067 : WS yJ1_charAt_3b067 cJ1_charAt_3b067 2 (some .char) 2 := ⟨q_975, q_176, q_976, by decide +kernel, by decide +kernel, by decide +kernel⟩
theorem wJ3_checkIndex_8e157 : WS yJ3_checkIndex_8e157 cJ3_checkIndex_8e157 3 (some .int) 3 := ⟨q_983, q_177, q_984, by decide +kernel, by decide +kernel, by decide +kernel⟩
theorem wJ6_bitCount_0f7a4 : WS yJ6_bitCount_0f7a4 cJ6_bitCount_0f7a4 1 (some .int) 1 := ⟨q_1389, q_179, q_1390, by decide +kernel, by decide +kernel, by decide +kernel⟩
theorem wJ7_fill_53178 : WS yJ7_fill_53178 cJ7_fill_53178 4 none 2 := ⟨q_822, q_173, q_823, by decide +kernel, by decide +kernel, by decide +kernel⟩
theorem wX0_ask : WV yX0_ask cX0_ask 5 (some .int) 2 := ⟨q_1248, q_49, q_169, q_1249, by decide +kernel, by decide +kernel, by decide +kernel⟩
theorem wX0_change : WV yX0_change cX0_change 10 (some .boolean) 3 := ⟨q_1204, q_1205, q_169, q_1206, by decide +kernel, by decide +kernel, by decide +kernel⟩
theorem wX0_engage : WV yX0_engage cX0_engage 5 none 1 := ⟨q_1243, q_48, q_169, q_1244, by decide +kernel, by decide +kernel, by decide +kernel⟩
theorem wX0_freeOne : WS yX0_freeOne cX0_freeOne 4 (some .int) 2 := ⟨q_1222, q_169, q_1223, by decide +kernel, by decide +kernel, by decide +kernel⟩
theorem wX0_isSettled : WV yX0_isSettled cX0_isSettled 3 (some .boolean) 0 := ⟨q_1226, q_45, q_169, q_1227, by decide +kernel, by decide +kernel, by decide +kernel⟩
theorem wX0_pairUp : WV yX0_pairUp cX0_pairUp 5 none 1 := ⟨q_1219, q_44, q_169, q_1220, by decide +kernel, by decide +kernel, by decide +kernel⟩
theorem wX0_partner : WV yX0_partner cX0_partner 5 (some .int) 3 := ⟨q_1238, q_1239, q_169, q_1240, by decide +kernel, by decide +kernel, by decide +kernel⟩
theorem wX0_prefers : WV yX0_prefers cX0_prefers 5 (some .boolean) 4 := ⟨q_1230, q_46, q_169, q_1231, by decide +kernel, by decide +kernel, by decide +kernel⟩
theorem wX0_rank : WV yX0_rank cX0_rank 5 (some .int) 3 := ⟨q_1234, q_47, q_169, q_1235, by decide +kernel, by decide +kernel, by decide +kernel⟩
theorem wX0_settled : WV yX0_settled cX0_settled 3 (some .int) 0 := ⟨q_1214, q_1215, q_169, q_1216, by decide +kernel, by decide +kernel, by decide +kernel⟩
theorem wX10_forget : WV yX10_forget cX10_forget 1 none 0 := ⟨q_674, q_675, q_164, q_676, by decide +kernel, by decide +kernel, by decide +kernel⟩
theorem wX10_goBack : WV yX10_goBack cX10_goBack 2 (some .int) 1 := ⟨q_1509, q_1510, q_164, q_1511, by decide +kernel, by decide +kernel, by decide +kernel⟩
theorem wX10_keep : WV yX10_keep cX10_keep 3 none 2 := ⟨q_734, q_735, q_164, q_736, by decide +kernel, by decide +kernel, by decide +kernel⟩
theorem wX10_size : WV yX10_size cX10_size 1 (some .int) 0 := ⟨q_1538, q_1539, q_164, q_1540, by decide +kernel, by decide +kernel, by decide +kernel⟩
theorem wX11_changePerson : WV yX11_changePerson cX11_changePerson 4 (some .boolean) 3 := ⟨q_714, q_1, q_159, q_715, by decide +kernel, by decide +kernel, by decide +kernel⟩
theorem wX11_changePorch : WV yX11_changePorch cX11_changePorch 4 (some .boolean) 3 := ⟨q_702, q_0, q_159, q_703, by decide +kernel, by decide +kernel, by decide +kernel⟩
theorem wX11_fillByHand : WV yX11_fillByHand cX11_fillByHand 3 (some .boolean) 2 := ⟨q_777, q_6, q_159, q_778, by decide +kernel, by decide +kernel, by decide +kernel⟩
theorem wX11_riseByHand : WV yX11_riseByHand cX11_riseByHand 2 (some .boolean) 1 := ⟨q_760, q_4, q_159, q_761, by decide +kernel, by decide +kernel, by decide +kernel⟩
theorem wX11_sitByHand : WV yX11_sitByHand cX11_sitByHand 3 (some .boolean) 2 := ⟨q_722, q_2, q_159, q_723, by decide +kernel, by decide +kernel, by decide +kernel⟩
theorem wX11_sweepByHand : WV yX11_sweepByHand cX11_sweepByHand 2 (some .boolean) 1 := ⟨q_768, q_5, q_159, q_769, by decide +kernel, by decide +kernel, by decide +kernel⟩
theorem wX11_within : WS yX11_within cX11_within 3 (some .boolean) 3 := ⟨q_682, q_159, q_683, by decide +kernel, by decide +kernel, by decide +kernel⟩
theorem wX12_added : WV yX12_added cX12_added 3 (some .int) 2 := ⟨q_2284, q_146, q_171, q_2285, by decide +kernel, by decide +kernel, by decide +kernel⟩
theorem wX12_apart : WV yX12_apart cX12_apart 3 (some .int) 2 := ⟨q_2252, q_142, q_171, q_2253, by decide +kernel, by decide +kernel, by decide +kernel⟩
theorem wX12_asks : WV yX12_asks cX12_asks 3 none 2 := ⟨q_2068, q_113, q_171, q_2069, by decide +kernel, by decide +kernel, by decide +kernel⟩
theorem wX12_begins : WV yX12_begins cX12_begins 2 none 0 := ⟨q_2056, q_110, q_171, q_2057, by decide +kernel, by decide +kernel, by decide +kernel⟩
theorem wX12_callsAndRain : WV yX12_callsAndRain cX12_callsAndRain 3 none 0 := ⟨q_2060, q_111, q_171, q_2061, by decide +kernel, by decide +kernel, by decide +kernel⟩
theorem wX12_canAct : WV yX12_canAct cX12_canAct 4 (some .boolean) 3 := ⟨q_2004, q_98, q_171, q_2005, by decide +kernel, by decide +kernel, by decide +kernel⟩
theorem wX12_canAsk : WV yX12_canAsk cX12_canAsk 2 (some .boolean) 1 := ⟨q_1964, q_90, q_171, q_1965, by decide +kernel, by decide +kernel, by decide +kernel⟩
theorem wX12_canSet : WV yX12_canSet cX12_canSet 4 (some .boolean) 3 := ⟨q_1836, q_61, q_171, q_1837, by decide +kernel, by decide +kernel, by decide +kernel⟩
theorem wX12_canSit : WV yX12_canSit cX12_canSit 3 (some .boolean) 2 := ⟨q_2008, q_99, q_171, q_2009, by decide +kernel, by decide +kernel, by decide +kernel⟩
theorem wX12_ditch : WV yX12_ditch cX12_ditch 6 (some .int) 0 := ⟨q_2256, q_143, q_171, q_2257, by decide +kernel, by decide +kernel, by decide +kernel⟩
theorem wX12_doesSit : WV yX12_doesSit cX12_doesSit 2 (some .boolean) 1 := ⟨q_2012, q_100, q_171, q_2013, by decide +kernel, by decide +kernel, by decide +kernel⟩
theorem wX12_draw : WV yX12_draw cX12_draw 2 (some .int) 1 := ⟨q_2096, q_120, q_171, q_2097, by decide +kernel, by decide +kernel, by decide +kernel⟩
theorem wX12_emits : WV yX12_emits cX12_emits 3 none 2 := ⟨q_1968, q_91, q_171, q_1969, by decide +kernel, by decide +kernel, by decide +kernel⟩
theorem wX12_endsThought : WV yX12_endsThought cX12_endsThought 2 none 0 := ⟨q_2154, q_129, q_171, q_2155, by decide +kernel, by decide +kernel, by decide +kernel⟩
theorem wX12_engages : WV yX12_engages cX12_engages 7 none 1 := ⟨q_2187, q_134, q_171, q_2188, by decide +kernel, by decide +kernel, by decide +kernel⟩
theorem wX12_errs : WV yX12_errs cX12_errs 2 (some .int) 1 := ⟨q_1900, q_74, q_171, q_1901, by decide +kernel, by decide +kernel, by decide +kernel⟩
theorem wX12_fewestPorches : WV yX12_fewestPorches cX12_fewestPorches 4 (some .int) 1 := ⟨q_2228, q_138, q_171, q_2229, by decide +kernel, by decide +kernel, by decide +kernel⟩
theorem wX12_findsWishes : WV yX12_findsWishes cX12_findsWishes 4 none 0 := ⟨q_2171, q_130, q_171, q_2172, by decide +kernel, by decide +kernel, by decide +kernel⟩
theorem wX12_forwardAt : WV yX12_forwardAt cX12_forwardAt 4 (some .int) 1 := ⟨q_2203, q_136, q_171, q_2204, by decide +kernel, by decide +kernel, by decide +kernel⟩
theorem wX12_getsUp : WV yX12_getsUp cX12_getsUp 2 none 1 := ⟨q_2040, q_107, q_171, q_2041, by decide +kernel, by decide +kernel, by decide +kernel⟩
theorem wX12_goesBy : WV yX12_goesBy cX12_goesBy 3 (some .int) 0 := ⟨q_2052, q_109, q_171, q_2053, by decide +kernel, by decide +kernel, by decide +kernel⟩
theorem wX12_goesToNextOrder : WV yX12_goesToNextOrder cX12_goesToNextOrder 7 (some .boolean) 1 := ⟨q_2183, q_133, q_171, q_2184, by decide +kernel, by decide +kernel, by decide +kernel⟩
theorem wX12_goodTaking : WV yX12_goodTaking cX12_goodTaking 5 (some .int) 2 := ⟨q_2345, q_152, q_171, q_2346, by decide +kernel, by decide +kernel, by decide +kernel⟩
theorem wX12_greater : WV yX12_greater cX12_greater 3 (some .int) 2 := ⟨q_2207, q_137, q_171, q_2208, by decide +kernel, by decide +kernel, by decide +kernel⟩
theorem wX12_happens : WV yX12_happens cX12_happens 2 (some .boolean) 1 := ⟨q_2092, q_119, q_171, q_2093, by decide +kernel, by decide +kernel, by decide +kernel⟩
theorem wX12_has : WV yX12_has cX12_has 3 (some .boolean) 2 := ⟨q_2191, q_135, q_171, q_2192, by decide +kernel, by decide +kernel, by decide +kernel⟩
theorem wX12_hearsOf : WV yX12_hearsOf cX12_hearsOf 3 (some .int) 2 := ⟨q_2110, q_123, q_171, q_2111, by decide +kernel, by decide +kernel, by decide +kernel⟩
theorem wX12_heavierBy : WV yX12_heavierBy cX12_heavierBy 4 (some .int) 1 := ⟨q_2297, q_147, q_171, q_2298, by decide +kernel, by decide +kernel, by decide +kernel⟩
theorem wX12_held : WV yX12_held cX12_held 4 (some .int) 3 := ⟨q_2088, q_118, q_171, q_2089, by decide +kernel, by decide +kernel, by decide +kernel⟩
theorem wX12_isBeside : WV yX12_isBeside cX12_isBeside 3 (some .boolean) 2 := ⟨q_2106, q_122, q_171, q_2107, by decide +kernel, by decide +kernel, by decide +kernel⟩
theorem wX12_isDigit : WV yX12_isDigit cX12_isDigit 2 (some .boolean) 1 := ⟨q_1884, q_70, q_171, q_1885, by decide +kernel, by decide +kernel, by decide +kernel⟩
theorem wX12_isDry : WV yX12_isDry cX12_isDry 6 (some .boolean) 3 := ⟨q_2236, q_140, q_171, q_2237, by decide +kernel, by decide +kernel, by decide +kernel⟩
theorem wX12_isIn : WV yX12_isIn cX12_isIn 4 (some .boolean) 3 := ⟨q_1824, q_60, q_171, q_1825, by decide +kernel, by decide +kernel, by decide +kernel⟩
theorem wX12_isLetter : WV yX12_isLetter cX12_isLetter 2 (some .boolean) 1 := ⟨q_1876, q_68, q_171, q_1877, by decide +kernel, by decide +kernel, by decide +kernel⟩
theorem wX12_isLineWord : WV yX12_isLineWord cX12_isLineWord 1 (some .boolean) 0 := ⟨q_1948, q_86, q_171, q_1949, by decide +kernel, by decide +kernel, by decide +kernel⟩
theorem wX12_isMarkSign : WV yX12_isMarkSign cX12_isMarkSign 2 (some .boolean) 1 := ⟨q_1888, q_71, q_171, q_1889, by decide +kernel, by decide +kernel, by decide +kernel⟩
theorem wX12_isPerson : WV yX12_isPerson cX12_isPerson 2 (some .boolean) 1 := ⟨q_1844, q_63, q_171, q_1845, by decide +kernel, by decide +kernel, by decide +kernel⟩
theorem wX12_isPorch : WV yX12_isPorch cX12_isPorch 2 (some .boolean) 1 := ⟨q_1840, q_62, q_171, q_1841, by decide +kernel, by decide +kernel, by decide +kernel⟩
theorem wX12_isSat : WV yX12_isSat cX12_isSat 4 none 3 := ⟨q_2032, q_105, q_171, q_2033, by decide +kernel, by decide +kernel, by decide +kernel⟩
theorem wX12_isSettled : WV yX12_isSettled cX12_isSettled 4 (some .boolean) 0 := ⟨q_2179, q_132, q_171, q_2180, by decide +kernel, by decide +kernel, by decide +kernel⟩
theorem wX12_isSign : WV yX12_isSign cX12_isSign 2 (some .boolean) 1 := ⟨q_1920, q_79, q_171, q_1921, by decide +kernel, by decide +kernel, by decide +kernel⟩
theorem wX12_isSpoken : WV yX12_isSpoken cX12_isSpoken 6 none 1 := ⟨q_2102, q_121, q_171, q_2103, by decide +kernel, by decide +kernel, by decide +kernel⟩
theorem wX12_isSwept : WV yX12_isSwept cX12_isSwept 2 none 1 := ⟨q_2044, q_108, q_171, q_2045, by decide +kernel, by decide +kernel, by decide +kernel⟩
theorem wX12_isWord : WV yX12_isWord cX12_isWord 2 (some .boolean) 1 := ⟨q_1896, q_73, q_171, q_1897, by decide +kernel, by decide +kernel, by decide +kernel⟩
theorem wX12_keeps : WV yX12_keeps cX12_keeps 2 (some .int) 1 := ⟨q_2353, q_153, q_171, q_2354, by decide +kernel, by decide +kernel, by decide +kernel⟩
theorem wX12_keepsAhead : WV yX12_keepsAhead cX12_keepsAhead 2 none 0 := ⟨q_2028, q_104, q_171, q_2029, by decide +kernel, by decide +kernel, by decide +kernel⟩
theorem wX12_keepsLaw : WV yX12_keepsLaw cX12_keepsLaw 2 none 0 := ⟨q_2369, q_157, q_171, q_2370, by decide +kernel, by decide +kernel, by decide +kernel⟩
theorem wX12_keepsMany : WV yX12_keepsMany cX12_keepsMany 2 none 0 := ⟨q_2357, q_154, q_171, q_2358, by decide +kernel, by decide +kernel, by decide +kernel⟩
theorem wX12_keepsThought : WV yX12_keepsThought cX12_keepsThought 2 none 0 := ⟨q_2361, q_155, q_171, q_2362, by decide +kernel, by decide +kernel, by decide +kernel⟩
theorem wX12_keepsTold : WV yX12_keepsTold cX12_keepsTold 2 none 0 := ⟨q_2365, q_156, q_171, q_2366, by decide +kernel, by decide +kernel, by decide +kernel⟩
theorem wX12_lampBurns : WV yX12_lampBurns cX12_lampBurns 4 none 1 := ⟨q_2114, q_124, q_171, q_2115, by decide +kernel, by decide +kernel, by decide +kernel⟩
theorem wX12_lawTells : WV yX12_lawTells cX12_lawTells 5 (some .int) 3 := ⟨q_2072, q_114, q_171, q_2073, by decide +kernel, by decide +kernel, by decide +kernel⟩
theorem wX12_lesser : WV yX12_lesser cX12_lesser 3 (some .int) 2 := ⟨q_2122, q_126, q_171, q_2123, by decide +kernel, by decide +kernel, by decide +kernel⟩
theorem wX12_levelled : WV yX12_levelled cX12_levelled 5 (some .int) 0 := ⟨q_2248, q_141, q_171, q_2249, by decide +kernel, by decide +kernel, by decide +kernel⟩
theorem wX12_lineOf : WV yX12_lineOf cX12_lineOf 3 (some .int) 1 := ⟨q_2076, q_115, q_171, q_2077, by decide +kernel, by decide +kernel, by decide +kernel⟩
theorem wX12_notes : WV yX12_notes cX12_notes 5 none 3 := ⟨q_2036, q_106, q_171, q_2037, by decide +kernel, by decide +kernel, by decide +kernel⟩
theorem wX12_onesOf : WV yX12_onesOf cX12_onesOf 4 (some .int) 1 := ⟨q_2024, q_103, q_171, q_2025, by decide +kernel, by decide +kernel, by decide +kernel⟩
theorem wX12_poured : WV yX12_poured cX12_poured 5 (some .int) 3 := ⟨q_2329, q_150, q_171, q_2330, by decide +kernel, by decide +kernel, by decide +kernel⟩
theorem wX12_raw : WV yX12_raw cX12_raw 2 (some .int) 1 := ⟨q_1872, q_67, q_171, q_1873, by decide +kernel, by decide +kernel, by decide +kernel⟩
theorem wX12_readAny : WV yX12_readAny cX12_readAny 4 (some .int) 0 := ⟨q_1972, q_92, q_171, q_1973, by decide +kernel, by decide +kernel, by decide +kernel⟩
theorem wX12_readCall : WV yX12_readCall cX12_readCall 2 (some .int) 1 := ⟨q_1904, q_75, q_171, q_1905, by decide +kernel, by decide +kernel, by decide +kernel⟩
theorem wX12_readCalls : WV yX12_readCalls cX12_readCalls 2 (some .int) 0 := ⟨q_1892, q_72, q_171, q_1893, by decide +kernel, by decide +kernel, by decide +kernel⟩
theorem wX12_readCompared : WV yX12_readCompared cX12_readCompared 2 (some .int) 0 := ⟨q_1980, q_94, q_171, q_1981, by decide +kernel, by decide +kernel, by decide +kernel⟩
theorem wX12_readDeed : WV yX12_readDeed cX12_readDeed 3 (some .int) 1 := ⟨q_1928, q_81, q_171, q_1929, by decide +kernel, by decide +kernel, by decide +kernel⟩
theorem wX12_readEvenings : WV yX12_readEvenings cX12_readEvenings 2 (some .int) 0 := ⟨q_1924, q_80, q_171, q_1925, by decide +kernel, by decide +kernel, by decide +kernel⟩
theorem wX12_readLaw : WV yX12_readLaw cX12_readLaw 3 (some .int) 0 := ⟨q_1944, q_85, q_171, q_1945, by decide +kernel, by decide +kernel, by decide +kernel⟩
theorem wX12_readMark : WV yX12_readMark cX12_readMark 2 (some .int) 1 := ⟨q_1916, q_78, q_171, q_1917, by decide +kernel, by decide +kernel, by decide +kernel⟩
theorem wX12_readNumber : WV yX12_readNumber cX12_readNumber 4 (some .int) 2 := ⟨q_1912, q_77, q_171, q_1913, by decide +kernel, by decide +kernel, by decide +kernel⟩
theorem wX12_readProduct : WV yX12_readProduct cX12_readProduct 2 (some .int) 0 := ⟨q_1956, q_88, q_171, q_1957, by decide +kernel, by decide +kernel, by decide +kernel⟩
theorem wX12_readRoad : WV yX12_readRoad cX12_readRoad 4 (some .int) 0 := ⟨q_1936, q_83, q_171, q_1937, by decide +kernel, by decide +kernel, by decide +kernel⟩
theorem wX12_readStreet : WV yX12_readStreet cX12_readStreet 2 (some .int) 0 := ⟨q_1932, q_82, q_171, q_1933, by decide +kernel, by decide +kernel, by decide +kernel⟩
theorem wX12_readSum : WV yX12_readSum cX12_readSum 2 (some .int) 0 := ⟨q_1952, q_87, q_171, q_1953, by decide +kernel, by decide +kernel, by decide +kernel⟩
theorem wX12_readTold : WV yX12_readTold cX12_readTold 4 (some .int) 3 := ⟨q_1908, q_76, q_171, q_1909, by decide +kernel, by decide +kernel, by decide +kernel⟩
theorem wX12_readUnit : WV yX12_readUnit cX12_readUnit 2 (some .int) 0 := ⟨q_1960, q_89, q_171, q_1961, by decide +kernel, by decide +kernel, by decide +kernel⟩
theorem wX12_reads : WV yX12_reads cX12_reads 2 none 0 := ⟨q_1868, q_66, q_171, q_1869, by decide +kernel, by decide +kernel, by decide +kernel⟩
theorem wX12_readsText : WV yX12_readsText cX12_readsText 2 (some .int) 1 := ⟨q_1864, q_65, q_171, q_1865, by decide +kernel, by decide +kernel, by decide +kernel⟩
theorem wX12_runs : WV yX12_runs cX12_runs 6 (some .int) 3 := ⟨q_2080, q_116, q_171, q_2081, by decide +kernel, by decide +kernel, by decide +kernel⟩
theorem wX12_settledWays : WV yX12_settledWays cX12_settledWays 3 (some .int) 0 := ⟨q_2175, q_131, q_171, q_2176, by decide +kernel, by decide +kernel, by decide +kernel⟩
theorem wX12_settles : WV yX12_settles cX12_settles 2 none 1 := ⟨q_1984, q_95, q_171, q_1985, by decide +kernel, by decide +kernel, by decide +kernel⟩
theorem wX12_sitsOn : WV yX12_sitsOn cX12_sitsOn 2 (some .int) 1 := ⟨q_2020, q_102, q_171, q_2021, by decide +kernel, by decide +kernel, by decide +kernel⟩
theorem wX12_sittersOn : WV yX12_sittersOn cX12_sittersOn 4 (some .int) 1 := ⟨q_2016, q_101, q_171, q_2017, by decide +kernel, by decide +kernel, by decide +kernel⟩
theorem wX12_speaksOf : WV yX12_speaksOf cX12_speaksOf 2 (some .int) 1 := ⟨q_2064, q_112, q_171, q_2065, by decide +kernel, by decide +kernel, by decide +kernel⟩
theorem wX12_spinsOf : WV yX12_spinsOf cX12_spinsOf 2 (some .int) 1 := ⟨q_2118, q_125, q_171, q_2119, by decide +kernel, by decide +kernel, by decide +kernel⟩
theorem wX12_sumOf : WV yX12_sumOf cX12_sumOf 5 (some .int) 2 := ⟨q_2150, q_128, q_171, q_2151, by decide +kernel, by decide +kernel, by decide +kernel⟩
theorem wX12_takesCans : WV yX12_takesCans cX12_takesCans 2 none 1 := ⟨q_2325, q_149, q_171, q_2326, by decide +kernel, by decide +kernel, by decide +kernel⟩
theorem wX12_takesFeet : WV yX12_takesFeet cX12_takesFeet 3 none 2 := ⟨q_1940, q_84, q_171, q_1941, by decide +kernel, by decide +kernel, by decide +kernel⟩
theorem wX12_takesHats : WV yX12_takesHats cX12_takesHats 6 (some .int) 1 := ⟨q_2337, q_151, q_171, q_2338, by decide +kernel, by decide +kernel, by decide +kernel⟩
theorem wX12_takesLaw : WV yX12_takesLaw cX12_takesLaw 3 none 1 := ⟨q_1988, q_96, q_171, q_1989, by decide +kernel, by decide +kernel, by decide +kernel⟩
theorem wX12_takesOther : WV yX12_takesOther cX12_takesOther 4 none 2 := ⟨q_1992, q_97, q_171, q_1993, by decide +kernel, by decide +kernel, by decide +kernel⟩
theorem wX12_talkGoes : WV yX12_talkGoes cX12_talkGoes 5 (some .int) 1 := ⟨q_2268, q_144, q_171, q_2269, by decide +kernel, by decide +kernel, by decide +kernel⟩
theorem wX12_thinks : WV yX12_thinks cX12_thinks 2 none 0 := ⟨q_2146, q_127, q_171, q_2147, by decide +kernel, by decide +kernel, by decide +kernel⟩
theorem wX12_twoOf : WV yX12_twoOf cX12_twoOf 4 (some .int) 3 := ⟨q_2084, q_117, q_171, q_2085, by decide +kernel, by decide +kernel, by decide +kernel⟩
theorem wX12_types : WV yX12_types cX12_types 3 none 1 := ⟨q_1852, q_64, q_171, q_1853, by decide +kernel, by decide +kernel, by decide +kernel⟩
theorem wX12_waits : WV yX12_waits cX12_waits 2 none 1 := ⟨q_1976, q_93, q_171, q_1977, by decide +kernel, by decide +kernel, by decide +kernel⟩
theorem wX12_waysOfHalf : WV yX12_waysOfHalf cX12_waysOfHalf 5 (some .int) 2 := ⟨q_2280, q_145, q_171, q_2281, by decide +kernel, by decide +kernel, by decide +kernel⟩
theorem wX12_waysUp : WV yX12_waysUp cX12_waysUp 5 (some .int) 2 := ⟨q_2317, q_148, q_171, q_2318, by decide +kernel, by decide +kernel, by decide +kernel⟩
theorem wX12_withFamily : WV yX12_withFamily cX12_withFamily 6 (some .int) 3 := ⟨q_2232, q_139, q_171, q_2233, by decide +kernel, by decide +kernel, by decide +kernel⟩
theorem wX12_wordAt : WV yX12_wordAt cX12_wordAt 6 (some .int) 2 := ⟨q_1880, q_69, q_171, q_1881, by decide +kernel, by decide +kernel, by decide +kernel⟩
theorem wX1_acceptAt : WV yX1_acceptAt cX1_acceptAt 5 none 1 := ⟨q_872, q_17, q_168, q_873, by decide +kernel, by decide +kernel, by decide +kernel⟩
theorem wX1_beginEvening : WV yX1_beginEvening cX1_beginEvening 4 none 0 := ⟨q_789, q_7, q_168, q_790, by decide +kernel, by decide +kernel, by decide +kernel⟩
theorem wX1_burnLamps : WV yX1_burnLamps cX1_burnLamps 2 none 0 := ⟨q_868, q_16, q_168, q_869, by decide +kernel, by decide +kernel, by decide +kernel⟩
theorem wX1_followCalls : WV yX1_followCalls cX1_followCalls 5 none 0 := ⟨q_799, q_8, q_168, q_800, by decide +kernel, by decide +kernel, by decide +kernel⟩
theorem wX1_happens : WV yX1_happens cX1_happens 2 (some .boolean) 1 := ⟨q_844, q_13, q_168, q_845, by decide +kernel, by decide +kernel, by decide +kernel⟩
theorem wX1_hearsNow : WV yX1_hearsNow cX1_hearsNow 6 (some .boolean) 3 := ⟨q_854, q_14, q_168, q_855, by decide +kernel, by decide +kernel, by decide +kernel⟩
theorem wX1_letItRain : WV yX1_letItRain cX1_letItRain 4 none 0 := ⟨q_806, q_9, q_168, q_807, by decide +kernel, by decide +kernel, by decide +kernel⟩
theorem wX1_pass : WV yX1_pass cX1_pass 4 (some .int) 1 := ⟨q_784, q_785, q_168, q_786, by decide +kernel, by decide +kernel, by decide +kernel⟩
theorem wX1_speaksNow : WV yX1_speaksNow cX1_speaksNow 5 (some .boolean) 1 := ⟨q_811, q_10, q_168, q_812, by decide +kernel, by decide +kernel, by decide +kernel⟩
theorem wX1_spinCobwebs : WV yX1_spinCobwebs cX1_spinCobwebs 3 none 0 := ⟨q_876, q_18, q_168, q_877, by decide +kernel, by decide +kernel, by decide +kernel⟩
theorem wX1_stayOrRise : WV yX1_stayOrRise cX1_stayOrRise 2 none 0 := ⟨q_864, q_15, q_168, q_865, by decide +kernel, by decide +kernel, by decide +kernel⟩
theorem wX1_sweepPorch : WV yX1_sweepPorch cX1_sweepPorch 2 none 1 := ⟨q_771, q_772, q_168, q_773, by decide +kernel, by decide +kernel, by decide +kernel⟩
theorem wX1_takeSeat : WV yX1_takeSeat cX1_takeSeat 4 none 3 := ⟨q_745, q_746, q_168, q_747, by decide +kernel, by decide +kernel, by decide +kernel⟩
theorem wX1_turnClock : WV yX1_turnClock cX1_turnClock 2 none 0 := ⟨q_881, q_19, q_168, q_882, by decide +kernel, by decide +kernel, by decide +kernel⟩
theorem wX1_write : WV yX1_write cX1_write 4 none 3 := ⟨q_755, q_3, q_168, q_756, by decide +kernel, by decide +kernel, by decide +kernel⟩
theorem wX2_addPerson : WV yX2_addPerson cX2_addPerson 3 (some .int) 2 := ⟨q_693, q_694, q_161, q_695, by decide +kernel, by decide +kernel, by decide +kernel⟩
theorem wX2_addPorch : WV yX2_addPorch cX2_addPorch 3 (some .int) 2 := ⟨q_685, q_686, q_161, q_687, by decide +kernel, by decide +kernel, by decide +kernel⟩
theorem wX2_allAccepted : WV yX2_allAccepted cX2_allAccepted 3 (some .int) 0 := ⟨q_1534, q_1535, q_161, q_1536, by decide +kernel, by decide +kernel, by decide +kernel⟩
theorem wX2_allSitters : WV yX2_allSitters cX2_allSitters 3 (some .int) 0 := ⟨q_1530, q_1531, q_161, q_1532, by decide +kernel, by decide +kernel, by decide +kernel⟩
theorem wX2_copyFrom : WV yX2_copyFrom cX2_copyFrom 2 none 1 := ⟨q_738, q_739, q_161, q_740, by decide +kernel, by decide +kernel, by decide +kernel⟩
theorem wX2_draw : WV yX2_draw cX2_draw 2 (some .int) 1 := ⟨q_847, q_848, q_161, q_849, by decide +kernel, by decide +kernel, by decide +kernel⟩
theorem wX2_hasFreeChair : WV yX2_hasFreeChair cX2_hasFreeChair 2 (some .boolean) 1 := ⟨q_725, q_726, q_161, q_727, by decide +kernel, by decide +kernel, by decide +kernel⟩
theorem wX2_hasPerson : WV yX2_hasPerson cX2_hasPerson 2 (some .boolean) 1 := ⟨q_709, q_710, q_161, q_711, by decide +kernel, by decide +kernel, by decide +kernel⟩
theorem wX2_hasPorch : WV yX2_hasPorch cX2_hasPorch 2 (some .boolean) 1 := ⟨q_705, q_706, q_161, q_707, by decide +kernel, by decide +kernel, by decide +kernel⟩
theorem wX2_rise : WV yX2_rise cX2_rise 2 none 1 := ⟨q_763, q_764, q_161, q_765, by decide +kernel, by decide +kernel, by decide +kernel⟩
theorem wX2_sitDown : WV yX2_sitDown cX2_sitDown 4 none 3 := ⟨q_749, q_750, q_161, q_751, by decide +kernel, by decide +kernel, by decide +kernel⟩
theorem wX2_sittersOf : WV yX2_sittersOf cX2_sittersOf 4 (some .int) 1 := ⟨q_1168, q_1169, q_161, q_1170, by decide +kernel, by decide +kernel, by decide +kernel⟩
theorem wX2_sumOf : WV yX2_sumOf cX2_sumOf 4 (some .int) 1 := ⟨q_1192, q_1193, q_161, q_1194, by decide +kernel, by decide +kernel, by decide +kernel⟩
theorem wX3_joined : WS yX3_joined cX3_joined 4 (some .int) 3 := ⟨q_834, q_167, q_835, by decide +kernel, by decide +kernel, by decide +kernel⟩
theorem wX3_lookAt : WV yX3_lookAt cX3_lookAt 3 none 2 := ⟨q_819, q_11, q_167, q_820, by decide +kernel, by decide +kernel, by decide +kernel⟩
theorem wX3_tells : WV yX3_tells cX3_tells 8 (some .int) 3 := ⟨q_814, q_815, q_167, q_816, by decide +kernel, by decide +kernel, by decide +kernel⟩
theorem wX3_value : WV yX3_value cX3_value 7 (some .int) 2 := ⟨q_830, q_12, q_167, q_831, by decide +kernel, by decide +kernel, by decide +kernel⟩
theorem wX4_allForward : WV yX4_allForward cX4_allForward 7 (some .int) 0 := ⟨q_1262, q_1263, q_170, q_1264, by decide +kernel, by decide +kernel, by decide +kernel⟩
theorem wX4_carried : WV yX4_carried cX4_carried 6 (some .int) 3 := ⟨q_1284, q_1285, q_170, q_1286, by decide +kernel, by decide +kernel, by decide +kernel⟩
theorem wX4_carryOn : WV yX4_carryOn cX4_carryOn 5 none 1 := ⟨q_1291, q_50, q_170, q_1292, by decide +kernel, by decide +kernel, by decide +kernel⟩
theorem wX4_commonStride : WS yX4_commonStride cX4_commonStride 4 (some .int) 2 := ⟨q_1268, q_170, q_1269, by decide +kernel, by decide +kernel, by decide +kernel⟩
theorem wX4_countFamilies : WV yX4_countFamilies cX4_countFamilies 5 (some .int) 0 := ⟨q_1308, q_51, q_170, q_1309, by decide +kernel, by decide +kernel, by decide +kernel⟩
theorem wX4_deepest : WV yX4_deepest cX4_deepest 5 (some .int) 0 := ⟨q_1348, q_1349, q_170, q_1350, by decide +kernel, by decide +kernel, by decide +kernel⟩
theorem wX4_ditch : WV yX4_ditch cX4_ditch 6 (some .int) 0 := ⟨q_1336, q_1337, q_170, q_1338, by decide +kernel, by decide +kernel, by decide +kernel⟩
theorem wX4_enqueue : WV yX4_enqueue cX4_enqueue 3 none 2 := ⟨q_1457, q_56, q_170, q_1458, by decide +kernel, by decide +kernel, by decide +kernel⟩
theorem wX4_fairestSeat : WV yX4_fairestSeat cX4_fairestSeat 4 (some .int) 0 := ⟨q_1385, q_1386, q_170, q_1387, by decide +kernel, by decide +kernel, by decide +kernel⟩
theorem wX4_fewestPourings : WV yX4_fewestPourings cX4_fewestPourings 9 (some .int) 4 := ⟨q_1452, q_1453, q_170, q_1454, by decide +kernel, by decide +kernel, by decide +kernel⟩
theorem wX4_fewestShelters : WV yX4_fewestShelters cX4_fewestShelters 7 (some .int) 1 := ⟨q_1303, q_1304, q_170, q_1305, by decide +kernel, by decide +kernel, by decide +kernel⟩
theorem wX4_fewestShovels : WV yX4_fewestShovels cX4_fewestShovels 6 (some .int) 0 := ⟨q_1329, q_1330, q_170, q_1331, by decide +kernel, by decide +kernel, by decide +kernel⟩
theorem wX4_findEnemies : WV yX4_findEnemies cX4_findEnemies 5 none 1 := ⟨q_1413, q_53, q_170, q_1414, by decide +kernel, by decide +kernel, by decide +kernel⟩
theorem wX4_firstUnbegun : WV yX4_firstUnbegun cX4_firstUnbegun 4 (some .int) 0 := ⟨q_1352, q_1353, q_170, q_1354, by decide +kernel, by decide +kernel, by decide +kernel⟩
theorem wX4_hang : WV yX4_hang cX4_hang 6 (some .int) 1 := ⟨q_1472, q_1473, q_170, q_1474, by decide +kernel, by decide +kernel, by decide +kernel⟩
theorem wX4_hasPace : WS yX4_hasPace cX4_hasPace 2 (some .boolean) 2 := ⟨q_1440, q_170, q_1441, by decide +kernel, by decide +kernel, by decide +kernel⟩
theorem wX4_heavierBy : WV yX4_heavierBy cX4_heavierBy 5 (some .int) 1 := ⟨q_1395, q_1396, q_170, q_1397, by decide +kernel, by decide +kernel, by decide +kernel⟩
theorem wX4_lastToHear : WV yX4_lastToHear cX4_lastToHear 6 (some .int) 2 := ⟨q_1424, q_1425, q_170, q_1426, by decide +kernel, by decide +kernel, by decide +kernel⟩
theorem wX4_lesserBehind : WV yX4_lesserBehind cX4_lesserBehind 5 (some .int) 2 := ⟨q_1485, q_59, q_170, q_1486, by decide +kernel, by decide +kernel, by decide +kernel⟩
theorem wX4_longestRising : WV yX4_longestRising cX4_longestRising 5 (some .int) 1 := ⟨q_1476, q_1477, q_170, q_1478, by decide +kernel, by decide +kernel, by decide +kernel⟩
theorem wX4_mostForward : WV yX4_mostForward cX4_mostForward 6 (some .int) 0 := ⟨q_1271, q_1272, q_170, q_1273, by decide +kernel, by decide +kernel, by decide +kernel⟩
theorem wX4_placeAmongAll : WV yX4_placeAmongAll cX4_placeAmongAll 4 (some .int) 1 := ⟨q_1488, q_1489, q_170, q_1490, by decide +kernel, by decide +kernel, by decide +kernel⟩
theorem wX4_pour : WV yX4_pour cX4_pour 5 none 3 := ⟨q_1465, q_58, q_170, q_1466, by decide +kernel, by decide +kernel, by decide +kernel⟩
theorem wX4_seatBehind : WV yX4_seatBehind cX4_seatBehind 8 (some .int) 4 := ⟨q_1417, q_54, q_170, q_1418, by decide +kernel, by decide +kernel, by decide +kernel⟩
theorem wX4_seeCans : WV yX4_seeCans cX4_seeCans 2 none 1 := ⟨q_1461, q_57, q_170, q_1462, by decide +kernel, by decide +kernel, by decide +kernel⟩
theorem wX4_shelterOneMore : WV yX4_shelterOneMore cX4_shelterOneMore 6 (some .int) 2 := ⟨q_1317, q_52, q_170, q_1318, by decide +kernel, by decide +kernel, by decide +kernel⟩
theorem wX4_walk : WV yX4_walk cX4_walk 5 none 3 := ⟨q_1429, q_55, q_170, q_1430, by decide +kernel, by decide +kernel, by decide +kernel⟩
theorem wX4_waysHeard : WV yX4_waysHeard cX4_waysHeard 8 (some .int) 0 := ⟨q_1373, q_1374, q_170, q_1375, by decide +kernel, by decide +kernel, by decide +kernel⟩
theorem wX4_waysOfMatters : WV yX4_waysOfMatters cX4_waysOfMatters 5 (some .int) 1 := ⟨q_1356, q_1357, q_170, q_1358, by decide +kernel, by decide +kernel, by decide +kernel⟩
theorem wX4_waysToShelter : WV yX4_waysToShelter cX4_waysToShelter 6 (some .int) 2 := ⟨q_1312, q_1313, q_170, q_1314, by decide +kernel, by decide +kernel, by decide +kernel⟩
theorem wX4_waysToSit : WV yX4_waysToSit cX4_waysToSit 7 (some .int) 2 := ⟨q_1408, q_1409, q_170, q_1410, by decide +kernel, by decide +kernel, by decide +kernel⟩
theorem wX4_waysUp : WV yX4_waysUp cX4_waysUp 7 (some .int) 2 := ⟨q_1436, q_1437, q_170, q_1438, by decide +kernel, by decide +kernel, by decide +kernel⟩
theorem wX4_waysUpAlike : WV yX4_waysUpAlike cX4_waysUpAlike 7 (some .int) 2 := ⟨q_1443, q_1444, q_170, q_1445, by decide +kernel, by decide +kernel, by decide +kernel⟩
theorem wX4_winningTake : WV yX4_winningTake cX4_winningTake 5 (some .int) 2 := ⟨q_1498, q_1499, q_170, q_1500, by decide +kernel, by decide +kernel, by decide +kernel⟩
theorem wX4_wins : WS yX4_wins cX4_wins 6 (some .boolean) 2 := ⟨q_1502, q_170, q_1503, by decide +kernel, by decide +kernel, by decide +kernel⟩
theorem wX4_wrongCouples : WV yX4_wrongCouples cX4_wrongCouples 4 (some .int) 1 := ⟨q_1480, q_1481, q_170, q_1482, by decide +kernel, by decide +kernel, by decide +kernel⟩
theorem wX5_beginLine : WV yX5_beginLine cX5_beginLine 2 (some .boolean) 1 := ⟨q_1049, q_27, q_165, q_1050, by decide +kernel, by decide +kernel, by decide +kernel⟩
theorem wX5_draft : WV yX5_draft cX5_draft 1 (some (.object "PorchHours$Row")) 0 := ⟨q_1139, q_1140, q_165, q_1141, by decide +kernel, by decide +kernel, by decide +kernel⟩
theorem wX5_draftCode : WV yX5_draftCode cX5_draftCode 1 (some (.object "PorchHours$Row")) 0 := ⟨q_1148, q_1149, q_165, q_1150, by decide +kernel, by decide +kernel, by decide +kernel⟩
theorem wX5_faultKind : WV yX5_faultKind cX5_faultKind 1 (some .int) 0 := ⟨q_1156, q_1157, q_165, q_1158, by decide +kernel, by decide +kernel, by decide +kernel⟩
theorem wX5_faultPlace : WV yX5_faultPlace cX5_faultPlace 1 (some .int) 0 := ⟨q_1160, q_1161, q_165, q_1162, by decide +kernel, by decide +kernel, by decide +kernel⟩
theorem wX5_noteDown : WV yX5_noteDown cX5_noteDown 2 none 1 := ⟨q_1095, q_35, q_165, q_1096, by decide +kernel, by decide +kernel, by decide +kernel⟩
theorem wX5_putOff : WV yX5_putOff cX5_putOff 2 none 1 := ⟨q_1083, q_32, q_165, q_1084, by decide +kernel, by decide +kernel, by decide +kernel⟩
theorem wX5_read : WV yX5_read cX5_read 4 (some .boolean) 1 := ⟨q_913, q_914, q_165, q_915, by decide +kernel, by decide +kernel, by decide +kernel⟩
theorem wX5_readCall : WV yX5_readCall cX5_readCall 5 (some .boolean) 0 := ⟨q_1104, q_37, q_165, q_1105, by decide +kernel, by decide +kernel, by decide +kernel⟩
theorem wX5_readClosings : WV yX5_readClosings cX5_readClosings 2 (some .boolean) 0 := ⟨q_1091, q_34, q_165, q_1092, by decide +kernel, by decide +kernel, by decide +kernel⟩
theorem wX5_readComparison : WV yX5_readComparison cX5_readComparison 2 (some .boolean) 0 := ⟨q_1087, q_33, q_165, q_1088, by decide +kernel, by decide +kernel, by decide +kernel⟩
theorem wX5_readConditions : WV yX5_readConditions cX5_readConditions 3 (some .boolean) 0 := ⟨q_1075, q_30, q_165, q_1076, by decide +kernel, by decide +kernel, by decide +kernel⟩
theorem wX5_readEvening : WV yX5_readEvening cX5_readEvening 5 (some .boolean) 0 := ⟨q_1124, q_42, q_165, q_1125, by decide +kernel, by decide +kernel, by decide +kernel⟩
theorem wX5_readLawLine : WV yX5_readLawLine cX5_readLawLine 4 (some .boolean) 0 := ⟨q_1041, q_25, q_165, q_1042, by decide +kernel, by decide +kernel, by decide +kernel⟩
theorem wX5_readOpenings : WV yX5_readOpenings cX5_readOpenings 3 (some .boolean) 0 := ⟨q_1079, q_31, q_165, q_1080, by decide +kernel, by decide +kernel, by decide +kernel⟩
theorem wX5_readOperand : WV yX5_readOperand cX5_readOperand 4 (some .boolean) 1 := ⟨q_1063, q_29, q_165, q_1064, by decide +kernel, by decide +kernel, by decide +kernel⟩
theorem wX5_readStreetLine : WV yX5_readStreetLine cX5_readStreetLine 4 (some .boolean) 0 := ⟨q_1128, q_43, q_165, q_1129, by decide +kernel, by decide +kernel, by decide +kernel⟩
theorem wX5_readSum : WV yX5_readSum cX5_readSum 4 (some .boolean) 0 := ⟨q_1059, q_28, q_165, q_1060, by decide +kernel, by decide +kernel, by decide +kernel⟩
theorem wX5_refuse : WV yX5_refuse cX5_refuse 2 (some .boolean) 1 := ⟨q_1045, q_26, q_165, q_1046, by decide +kernel, by decide +kernel, by decide +kernel⟩
theorem wX5_take : WV yX5_take cX5_take 2 (some .boolean) 1 := ⟨q_1099, q_36, q_165, q_1100, by decide +kernel, by decide +kernel, by decide +kernel⟩
theorem wX5_takeMinute : WV yX5_takeMinute cX5_takeMinute 1 (some .int) 0 := ⟨q_1116, q_40, q_165, q_1117, by decide +kernel, by decide +kernel, by decide +kernel⟩
theorem wX5_takeNumber : WV yX5_takeNumber cX5_takeNumber 6 (some .int) 3 := ⟨q_1112, q_39, q_165, q_1113, by decide +kernel, by decide +kernel, by decide +kernel⟩
theorem wX5_takePerson : WV yX5_takePerson cX5_takePerson 1 (some .int) 0 := ⟨q_1108, q_38, q_165, q_1109, by decide +kernel, by decide +kernel, by decide +kernel⟩
theorem wX5_takePorch : WV yX5_takePorch cX5_takePorch 1 (some .int) 0 := ⟨q_1120, q_41, q_165, q_1121, by decide +kernel, by decide +kernel, by decide +kernel⟩
theorem wX6_add : WV yX6_add cX6_add 2 (some .int) 1 := ⟨q_1070, q_1071, q_163, q_1072, by decide +kernel, by decide +kernel, by decide +kernel⟩
theorem wX6_add_ : WV yX6_add_ cX6_add_ 6 (some .int) 5 := ⟨q_334, q_335, q_163, q_336, by decide +kernel, by decide +kernel, by decide +kernel⟩
theorem wX6_change : WV yX6_change cX6_change 8 none 6 := ⟨q_342, q_343, q_163, q_344, by decide +kernel, by decide +kernel, by decide +kernel⟩
theorem wX6_clear : WV yX6_clear cX6_clear 1 (some .int) 0 := ⟨q_918, q_919, q_163, q_920, by decide +kernel, by decide +kernel, by decide +kernel⟩
theorem wX6_copyFrom : WV yX6_copyFrom cX6_copyFrom 2 none 1 := ⟨q_1143, q_1144, q_163, q_1145, by decide +kernel, by decide +kernel, by decide +kernel⟩
theorem wX6_cutTo : WV yX6_cutTo cX6_cutTo 2 none 1 := ⟨q_1513, q_1514, q_163, q_1515, by decide +kernel, by decide +kernel, by decide +kernel⟩
theorem wX6_get : WV yX6_get cX6_get 3 (some .int) 2 := ⟨q_793, q_794, q_163, q_795, by decide +kernel, by decide +kernel, by decide +kernel⟩
theorem wX6_isFull : WV yX6_isFull cX6_isFull 1 (some .boolean) 0 := ⟨q_338, q_339, q_163, q_340, by decide +kernel, by decide +kernel, by decide +kernel⟩
theorem wX6_size : WV yX6_size cX6_size 1 (some .int) 0 := ⟨q_730, q_731, q_163, q_732, by decide +kernel, by decide +kernel, by decide +kernel⟩
theorem wX7_append : WV yX7_append cX7_append 2 none 1 := ⟨q_892, q_893, q_160, q_894, by decide +kernel, by decide +kernel, by decide +kernel⟩
theorem wX7_at : WV yX7_at cX7_at 2 (some .int) 1 := ⟨q_931, q_932, q_160, q_933, by decide +kernel, by decide +kernel, by decide +kernel⟩
theorem wX7_cut : WV yX7_cut cX7_cut 2 (some .boolean) 1 := ⟨q_905, q_906, q_160, q_907, by decide +kernel, by decide +kernel, by decide +kernel⟩
theorem wX7_hasRoom : WV yX7_hasRoom cX7_hasRoom 2 (some .boolean) 1 := ⟨q_888, q_889, q_160, q_890, by decide +kernel, by decide +kernel, by decide +kernel⟩
theorem wX7_length : WV yX7_length cX7_length 1 (some .int) 0 := ⟨q_897, q_898, q_160, q_899, by decide +kernel, by decide +kernel, by decide +kernel⟩
theorem wX8_advance : WV yX8_advance cX8_advance 1 none 0 := ⟨q_1053, q_1054, q_166, q_1055, by decide +kernel, by decide +kernel, by decide +kernel⟩
theorem wX8_behind : WV yX8_behind cX8_behind 3 (some .int) 1 := ⟨q_928, q_20, q_166, q_929, by decide +kernel, by decide +kernel, by decide +kernel⟩
theorem wX8_isBlank : WS yX8_isBlank cX8_isBlank 1 (some .boolean) 1 := ⟨q_941, q_166, q_942, by decide +kernel, by decide +kernel, by decide +kernel⟩
theorem wX8_isDigit : WS yX8_isDigit cX8_isDigit 1 (some .boolean) 1 := ⟨q_935, q_166, q_936, by decide +kernel, by decide +kernel, by decide +kernel⟩
theorem wX8_isLetter : WS yX8_isLetter cX8_isLetter 1 (some .boolean) 1 := ⟨q_938, q_166, q_939, by decide +kernel, by decide +kernel, by decide +kernel⟩
theorem wX8_kind : WV yX8_kind cX8_kind 1 (some .int) 0 := ⟨q_1036, q_1037, q_166, q_1038, by decide +kernel, by decide +kernel, by decide +kernel⟩
theorem wX8_note : WV yX8_note cX8_note 6 none 2 := ⟨q_945, q_21, q_166, q_946, by decide +kernel, by decide +kernel, by decide +kernel⟩
theorem wX8_nounOf : WV yX8_nounOf cX8_nounOf 3 (some .int) 2 := ⟨q_1023, q_24, q_166, q_1024, by decide +kernel, by decide +kernel, by decide +kernel⟩
theorem wX8_number : WV yX8_number cX8_number 1 (some .int) 0 := ⟨q_1066, q_1067, q_166, q_1068, by decide +kernel, by decide +kernel, by decide +kernel⟩
theorem wX8_place : WV yX8_place cX8_place 1 (some .int) 0 := ⟨q_1131, q_1132, q_166, q_1133, by decide +kernel, by decide +kernel, by decide +kernel⟩
theorem wX8_scan : WV yX8_scan cX8_scan 4 none 0 := ⟨q_922, q_923, q_166, q_924, by decide +kernel, by decide +kernel, by decide +kernel⟩
theorem wX8_spells : WV yX8_spells cX8_spells 5 (some .boolean) 3 := ⟨q_954, q_23, q_166, q_955, by decide +kernel, by decide +kernel, by decide +kernel⟩
theorem wX8_wordOf : WV yX8_wordOf cX8_wordOf 3 (some .int) 2 := ⟨q_949, q_22, q_166, q_950, by decide +kernel, by decide +kernel, by decide +kernel⟩
theorem wX9_copyFrom : WV yX9_copyFrom cX9_copyFrom 2 none 1 := ⟨q_1521, q_1522, q_162, q_1523, by decide +kernel, by decide +kernel, by decide +kernel⟩
theorem wX9_feet : WV yX9_feet cX9_feet 9 (some .int) 2 := ⟨q_857, q_858, q_162, q_859, by decide +kernel, by decide +kernel, by decide +kernel⟩
theorem wX9_halfOf : WV yX9_halfOf cX9_halfOf 2 (some (.object "PorchHours$Row")) 1 := ⟨q_1365, q_1366, q_162, q_1367, by decide +kernel, by decide +kernel, by decide +kernel⟩
theorem wX9_linesOf : WV yX9_linesOf cX9_linesOf 2 (some (.object "PorchHours$Row")) 1 := ⟨q_1135, q_1136, q_162, q_1137, by decide +kernel, by decide +kernel, by decide +kernel⟩
theorem uwX0 : ∀ w ∈ u_ws RX0 TX0 4, w ∈ tbl := uws_in [561, 563, 565, 567] (by decide +kernel) (by decide +kernel)
theorem uwX1 : ∀ w ∈ u_ws RX1 TX1 5, w ∈ tbl := uws_in [540, 542, 544, 546, 548] (by decide +kernel) (by decide +kernel)
theorem uwX2 : ∀ w ∈ u_ws RX2 TX2 19, w ∈ tbl := uws_in [271, 273, 275, 277, 279, 281, 283, 285, 287, 289, 291, 293, 295, 297, 299, 301, 303, 305, 307] (by decide +kernel) (by decide +kernel)
theorem uwX3 : ∀ w ∈ u_ws RX3 TX3 5, w ∈ tbl := uws_in [518, 520, 522, 524, 526] (by decide +kernel) (by decide +kernel)
theorem uwX4 : ∀ w ∈ u_ws RX4 TX4 15, w ∈ tbl := uws_in [591, 593, 595, 597, 599, 601, 603, 605, 607, 609, 611, 613, 615, 617, 619] (by decide +kernel) (by decide +kernel)
theorem uwX5 : ∀ w ∈ u_ws RX5 TX5 9, w ∈ tbl := uws_in [488, 490, 492, 494, 496, 498, 500, 502, 504] (by decide +kernel) (by decide +kernel)
theorem uwX6 : ∀ w ∈ u_ws RX6 TX6 3, w ∈ tbl := uws_in [326, 328, 330] (by decide +kernel) (by decide +kernel)
theorem uwX7 : ∀ w ∈ u_ws RX7 TX7 2, w ∈ tbl := uws_in [196, 198] (by decide +kernel) (by decide +kernel)
theorem uwX8 : ∀ w ∈ u_ws RX8 TX8 6, w ∈ tbl := uws_in [466, 468, 470, 472, 474, 476] (by decide +kernel) (by decide +kernel)
theorem uwX9 : ∀ w ∈ u_ws RX9 TX9 16, w ∈ tbl := uws_in [389, 391, 393, 395, 397, 399, 401, 403, 405, 407, 409, 411, 413, 415, 417, 419] (by decide +kernel) (by decide +kernel)
theorem uwX10 : ∀ w ∈ u_ws RX10 TX10 4, w ∈ tbl := uws_in [437, 439, 441, 443] (by decide +kernel) (by decide +kernel)
theorem uwX11 : ∀ w ∈ u_ws RX11 TX11 15, w ∈ tbl := uws_in [638, 640, 642, 644, 646, 648, 650, 652, 654, 656, 658, 660, 662, 664, 666] (by decide +kernel) (by decide +kernel)
theorem uwX12 : ∀ w ∈ u_ws RX12 TX12 87, w ∈ tbl := uws_in [1635, 1637, 1639, 1641, 1643, 1645, 1647, 1649, 1651, 1653, 1655, 1657, 1659, 1661, 1663, 1665, 1667, 1669, 1671, 1673, 1675, 1677, 1679, 1681, 1683, 1685, 1687, 1689, 1691, 1693, 1695, 1697, 1699, 1701, 1703, 1705, 1707, 1709, 1711, 1713, 1715, 1717, 1719, 1721, 1723, 1725, 1727, 1729, 1731, 1733, 1735, 1737, 1739, 1741, 1743, 1745, 1747, 1749, 1751, 1753, 1755, 1757, 1759, 1761, 1763, 1765, 1767, 1769, 1771, 1773, 1775, 1777, 1779, 1781, 1783, 1785, 1787, 1789, 1791, 1793, 1795, 1797, 1799, 1801, 1803, 1805, 1807] (by decide +kernel) (by decide +kernel)
theorem fl_X0_11 : FL RX0 11 0 1 RX0 TX0 4 := ⟨rfl, uwX0, by decide, rfl, q_558⟩
theorem fl_X0_15 : FL RX0 15 0 2 RX0 TX0 4 := ⟨rfl, uwX0, by decide, rfl, q_559⟩
theorem fl_X0_18 : FL RX0 18 0 3 RX0 TX0 4 := ⟨rfl, uwX0, by decide, rfl, q_560⟩
theorem fl_X0_21 : FL RX0 21 0 0 RX0 TX0 4 := ⟨rfl, uwX0, by decide, rfl, q_557⟩
theorem fl_X1_15 : FL RX1 15 1 0 RX1 TX1 5 := ⟨rfl, uwX1, by decide, rfl, q_535⟩
theorem fl_X1_19 : FL RX1 19 1 1 RX1 TX1 5 := ⟨rfl, uwX1, by decide, rfl, q_536⟩
theorem fl_X1_23 : FL RX1 23 1 2 RX1 TX1 5 := ⟨rfl, uwX1, by decide, rfl, q_537⟩
theorem fl_X1_27 : FL RX1 27 1 3 RX1 TX1 5 := ⟨rfl, uwX1, by decide, rfl, q_538⟩
theorem fl_X1_9 : FL RX1 9 1 4 RX1 TX1 5 := ⟨rfl, uwX1, by decide, rfl, q_539⟩
theorem fl_X2_15 : FL RX2 15 2 1 RX2 TX2 19 := ⟨rfl, uwX2, by decide, rfl, q_210⟩
theorem fl_X2_18 : FL RX2 18 2 2 RX2 TX2 19 := ⟨rfl, uwX2, by decide, rfl, q_214⟩
theorem fl_X2_21 : FL RX2 21 2 3 RX2 TX2 19 := ⟨rfl, uwX2, by decide, rfl, q_218⟩
theorem fl_X2_24 : FL RX2 24 2 4 RX2 TX2 19 := ⟨rfl, uwX2, by decide, rfl, q_221⟩
theorem fl_X2_27 : FL RX2 27 2 5 RX2 TX2 19 := ⟨rfl, uwX2, by decide, rfl, q_225⟩
theorem fl_X2_30 : FL RX2 30 2 6 RX2 TX2 19 := ⟨rfl, uwX2, by decide, rfl, q_229⟩
theorem fl_X2_34 : FL RX2 34 2 7 RX2 TX2 19 := ⟨rfl, uwX2, by decide, rfl, q_231⟩
theorem fl_X2_37 : FL RX2 37 2 8 RX2 TX2 19 := ⟨rfl, uwX2, by decide, rfl, q_235⟩
theorem fl_X2_40 : FL RX2 40 2 9 RX2 TX2 19 := ⟨rfl, uwX2, by decide, rfl, q_239⟩
theorem fl_X2_43 : FL RX2 43 2 10 RX2 TX2 19 := ⟨rfl, uwX2, by decide, rfl, q_242⟩
theorem fl_X2_46 : FL RX2 46 2 11 RX2 TX2 19 := ⟨rfl, uwX2, by decide, rfl, q_245⟩
theorem fl_X2_49 : FL RX2 49 2 12 RX2 TX2 19 := ⟨rfl, uwX2, by decide, rfl, q_248⟩
theorem fl_X2_52 : FL RX2 52 2 13 RX2 TX2 19 := ⟨rfl, uwX2, by decide, rfl, q_251⟩
theorem fl_X2_55 : FL RX2 55 2 14 RX2 TX2 19 := ⟨rfl, uwX2, by decide, rfl, q_254⟩
theorem fl_X2_58 : FL RX2 58 2 15 RX2 TX2 19 := ⟨rfl, uwX2, by decide, rfl, q_258⟩
theorem fl_X2_61 : FL RX2 61 2 16 RX2 TX2 19 := ⟨rfl, uwX2, by decide, rfl, q_260⟩
theorem fl_X2_64 : FL RX2 64 2 17 RX2 TX2 19 := ⟨rfl, uwX2, by decide, rfl, q_264⟩
theorem fl_X2_67 : FL RX2 67 2 18 RX2 TX2 19 := ⟨rfl, uwX2, by decide, rfl, q_268⟩
theorem fl_X2_9 : FL RX2 9 2 0 RX2 TX2 19 := ⟨rfl, uwX2, by decide, rfl, q_208⟩
theorem fl_X3_13 : FL RX3 13 3 4 RX3 TX3 5 := ⟨rfl, uwX3, by decide, rfl, q_517⟩
theorem fl_X3_16 : FL RX3 16 3 0 RX3 TX3 5 := ⟨rfl, uwX3, by decide, rfl, q_513⟩
theorem fl_X3_26 : FL RX3 26 3 1 RX3 TX3 5 := ⟨rfl, uwX3, by decide, rfl, q_514⟩
theorem fl_X3_32 : FL RX3 32 3 2 RX3 TX3 5 := ⟨rfl, uwX3, by decide, rfl, q_515⟩
theorem fl_X3_9 : FL RX3 9 3 3 RX3 TX3 5 := ⟨rfl, uwX3, by decide, rfl, q_516⟩
theorem fl_X4_11 : FL RX4 11 4 1 RX4 TX4 15 := ⟨rfl, uwX4, by decide, rfl, q_577⟩
theorem fl_X4_15 : FL RX4 15 4 2 RX4 TX4 15 := ⟨rfl, uwX4, by decide, rfl, q_578⟩
theorem fl_X4_18 : FL RX4 18 4 3 RX4 TX4 15 := ⟨rfl, uwX4, by decide, rfl, q_579⟩
theorem fl_X4_21 : FL RX4 21 4 4 RX4 TX4 15 := ⟨rfl, uwX4, by decide, rfl, q_580⟩
theorem fl_X4_24 : FL RX4 24 4 5 RX4 TX4 15 := ⟨rfl, uwX4, by decide, rfl, q_581⟩
theorem fl_X4_27 : FL RX4 27 4 6 RX4 TX4 15 := ⟨rfl, uwX4, by decide, rfl, q_582⟩
theorem fl_X4_31 : FL RX4 31 4 7 RX4 TX4 15 := ⟨rfl, uwX4, by decide, rfl, q_583⟩
theorem fl_X4_34 : FL RX4 34 4 8 RX4 TX4 15 := ⟨rfl, uwX4, by decide, rfl, q_584⟩
theorem fl_X4_37 : FL RX4 37 4 9 RX4 TX4 15 := ⟨rfl, uwX4, by decide, rfl, q_585⟩
theorem fl_X4_40 : FL RX4 40 4 10 RX4 TX4 15 := ⟨rfl, uwX4, by decide, rfl, q_586⟩
theorem fl_X4_43 : FL RX4 43 4 11 RX4 TX4 15 := ⟨rfl, uwX4, by decide, rfl, q_587⟩
theorem fl_X4_46 : FL RX4 46 4 12 RX4 TX4 15 := ⟨rfl, uwX4, by decide, rfl, q_588⟩
theorem fl_X4_49 : FL RX4 49 4 13 RX4 TX4 15 := ⟨rfl, uwX4, by decide, rfl, q_589⟩
theorem fl_X4_52 : FL RX4 52 4 14 RX4 TX4 15 := ⟨rfl, uwX4, by decide, rfl, q_590⟩
theorem fl_X4_56 : FL RX4 56 4 0 RX4 TX4 15 := ⟨rfl, uwX4, by decide, rfl, q_576⟩
theorem fl_X5_14 : FL RX5 14 5 2 RX5 TX5 9 := ⟨rfl, uwX5, by decide, rfl, q_481⟩
theorem fl_X5_20 : FL RX5 20 5 3 RX5 TX5 9 := ⟨rfl, uwX5, by decide, rfl, q_482⟩
theorem fl_X5_23 : FL RX5 23 5 4 RX5 TX5 9 := ⟨rfl, uwX5, by decide, rfl, q_483⟩
theorem fl_X5_27 : FL RX5 27 5 5 RX5 TX5 9 := ⟨rfl, uwX5, by decide, rfl, q_484⟩
theorem fl_X5_31 : FL RX5 31 5 6 RX5 TX5 9 := ⟨rfl, uwX5, by decide, rfl, q_485⟩
theorem fl_X5_34 : FL RX5 34 5 7 RX5 TX5 9 := ⟨rfl, uwX5, by decide, rfl, q_486⟩
theorem fl_X5_37 : FL RX5 37 5 8 RX5 TX5 9 := ⟨rfl, uwX5, by decide, rfl, q_487⟩
theorem fl_X5_45 : FL RX5 45 5 0 RX5 TX5 9 := ⟨rfl, uwX5, by decide, rfl, q_479⟩
theorem fl_X5_49 : FL RX5 49 5 1 RX5 TX5 9 := ⟨rfl, uwX5, by decide, rfl, q_480⟩
theorem fl_X6_15 : FL RX6 15 6 1 RX6 TX6 3 := ⟨rfl, uwX6, by decide, rfl, q_324⟩
theorem fl_X6_19 : FL RX6 19 6 2 RX6 TX6 3 := ⟨rfl, uwX6, by decide, rfl, q_325⟩
theorem fl_X6_9 : FL RX6 9 6 0 RX6 TX6 3 := ⟨rfl, uwX6, by decide, rfl, q_323⟩
theorem fl_X7_15 : FL RX7 15 7 1 RX7 TX7 2 := ⟨rfl, uwX7, by decide, rfl, q_195⟩
theorem fl_X7_9 : FL RX7 9 7 0 RX7 TX7 2 := ⟨rfl, uwX7, by decide, rfl, q_194⟩
theorem fl_X8_15 : FL RX8 15 8 2 RX8 TX8 6 := ⟨rfl, uwX8, by decide, rfl, q_462⟩
theorem fl_X8_18 : FL RX8 18 8 3 RX8 TX8 6 := ⟨rfl, uwX8, by decide, rfl, q_463⟩
theorem fl_X8_21 : FL RX8 21 8 4 RX8 TX8 6 := ⟨rfl, uwX8, by decide, rfl, q_464⟩
theorem fl_X8_25 : FL RX8 25 8 5 RX8 TX8 6 := ⟨rfl, uwX8, by decide, rfl, q_465⟩
theorem fl_X8_28 : FL RX8 28 8 0 RX8 TX8 6 := ⟨rfl, uwX8, by decide, rfl, q_460⟩
theorem fl_X8_9 : FL RX8 9 8 1 RX8 TX8 6 := ⟨rfl, uwX8, by decide, rfl, q_461⟩
theorem fl_X9_14 : FL RX9 14 9 0 RX9 TX9 16 := ⟨rfl, uwX9, by decide, rfl, q_345⟩
theorem fl_X9_20 : FL RX9 20 9 1 RX9 TX9 16 := ⟨rfl, uwX9, by decide, rfl, q_348⟩
theorem fl_X9_23 : FL RX9 23 9 2 RX9 TX9 16 := ⟨rfl, uwX9, by decide, rfl, q_351⟩
theorem fl_X9_26 : FL RX9 26 9 3 RX9 TX9 16 := ⟨rfl, uwX9, by decide, rfl, q_354⟩
theorem fl_X9_29 : FL RX9 29 9 4 RX9 TX9 16 := ⟨rfl, uwX9, by decide, rfl, q_357⟩
theorem fl_X9_32 : FL RX9 32 9 5 RX9 TX9 16 := ⟨rfl, uwX9, by decide, rfl, q_360⟩
theorem fl_X9_35 : FL RX9 35 9 6 RX9 TX9 16 := ⟨rfl, uwX9, by decide, rfl, q_362⟩
theorem fl_X9_38 : FL RX9 38 9 7 RX9 TX9 16 := ⟨rfl, uwX9, by decide, rfl, q_365⟩
theorem fl_X9_41 : FL RX9 41 9 8 RX9 TX9 16 := ⟨rfl, uwX9, by decide, rfl, q_368⟩
theorem fl_X9_44 : FL RX9 44 9 9 RX9 TX9 16 := ⟨rfl, uwX9, by decide, rfl, q_371⟩
theorem fl_X9_47 : FL RX9 47 9 10 RX9 TX9 16 := ⟨rfl, uwX9, by decide, rfl, q_374⟩
theorem fl_X9_50 : FL RX9 50 9 11 RX9 TX9 16 := ⟨rfl, uwX9, by decide, rfl, q_377⟩
theorem fl_X9_53 : FL RX9 53 9 12 RX9 TX9 16 := ⟨rfl, uwX9, by decide, rfl, q_379⟩
theorem fl_X9_56 : FL RX9 56 9 13 RX9 TX9 16 := ⟨rfl, uwX9, by decide, rfl, q_381⟩
theorem fl_X9_59 : FL RX9 59 9 14 RX9 TX9 16 := ⟨rfl, uwX9, by decide, rfl, q_383⟩
theorem fl_X9_62 : FL RX9 62 9 15 RX9 TX9 16 := ⟨rfl, uwX9, by decide, rfl, q_386⟩
theorem fl_X10_13 : FL RX10 13 10 0 RX10 TX10 4 := ⟨rfl, uwX10, by decide, rfl, q_433⟩
theorem fl_X10_17 : FL RX10 17 10 1 RX10 TX10 4 := ⟨rfl, uwX10, by decide, rfl, q_434⟩
theorem fl_X10_21 : FL RX10 21 10 2 RX10 TX10 4 := ⟨rfl, uwX10, by decide, rfl, q_435⟩
theorem fl_X10_25 : FL RX10 25 10 3 RX10 TX10 4 := ⟨rfl, uwX10, by decide, rfl, q_436⟩
theorem fl_X11_100 : FL RX11 100 11 12 RX11 TX11 15 := ⟨rfl, uwX11, by decide, rfl, q_635⟩
theorem fl_X11_103 : FL RX11 103 11 13 RX11 TX11 15 := ⟨rfl, uwX11, by decide, rfl, q_636⟩
theorem fl_X11_106 : FL RX11 106 11 14 RX11 TX11 15 := ⟨rfl, uwX11, by decide, rfl, q_637⟩
theorem fl_X11_12 : FL RX11 12 11 0 RX11 TX11 15 := ⟨rfl, uwX11, by decide, rfl, q_623⟩
theorem fl_X11_19 : FL RX11 19 11 1 RX11 TX11 15 := ⟨rfl, uwX11, by decide, rfl, q_624⟩
theorem fl_X11_26 : FL RX11 26 11 2 RX11 TX11 15 := ⟨rfl, uwX11, by decide, rfl, q_625⟩
theorem fl_X11_35 : FL RX11 35 11 3 RX11 TX11 15 := ⟨rfl, uwX11, by decide, rfl, q_626⟩
theorem fl_X11_42 : FL RX11 42 11 4 RX11 TX11 15 := ⟨rfl, uwX11, by decide, rfl, q_627⟩
theorem fl_X11_51 : FL RX11 51 11 5 RX11 TX11 15 := ⟨rfl, uwX11, by decide, rfl, q_628⟩
theorem fl_X11_60 : FL RX11 60 11 6 RX11 TX11 15 := ⟨rfl, uwX11, by decide, rfl, q_629⟩
theorem fl_X11_69 : FL RX11 69 11 7 RX11 TX11 15 := ⟨rfl, uwX11, by decide, rfl, q_630⟩
theorem fl_X11_81 : FL RX11 81 11 8 RX11 TX11 15 := ⟨rfl, uwX11, by decide, rfl, q_631⟩
theorem fl_X11_90 : FL RX11 90 11 9 RX11 TX11 15 := ⟨rfl, uwX11, by decide, rfl, q_632⟩
theorem fl_X11_94 : FL RX11 94 11 10 RX11 TX11 15 := ⟨rfl, uwX11, by decide, rfl, q_633⟩
theorem fl_X11_97 : FL RX11 97 11 11 RX11 TX11 15 := ⟨rfl, uwX11, by decide, rfl, q_634⟩
theorem fl_X12_101 : FL RX12 101 12 51 RX12 TX12 87 := ⟨rfl, uwX12, by decide, rfl, q_1599⟩
theorem fl_X12_104 : FL RX12 104 12 53 RX12 TX12 87 := ⟨rfl, uwX12, by decide, rfl, q_1601⟩
theorem fl_X12_107 : FL RX12 107 12 54 RX12 TX12 87 := ⟨rfl, uwX12, by decide, rfl, q_1602⟩
theorem fl_X12_110 : FL RX12 110 12 55 RX12 TX12 87 := ⟨rfl, uwX12, by decide, rfl, q_1603⟩
theorem fl_X12_113 : FL RX12 113 12 56 RX12 TX12 87 := ⟨rfl, uwX12, by decide, rfl, q_1604⟩
theorem fl_X12_116 : FL RX12 116 12 57 RX12 TX12 87 := ⟨rfl, uwX12, by decide, rfl, q_1605⟩
theorem fl_X12_119 : FL RX12 119 12 59 RX12 TX12 87 := ⟨rfl, uwX12, by decide, rfl, q_1607⟩
theorem fl_X12_122 : FL RX12 122 12 60 RX12 TX12 87 := ⟨rfl, uwX12, by decide, rfl, q_1608⟩
theorem fl_X12_125 : FL RX12 125 12 61 RX12 TX12 87 := ⟨rfl, uwX12, by decide, rfl, q_1609⟩
theorem fl_X12_128 : FL RX12 128 12 63 RX12 TX12 87 := ⟨rfl, uwX12, by decide, rfl, q_1611⟩
theorem fl_X12_13 : FL RX12 13 12 2 RX12 TX12 87 := ⟨rfl, uwX12, by decide, rfl, q_1550⟩
theorem fl_X12_131 : FL RX12 131 12 65 RX12 TX12 87 := ⟨rfl, uwX12, by decide, rfl, q_1613⟩
theorem fl_X12_134 : FL RX12 134 12 66 RX12 TX12 87 := ⟨rfl, uwX12, by decide, rfl, q_1614⟩
theorem fl_X12_137 : FL RX12 137 12 67 RX12 TX12 87 := ⟨rfl, uwX12, by decide, rfl, q_1615⟩
theorem fl_X12_140 : FL RX12 140 12 68 RX12 TX12 87 := ⟨rfl, uwX12, by decide, rfl, q_1616⟩
theorem fl_X12_143 : FL RX12 143 12 69 RX12 TX12 87 := ⟨rfl, uwX12, by decide, rfl, q_1617⟩
theorem fl_X12_146 : FL RX12 146 12 71 RX12 TX12 87 := ⟨rfl, uwX12, by decide, rfl, q_1619⟩
theorem fl_X12_149 : FL RX12 149 12 73 RX12 TX12 87 := ⟨rfl, uwX12, by decide, rfl, q_1621⟩
theorem fl_X12_152 : FL RX12 152 12 74 RX12 TX12 87 := ⟨rfl, uwX12, by decide, rfl, q_1622⟩
theorem fl_X12_155 : FL RX12 155 12 75 RX12 TX12 87 := ⟨rfl, uwX12, by decide, rfl, q_1623⟩
theorem fl_X12_158 : FL RX12 158 12 76 RX12 TX12 87 := ⟨rfl, uwX12, by decide, rfl, q_1624⟩
theorem fl_X12_16 : FL RX12 16 12 4 RX12 TX12 87 := ⟨rfl, uwX12, by decide, rfl, q_1552⟩
theorem fl_X12_161 : FL RX12 161 12 77 RX12 TX12 87 := ⟨rfl, uwX12, by decide, rfl, q_1625⟩
theorem fl_X12_164 : FL RX12 164 12 78 RX12 TX12 87 := ⟨rfl, uwX12, by decide, rfl, q_1626⟩
theorem fl_X12_167 : FL RX12 167 12 79 RX12 TX12 87 := ⟨rfl, uwX12, by decide, rfl, q_1627⟩
theorem fl_X12_170 : FL RX12 170 12 80 RX12 TX12 87 := ⟨rfl, uwX12, by decide, rfl, q_1628⟩
theorem fl_X12_173 : FL RX12 173 12 81 RX12 TX12 87 := ⟨rfl, uwX12, by decide, rfl, q_1629⟩
theorem fl_X12_177 : FL RX12 177 12 82 RX12 TX12 87 := ⟨rfl, uwX12, by decide, rfl, q_1630⟩
theorem fl_X12_180 : FL RX12 180 12 86 RX12 TX12 87 := ⟨rfl, uwX12, by decide, rfl, q_1634⟩
theorem fl_X12_183 : FL RX12 183 12 0 RX12 TX12 87 := ⟨rfl, uwX12, by decide, rfl, q_1548⟩
theorem fl_X12_187 : FL RX12 187 12 3 RX12 TX12 87 := ⟨rfl, uwX12, by decide, rfl, q_1551⟩
theorem fl_X12_19 : FL RX12 19 12 8 RX12 TX12 87 := ⟨rfl, uwX12, by decide, rfl, q_1556⟩
theorem fl_X12_190 : FL RX12 190 12 5 RX12 TX12 87 := ⟨rfl, uwX12, by decide, rfl, q_1553⟩
theorem fl_X12_196 : FL RX12 196 12 6 RX12 TX12 87 := ⟨rfl, uwX12, by decide, rfl, q_1554⟩
theorem fl_X12_199 : FL RX12 199 12 7 RX12 TX12 87 := ⟨rfl, uwX12, by decide, rfl, q_1555⟩
theorem fl_X12_22 : FL RX12 22 12 9 RX12 TX12 87 := ⟨rfl, uwX12, by decide, rfl, q_1557⟩
theorem fl_X12_220 : FL RX12 220 12 13 RX12 TX12 87 := ⟨rfl, uwX12, by decide, rfl, q_1561⟩
theorem fl_X12_227 : FL RX12 227 12 14 RX12 TX12 87 := ⟨rfl, uwX12, by decide, rfl, q_1562⟩
theorem fl_X12_233 : FL RX12 233 12 15 RX12 TX12 87 := ⟨rfl, uwX12, by decide, rfl, q_1563⟩
theorem fl_X12_236 : FL RX12 236 12 16 RX12 TX12 87 := ⟨rfl, uwX12, by decide, rfl, q_1564⟩
theorem fl_X12_239 : FL RX12 239 12 17 RX12 TX12 87 := ⟨rfl, uwX12, by decide, rfl, q_1565⟩
theorem fl_X12_25 : FL RX12 25 12 10 RX12 TX12 87 := ⟨rfl, uwX12, by decide, rfl, q_1558⟩
theorem fl_X12_255 : FL RX12 255 12 31 RX12 TX12 87 := ⟨rfl, uwX12, by decide, rfl, q_1579⟩
theorem fl_X12_258 : FL RX12 258 12 32 RX12 TX12 87 := ⟨rfl, uwX12, by decide, rfl, q_1580⟩
theorem fl_X12_261 : FL RX12 261 12 27 RX12 TX12 87 := ⟨rfl, uwX12, by decide, rfl, q_1575⟩
theorem fl_X12_28 : FL RX12 28 12 11 RX12 TX12 87 := ⟨rfl, uwX12, by decide, rfl, q_1559⟩
theorem fl_X12_290 : FL RX12 290 12 30 RX12 TX12 87 := ⟨rfl, uwX12, by decide, rfl, q_1578⟩
theorem fl_X12_293 : FL RX12 293 12 28 RX12 TX12 87 := ⟨rfl, uwX12, by decide, rfl, q_1576⟩
theorem fl_X12_31 : FL RX12 31 12 12 RX12 TX12 87 := ⟨rfl, uwX12, by decide, rfl, q_1560⟩
theorem fl_X12_315 : FL RX12 315 12 26 RX12 TX12 87 := ⟨rfl, uwX12, by decide, rfl, q_1574⟩
theorem fl_X12_34 : FL RX12 34 12 18 RX12 TX12 87 := ⟨rfl, uwX12, by decide, rfl, q_1566⟩
theorem fl_X12_352 : FL RX12 352 12 39 RX12 TX12 87 := ⟨rfl, uwX12, by decide, rfl, q_1587⟩
theorem fl_X12_355 : FL RX12 355 12 35 RX12 TX12 87 := ⟨rfl, uwX12, by decide, rfl, q_1583⟩
theorem fl_X12_358 : FL RX12 358 12 37 RX12 TX12 87 := ⟨rfl, uwX12, by decide, rfl, q_1585⟩
theorem fl_X12_361 : FL RX12 361 12 33 RX12 TX12 87 := ⟨rfl, uwX12, by decide, rfl, q_1581⟩
theorem fl_X12_37 : FL RX12 37 12 19 RX12 TX12 87 := ⟨rfl, uwX12, by decide, rfl, q_1567⟩
theorem fl_X12_40 : FL RX12 40 12 20 RX12 TX12 87 := ⟨rfl, uwX12, by decide, rfl, q_1568⟩
theorem fl_X12_43 : FL RX12 43 12 21 RX12 TX12 87 := ⟨rfl, uwX12, by decide, rfl, q_1569⟩
theorem fl_X12_46 : FL RX12 46 12 22 RX12 TX12 87 := ⟨rfl, uwX12, by decide, rfl, q_1570⟩
theorem fl_X12_487 : FL RX12 487 12 49 RX12 TX12 87 := ⟨rfl, uwX12, by decide, rfl, q_1597⟩
theorem fl_X12_49 : FL RX12 49 12 23 RX12 TX12 87 := ⟨rfl, uwX12, by decide, rfl, q_1571⟩
theorem fl_X12_496 : FL RX12 496 12 52 RX12 TX12 87 := ⟨rfl, uwX12, by decide, rfl, q_1600⟩
theorem fl_X12_500 : FL RX12 500 12 58 RX12 TX12 87 := ⟨rfl, uwX12, by decide, rfl, q_1606⟩
theorem fl_X12_512 : FL RX12 512 12 62 RX12 TX12 87 := ⟨rfl, uwX12, by decide, rfl, q_1610⟩
theorem fl_X12_52 : FL RX12 52 12 24 RX12 TX12 87 := ⟨rfl, uwX12, by decide, rfl, q_1572⟩
theorem fl_X12_524 : FL RX12 524 12 64 RX12 TX12 87 := ⟨rfl, uwX12, by decide, rfl, q_1612⟩
theorem fl_X12_537 : FL RX12 537 12 70 RX12 TX12 87 := ⟨rfl, uwX12, by decide, rfl, q_1618⟩
theorem fl_X12_543 : FL RX12 543 12 72 RX12 TX12 87 := ⟨rfl, uwX12, by decide, rfl, q_1620⟩
theorem fl_X12_55 : FL RX12 55 12 25 RX12 TX12 87 := ⟨rfl, uwX12, by decide, rfl, q_1573⟩
theorem fl_X12_561 : FL RX12 561 12 85 RX12 TX12 87 := ⟨rfl, uwX12, by decide, rfl, q_1633⟩
theorem fl_X12_564 : FL RX12 564 12 83 RX12 TX12 87 := ⟨rfl, uwX12, by decide, rfl, q_1631⟩
theorem fl_X12_570 : FL RX12 570 12 84 RX12 TX12 87 := ⟨rfl, uwX12, by decide, rfl, q_1632⟩
theorem fl_X12_58 : FL RX12 58 12 29 RX12 TX12 87 := ⟨rfl, uwX12, by decide, rfl, q_1577⟩
theorem fl_X12_61 : FL RX12 61 12 34 RX12 TX12 87 := ⟨rfl, uwX12, by decide, rfl, q_1582⟩
theorem fl_X12_65 : FL RX12 65 12 36 RX12 TX12 87 := ⟨rfl, uwX12, by decide, rfl, q_1584⟩
theorem fl_X12_68 : FL RX12 68 12 38 RX12 TX12 87 := ⟨rfl, uwX12, by decide, rfl, q_1586⟩
theorem fl_X12_7 : FL RX12 7 12 1 RX12 TX12 87 := ⟨rfl, uwX12, by decide, rfl, q_1549⟩
theorem fl_X12_71 : FL RX12 71 12 40 RX12 TX12 87 := ⟨rfl, uwX12, by decide, rfl, q_1588⟩
theorem fl_X12_74 : FL RX12 74 12 41 RX12 TX12 87 := ⟨rfl, uwX12, by decide, rfl, q_1589⟩
theorem fl_X12_77 : FL RX12 77 12 42 RX12 TX12 87 := ⟨rfl, uwX12, by decide, rfl, q_1590⟩
theorem fl_X12_80 : FL RX12 80 12 43 RX12 TX12 87 := ⟨rfl, uwX12, by decide, rfl, q_1591⟩
theorem fl_X12_83 : FL RX12 83 12 44 RX12 TX12 87 := ⟨rfl, uwX12, by decide, rfl, q_1592⟩
theorem fl_X12_86 : FL RX12 86 12 45 RX12 TX12 87 := ⟨rfl, uwX12, by decide, rfl, q_1593⟩
theorem fl_X12_89 : FL RX12 89 12 46 RX12 TX12 87 := ⟨rfl, uwX12, by decide, rfl, q_1594⟩
theorem fl_X12_92 : FL RX12 92 12 47 RX12 TX12 87 := ⟨rfl, uwX12, by decide, rfl, q_1595⟩
theorem fl_X12_95 : FL RX12 95 12 48 RX12 TX12 87 := ⟨rfl, uwX12, by decide, rfl, q_1596⟩
theorem fl_X12_98 : FL RX12 98 12 50 RX12 TX12 87 := ⟨rfl, uwX12, by decide, rfl, q_1598⟩
theorem fn_X1_110 : FN RX1 110 2 7 RX2 TX2 19 := ⟨rfl, uwX2, by decide, rfl, _, q_233⟩
theorem fn_X1_117 : FN RX1 117 2 9 RX2 TX2 19 := ⟨rfl, uwX2, by decide, rfl, _, q_241⟩
theorem fn_X1_120 : FN RX1 120 9 2 RX9 TX9 16 := ⟨rfl, uwX9, by decide, rfl, _, q_352⟩
theorem fn_X1_126 : FN RX1 126 2 13 RX2 TX2 19 := ⟨rfl, uwX2, by decide, rfl, _, q_252⟩
theorem fn_X1_147 : FN RX1 147 2 16 RX2 TX2 19 := ⟨rfl, uwX2, by decide, rfl, _, q_262⟩
theorem fn_X1_157 : FN RX1 157 2 17 RX2 TX2 19 := ⟨rfl, uwX2, by decide, rfl, _, q_266⟩
theorem fn_X1_160 : FN RX1 160 2 14 RX2 TX2 19 := ⟨rfl, uwX2, by decide, rfl, _, q_256⟩
theorem fn_X1_163 : FN RX1 163 2 15 RX2 TX2 19 := ⟨rfl, uwX2, by decide, rfl, _, q_259⟩
theorem fn_X1_166 : FN RX1 166 2 4 RX2 TX2 19 := ⟨rfl, uwX2, by decide, rfl, _, q_223⟩
theorem fn_X1_172 : FN RX1 172 2 18 RX2 TX2 19 := ⟨rfl, uwX2, by decide, rfl, _, q_269⟩
theorem fn_X1_175 : FN RX1 175 2 10 RX2 TX2 19 := ⟨rfl, uwX2, by decide, rfl, _, q_244⟩
theorem fn_X1_31 : FN RX1 31 2 1 RX2 TX2 19 := ⟨rfl, uwX2, by decide, rfl, _, q_211⟩
theorem fn_X1_46 : FN RX1 46 2 5 RX2 TX2 19 := ⟨rfl, uwX2, by decide, rfl, _, q_226⟩
theorem fn_X1_75 : FN RX1 75 2 8 RX2 TX2 19 := ⟨rfl, uwX2, by decide, rfl, _, q_237⟩
theorem fn_X1_79 : FN RX1 79 2 3 RX2 TX2 19 := ⟨rfl, uwX2, by decide, rfl, _, q_219⟩
theorem fn_X1_82 : FN RX1 82 2 2 RX2 TX2 19 := ⟨rfl, uwX2, by decide, rfl, _, q_216⟩
theorem fn_X1_95 : FN RX1 95 9 3 RX9 TX9 16 := ⟨rfl, uwX9, by decide, rfl, _, q_355⟩
theorem fn_X3_101 : FN RX3 101 2 1 RX2 TX2 19 := ⟨rfl, uwX2, by decide, rfl, _, q_212⟩
theorem fn_X3_105 : FN RX3 105 2 2 RX2 TX2 19 := ⟨rfl, uwX2, by decide, rfl, _, q_215⟩
theorem fn_X3_74 : FN RX3 74 2 11 RX2 TX2 19 := ⟨rfl, uwX2, by decide, rfl, _, q_246⟩
theorem fn_X3_77 : FN RX3 77 2 12 RX2 TX2 19 := ⟨rfl, uwX2, by decide, rfl, _, q_249⟩
theorem fn_X3_80 : FN RX3 80 2 14 RX2 TX2 19 := ⟨rfl, uwX2, by decide, rfl, _, q_255⟩
theorem fn_X3_83 : FN RX3 83 2 16 RX2 TX2 19 := ⟨rfl, uwX2, by decide, rfl, _, q_261⟩
theorem fn_X3_86 : FN RX3 86 2 17 RX2 TX2 19 := ⟨rfl, uwX2, by decide, rfl, _, q_265⟩
theorem fn_X3_92 : FN RX3 92 2 10 RX2 TX2 19 := ⟨rfl, uwX2, by decide, rfl, _, q_243⟩
theorem fn_X3_95 : FN RX3 95 2 7 RX2 TX2 19 := ⟨rfl, uwX2, by decide, rfl, _, q_232⟩
theorem fn_X3_98 : FN RX3 98 2 8 RX2 TX2 19 := ⟨rfl, uwX2, by decide, rfl, _, q_236⟩
theorem fn_X4_101 : FN RX4 101 9 8 RX9 TX9 16 := ⟨rfl, uwX9, by decide, rfl, _, q_369⟩
theorem fn_X4_115 : FN RX4 115 9 9 RX9 TX9 16 := ⟨rfl, uwX9, by decide, rfl, _, q_372⟩
theorem fn_X4_122 : FN RX4 122 9 10 RX9 TX9 16 := ⟨rfl, uwX9, by decide, rfl, _, q_375⟩
theorem fn_X4_127 : FN RX4 127 9 11 RX9 TX9 16 := ⟨rfl, uwX9, by decide, rfl, _, q_378⟩
theorem fn_X4_130 : FN RX4 130 9 12 RX9 TX9 16 := ⟨rfl, uwX9, by decide, rfl, _, q_380⟩
theorem fn_X4_133 : FN RX4 133 9 13 RX9 TX9 16 := ⟨rfl, uwX9, by decide, rfl, _, q_382⟩
theorem fn_X4_136 : FN RX4 136 9 14 RX9 TX9 16 := ⟨rfl, uwX9, by decide, rfl, _, q_384⟩
theorem fn_X4_147 : FN RX4 147 9 15 RX9 TX9 16 := ⟨rfl, uwX9, by decide, rfl, _, q_387⟩
theorem fn_X4_157 : FN RX4 157 9 4 RX9 TX9 16 := ⟨rfl, uwX9, by decide, rfl, _, q_358⟩
theorem fn_X4_60 : FN RX4 60 9 6 RX9 TX9 16 := ⟨rfl, uwX9, by decide, rfl, _, q_363⟩
theorem fn_X4_94 : FN RX4 94 9 7 RX9 TX9 16 := ⟨rfl, uwX9, by decide, rfl, _, q_366⟩
theorem fn_X5_105 : FN RX5 105 2 5 RX2 TX2 19 := ⟨rfl, uwX2, by decide, rfl, _, q_227⟩
theorem fn_X5_96 : FN RX5 96 2 4 RX2 TX2 19 := ⟨rfl, uwX2, by decide, rfl, _, q_222⟩
theorem fn_X11_110 : FN RX11 110 2 0 RX2 TX2 19 := ⟨rfl, uwX2, by decide, rfl, _, q_209⟩
theorem fn_X11_138 : FN RX11 138 2 8 RX2 TX2 19 := ⟨rfl, uwX2, by decide, rfl, _, q_238⟩
theorem fn_X11_145 : FN RX11 145 2 9 RX2 TX2 19 := ⟨rfl, uwX2, by decide, rfl, _, q_240⟩
theorem fn_X11_148 : FN RX11 148 2 11 RX2 TX2 19 := ⟨rfl, uwX2, by decide, rfl, _, q_247⟩
theorem fn_X11_151 : FN RX11 151 2 12 RX2 TX2 19 := ⟨rfl, uwX2, by decide, rfl, _, q_250⟩
theorem fn_X11_167 : FN RX11 167 2 13 RX2 TX2 19 := ⟨rfl, uwX2, by decide, rfl, _, q_253⟩
theorem fn_X11_192 : FN RX11 192 2 7 RX2 TX2 19 := ⟨rfl, uwX2, by decide, rfl, _, q_234⟩
theorem fn_X11_195 : FN RX11 195 2 2 RX2 TX2 19 := ⟨rfl, uwX2, by decide, rfl, _, q_217⟩
theorem fn_X11_198 : FN RX11 198 2 1 RX2 TX2 19 := ⟨rfl, uwX2, by decide, rfl, _, q_213⟩
theorem fn_X11_231 : FN RX11 231 9 1 RX9 TX9 16 := ⟨rfl, uwX9, by decide, rfl, _, q_350⟩
theorem fn_X11_243 : FN RX11 243 2 6 RX2 TX2 19 := ⟨rfl, uwX2, by decide, rfl, _, q_230⟩
theorem fn_X11_259 : FN RX11 259 2 14 RX2 TX2 19 := ⟨rfl, uwX2, by decide, rfl, _, q_257⟩
theorem fn_X11_262 : FN RX11 262 2 16 RX2 TX2 19 := ⟨rfl, uwX2, by decide, rfl, _, q_263⟩
theorem fn_X11_265 : FN RX11 265 2 17 RX2 TX2 19 := ⟨rfl, uwX2, by decide, rfl, _, q_267⟩
theorem fn_X11_268 : FN RX11 268 2 18 RX2 TX2 19 := ⟨rfl, uwX2, by decide, rfl, _, q_270⟩
theorem fn_X11_289 : FN RX11 289 9 6 RX9 TX9 16 := ⟨rfl, uwX9, by decide, rfl, _, q_364⟩
theorem fn_X11_305 : FN RX11 305 9 7 RX9 TX9 16 := ⟨rfl, uwX9, by decide, rfl, _, q_367⟩
theorem fn_X11_311 : FN RX11 311 9 8 RX9 TX9 16 := ⟨rfl, uwX9, by decide, rfl, _, q_370⟩
theorem fn_X11_322 : FN RX11 322 9 9 RX9 TX9 16 := ⟨rfl, uwX9, by decide, rfl, _, q_373⟩
theorem fn_X11_331 : FN RX11 331 9 10 RX9 TX9 16 := ⟨rfl, uwX9, by decide, rfl, _, q_376⟩
theorem fn_X11_349 : FN RX11 349 9 14 RX9 TX9 16 := ⟨rfl, uwX9, by decide, rfl, _, q_385⟩
theorem fn_X11_358 : FN RX11 358 9 15 RX9 TX9 16 := ⟨rfl, uwX9, by decide, rfl, _, q_388⟩
theorem fn_X11_410 : FN RX11 410 2 4 RX2 TX2 19 := ⟨rfl, uwX2, by decide, rfl, _, q_224⟩
theorem fn_X11_413 : FN RX11 413 2 5 RX2 TX2 19 := ⟨rfl, uwX2, by decide, rfl, _, q_228⟩
theorem fn_X11_416 : FN RX11 416 2 3 RX2 TX2 19 := ⟨rfl, uwX2, by decide, rfl, _, q_220⟩
theorem fn_X11_425 : FN RX11 425 9 0 RX9 TX9 16 := ⟨rfl, uwX9, by decide, rfl, _, q_347⟩
theorem fn_X11_428 : FN RX11 428 9 2 RX9 TX9 16 := ⟨rfl, uwX9, by decide, rfl, _, q_353⟩
theorem fn_X11_431 : FN RX11 431 9 3 RX9 TX9 16 := ⟨rfl, uwX9, by decide, rfl, _, q_356⟩
theorem fn_X11_434 : FN RX11 434 9 4 RX9 TX9 16 := ⟨rfl, uwX9, by decide, rfl, _, q_359⟩
theorem ft_X1_4 : FT TX1 5 4 .boolean tyX1 := ⟨tyX1_ok, nmX1, rfl, by decide +kernel⟩
theorem ft_X10_2 : FT TX10 4 2 .int tyX10 := ⟨tyX10_ok, nmX10, rfl, by decide +kernel⟩
theorem ft_X10_3 : FT TX10 4 3 .int tyX10 := ⟨tyX10_ok, nmX10, rfl, by decide +kernel⟩
theorem ft_X11_14 : FT TX11 15 14 .boolean tyX11 := ⟨tyX11_ok, nmX11, rfl, by decide +kernel⟩
theorem ft_X12_0 : FT TX12 87 0 .int tyX12 := ⟨tyX12_ok, nmX12, rfl, by decide +kernel⟩
theorem ft_X12_13 : FT TX12 87 13 .int tyX12 := ⟨tyX12_ok, nmX12, rfl, by decide +kernel⟩
theorem ft_X12_14 : FT TX12 87 14 .int tyX12 := ⟨tyX12_ok, nmX12, rfl, by decide +kernel⟩
theorem ft_X12_15 : FT TX12 87 15 .int tyX12 := ⟨tyX12_ok, nmX12, rfl, by decide +kernel⟩
theorem ft_X12_16 : FT TX12 87 16 .int tyX12 := ⟨tyX12_ok, nmX12, rfl, by decide +kernel⟩
theorem ft_X12_17 : FT TX12 87 17 .int tyX12 := ⟨tyX12_ok, nmX12, rfl, by decide +kernel⟩
theorem ft_X12_26 : FT TX12 87 26 .int tyX12 := ⟨tyX12_ok, nmX12, rfl, by decide +kernel⟩
theorem ft_X12_27 : FT TX12 87 27 .int tyX12 := ⟨tyX12_ok, nmX12, rfl, by decide +kernel⟩
theorem ft_X12_28 : FT TX12 87 28 .int tyX12 := ⟨tyX12_ok, nmX12, rfl, by decide +kernel⟩
theorem ft_X12_3 : FT TX12 87 3 .int tyX12 := ⟨tyX12_ok, nmX12, rfl, by decide +kernel⟩
theorem ft_X12_30 : FT TX12 87 30 .int tyX12 := ⟨tyX12_ok, nmX12, rfl, by decide +kernel⟩
theorem ft_X12_31 : FT TX12 87 31 .int tyX12 := ⟨tyX12_ok, nmX12, rfl, by decide +kernel⟩
theorem ft_X12_32 : FT TX12 87 32 .int tyX12 := ⟨tyX12_ok, nmX12, rfl, by decide +kernel⟩
theorem ft_X12_33 : FT TX12 87 33 .int tyX12 := ⟨tyX12_ok, nmX12, rfl, by decide +kernel⟩
theorem ft_X12_34 : FT TX12 87 34 .int tyX12 := ⟨tyX12_ok, nmX12, rfl, by decide +kernel⟩
theorem ft_X12_35 : FT TX12 87 35 .int tyX12 := ⟨tyX12_ok, nmX12, rfl, by decide +kernel⟩
theorem ft_X12_37 : FT TX12 87 37 .int tyX12 := ⟨tyX12_ok, nmX12, rfl, by decide +kernel⟩
theorem ft_X12_39 : FT TX12 87 39 .int tyX12 := ⟨tyX12_ok, nmX12, rfl, by decide +kernel⟩
theorem ft_X12_49 : FT TX12 87 49 .int tyX12 := ⟨tyX12_ok, nmX12, rfl, by decide +kernel⟩
theorem ft_X12_5 : FT TX12 87 5 .boolean tyX12 := ⟨tyX12_ok, nmX12, rfl, by decide +kernel⟩
theorem ft_X12_52 : FT TX12 87 52 .int tyX12 := ⟨tyX12_ok, nmX12, rfl, by decide +kernel⟩
theorem ft_X12_58 : FT TX12 87 58 .int tyX12 := ⟨tyX12_ok, nmX12, rfl, by decide +kernel⟩
theorem ft_X12_6 : FT TX12 87 6 .int tyX12 := ⟨tyX12_ok, nmX12, rfl, by decide +kernel⟩
theorem ft_X12_62 : FT TX12 87 62 .int tyX12 := ⟨tyX12_ok, nmX12, rfl, by decide +kernel⟩
theorem ft_X12_64 : FT TX12 87 64 .int tyX12 := ⟨tyX12_ok, nmX12, rfl, by decide +kernel⟩
theorem ft_X12_7 : FT TX12 87 7 .int tyX12 := ⟨tyX12_ok, nmX12, rfl, by decide +kernel⟩
theorem ft_X12_70 : FT TX12 87 70 .int tyX12 := ⟨tyX12_ok, nmX12, rfl, by decide +kernel⟩
theorem ft_X12_72 : FT TX12 87 72 .int tyX12 := ⟨tyX12_ok, nmX12, rfl, by decide +kernel⟩
theorem ft_X12_83 : FT TX12 87 83 .boolean tyX12 := ⟨tyX12_ok, nmX12, rfl, by decide +kernel⟩
theorem ft_X12_84 : FT TX12 87 84 .boolean tyX12 := ⟨tyX12_ok, nmX12, rfl, by decide +kernel⟩
theorem ft_X12_85 : FT TX12 87 85 .int tyX12 := ⟨tyX12_ok, nmX12, rfl, by decide +kernel⟩
theorem ft_X2_0 : FT TX2 19 0 .int tyX2 := ⟨tyX2_ok, nmX2, rfl, by decide +kernel⟩
theorem ft_X2_1 : FT TX2 19 1 .int tyX2 := ⟨tyX2_ok, nmX2, rfl, by decide +kernel⟩
theorem ft_X2_2 : FT TX2 19 2 .int tyX2 := ⟨tyX2_ok, nmX2, rfl, by decide +kernel⟩
theorem ft_X2_3 : FT TX2 19 3 .int tyX2 := ⟨tyX2_ok, nmX2, rfl, by decide +kernel⟩
theorem ft_X2_4 : FT TX2 19 4 .int tyX2 := ⟨tyX2_ok, nmX2, rfl, by decide +kernel⟩
theorem ft_X2_5 : FT TX2 19 5 .int tyX2 := ⟨tyX2_ok, nmX2, rfl, by decide +kernel⟩
theorem ft_X4_14 : FT TX4 15 14 .int tyX4 := ⟨tyX4_ok, nmX4, rfl, by decide +kernel⟩
theorem ft_X5_5 : FT TX5 9 5 .int tyX5 := ⟨tyX5_ok, nmX5, rfl, by decide +kernel⟩
theorem ft_X5_6 : FT TX5 9 6 .int tyX5 := ⟨tyX5_ok, nmX5, rfl, by decide +kernel⟩
theorem ft_X5_7 : FT TX5 9 7 .int tyX5 := ⟨tyX5_ok, nmX5, rfl, by decide +kernel⟩
theorem ft_X5_8 : FT TX5 9 8 .int tyX5 := ⟨tyX5_ok, nmX5, rfl, by decide +kernel⟩
theorem ft_X6_2 : FT TX6 3 2 .int tyX6 := ⟨tyX6_ok, nmX6, rfl, by decide +kernel⟩
theorem ft_X7_1 : FT TX7 2 1 .int tyX7 := ⟨tyX7_ok, nmX7, rfl, by decide +kernel⟩
theorem ft_X8_4 : FT TX8 6 4 .int tyX8 := ⟨tyX8_ok, nmX8, rfl, by decide +kernel⟩
theorem ft_X8_5 : FT TX8 6 5 .int tyX8 := ⟨tyX8_ok, nmX8, rfl, by decide +kernel⟩
