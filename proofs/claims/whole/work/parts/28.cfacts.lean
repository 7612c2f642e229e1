theorem q_188 : Cond.classLink RX11 9 "PorchHours$Tape" ∈ tbl := tb 188 (by decide +kernel) (by decide +kernel)
theorem q_189 : Cond.instantiable RX7 2 ∈ tbl := tb 189 (by decide +kernel) (by decide +kernel)
theorem q_190 : Cond.methodLinkNest RX11 11 yX7_init "PorchHours" ∈ nst := tn 190 (by decide +kernel) (by decide +kernel)
theorem q_191 : Cond.instanceMethod yX7_init ∈ tbl := tb 191 (by decide +kernel) (by decide +kernel)
theorem q_192 : Cond.code yX7_init cX7_init 1 none ∈ tbl := tb 192 (by decide +kernel) (by decide +kernel)
theorem q_201 : Cond.arrayClass .byte ∈ tbl := tb 201 (by decide +kernel) (by decide +kernel)
theorem q_202 : Cond.classLink RX11 16 "PorchHours$Houses" ∈ tbl := tb 202 (by decide +kernel) (by decide +kernel)
theorem q_203 : Cond.instantiable RX2 19 ∈ tbl := tb 203 (by decide +kernel) (by decide +kernel)
theorem q_204 : Cond.methodLinkNest RX11 18 yX2_init "PorchHours" ∈ nst := tn 204 (by decide +kernel) (by decide +kernel)
theorem q_205 : Cond.instanceMethod yX2_init ∈ tbl := tb 205 (by decide +kernel) (by decide +kernel)
theorem q_206 : Cond.code yX2_init cX2_init 1 none ∈ tbl := tb 206 (by decide +kernel) (by decide +kernel)
theorem q_310 : Cond.arrayClass .int ∈ tbl := tb 310 (by decide +kernel) (by decide +kernel)
theorem q_311 : Cond.classLink RX11 23 "PorchHours$Told" ∈ tbl := tb 311 (by decide +kernel) (by decide +kernel)
theorem q_312 : Cond.instantiable RX9 16 ∈ tbl := tb 312 (by decide +kernel) (by decide +kernel)
theorem q_313 : Cond.methodLink RX11 25 yX9_init ∈ tbl := tb 313 (by decide +kernel) (by decide +kernel)
theorem q_314 : Cond.instanceMethod yX9_init ∈ tbl := tb 314 (by decide +kernel) (by decide +kernel)
theorem q_315 : Cond.code yX9_init cX9_init 2 none ∈ tbl := tb 315 (by decide +kernel) (by decide +kernel)
theorem q_317 : Cond.classLink RX9 9 "PorchHours$Row" ∈ tbl := tb 317 (by decide +kernel) (by decide +kernel)
theorem q_318 : Cond.instantiable RX6 3 ∈ tbl := tb 318 (by decide +kernel) (by decide +kernel)
theorem q_319 : Cond.methodLink RX9 11 yX6_init ∈ tbl := tb 319 (by decide +kernel) (by decide +kernel)
theorem q_320 : Cond.instanceMethod yX6_init ∈ tbl := tb 320 (by decide +kernel) (by decide +kernel)
theorem q_321 : Cond.code yX6_init cX6_init 3 none ∈ tbl := tb 321 (by decide +kernel) (by decide +kernel)
theorem q_333 : Cond.methodLink RX9 65 yX6_add_ ∈ tbl := tb 333 (by decide +kernel) (by decide +kernel)
theorem q_346 : Cond.fieldLinkNest RX3 20 "PorchHours$Told" "lawLines" "LPorchHours$Row;" "PorchHours" ∈ nst := tn 346 (by decide +kernel) (by decide +kernel)
theorem q_349 : Cond.fieldLinkNest RX3 29 "PorchHours$Told" "lawCode" "LPorchHours$Row;" "PorchHours" ∈ nst := tn 349 (by decide +kernel) (by decide +kernel)
theorem q_361 : Cond.fieldLinkNest RX11 75 "PorchHours$Told" "wishRows" "LPorchHours$Row;" "PorchHours" ∈ nst := tn 361 (by decide +kernel) (by decide +kernel)
theorem q_422 : Cond.classLink RX11 30 "PorchHours$Row" ∈ tbl := tb 422 (by decide +kernel) (by decide +kernel)
theorem q_423 : Cond.methodLink RX11 32 yX6_init ∈ tbl := tb 423 (by decide +kernel) (by decide +kernel)
theorem q_424 : Cond.classLink RX11 39 "PorchHours$Undone" ∈ tbl := tb 424 (by decide +kernel) (by decide +kernel)
theorem q_425 : Cond.instantiable RX10 4 ∈ tbl := tb 425 (by decide +kernel) (by decide +kernel)
theorem q_426 : Cond.methodLink RX11 41 yX10_init ∈ tbl := tb 426 (by decide +kernel) (by decide +kernel)
theorem q_427 : Cond.instanceMethod yX10_init ∈ tbl := tb 427 (by decide +kernel) (by decide +kernel)
theorem q_428 : Cond.code yX10_init cX10_init 2 none ∈ tbl := tb 428 (by decide +kernel) (by decide +kernel)
theorem q_430 : Cond.classLink RX10 11 "PorchHours$Houses" ∈ tbl := tb 430 (by decide +kernel) (by decide +kernel)
theorem q_432 : Cond.methodLinkNest RX10 28 yX2_init "PorchHours" ∈ nst := tn 432 (by decide +kernel) (by decide +kernel)
theorem q_446 : Cond.classLink RX11 46 "PorchHours$Reader" ∈ tbl := tb 446 (by decide +kernel) (by decide +kernel)
theorem q_447 : Cond.instantiable RX5 9 ∈ tbl := tb 447 (by decide +kernel) (by decide +kernel)
theorem q_448 : Cond.methodLink RX11 48 yX5_init ∈ tbl := tb 448 (by decide +kernel) (by decide +kernel)
theorem q_449 : Cond.instanceMethod yX5_init ∈ tbl := tb 449 (by decide +kernel) (by decide +kernel)
theorem q_450 : Cond.code yX5_init cX5_init 3 none ∈ tbl := tb 450 (by decide +kernel) (by decide +kernel)
theorem q_452 : Cond.classLink RX5 9 "PorchHours$Row" ∈ tbl := tb 452 (by decide +kernel) (by decide +kernel)
theorem q_453 : Cond.methodLink RX5 11 yX6_init ∈ tbl := tb 453 (by decide +kernel) (by decide +kernel)
theorem q_454 : Cond.classLink RX5 40 "PorchHours$Tokens" ∈ tbl := tb 454 (by decide +kernel) (by decide +kernel)
theorem q_455 : Cond.instantiable RX8 6 ∈ tbl := tb 455 (by decide +kernel) (by decide +kernel)
theorem q_456 : Cond.methodLink RX5 42 yX8_init ∈ tbl := tb 456 (by decide +kernel) (by decide +kernel)
theorem q_457 : Cond.instanceMethod yX8_init ∈ tbl := tb 457 (by decide +kernel) (by decide +kernel)
theorem q_458 : Cond.code yX8_init cX8_init 2 none ∈ tbl := tb 458 (by decide +kernel) (by decide +kernel)
theorem q_507 : Cond.classLink RX11 55 "PorchHours$Law" ∈ tbl := tb 507 (by decide +kernel) (by decide +kernel)
theorem q_508 : Cond.instantiable RX3 5 ∈ tbl := tb 508 (by decide +kernel) (by decide +kernel)
theorem q_509 : Cond.methodLink RX11 57 yX3_init ∈ tbl := tb 509 (by decide +kernel) (by decide +kernel)
theorem q_510 : Cond.instanceMethod yX3_init ∈ tbl := tb 510 (by decide +kernel) (by decide +kernel)
theorem q_511 : Cond.code yX3_init cX3_init 3 none ∈ tbl := tb 511 (by decide +kernel) (by decide +kernel)
theorem q_529 : Cond.classLink RX11 64 "PorchHours$Hours" ∈ tbl := tb 529 (by decide +kernel) (by decide +kernel)
theorem q_530 : Cond.instantiable RX1 5 ∈ tbl := tb 530 (by decide +kernel) (by decide +kernel)
theorem q_531 : Cond.methodLink RX11 66 yX1_init ∈ tbl := tb 531 (by decide +kernel) (by decide +kernel)
theorem q_532 : Cond.instanceMethod yX1_init ∈ tbl := tb 532 (by decide +kernel) (by decide +kernel)
theorem q_533 : Cond.code yX1_init cX1_init 5 none ∈ tbl := tb 533 (by decide +kernel) (by decide +kernel)
theorem q_551 : Cond.classLink RX11 73 "PorchHours$Couples" ∈ tbl := tb 551 (by decide +kernel) (by decide +kernel)
theorem q_552 : Cond.instantiable RX0 4 ∈ tbl := tb 552 (by decide +kernel) (by decide +kernel)
theorem q_553 : Cond.methodLink RX11 78 yX0_init ∈ tbl := tb 553 (by decide +kernel) (by decide +kernel)
theorem q_554 : Cond.instanceMethod yX0_init ∈ tbl := tb 554 (by decide +kernel) (by decide +kernel)
theorem q_555 : Cond.code yX0_init cX0_init 2 none ∈ tbl := tb 555 (by decide +kernel) (by decide +kernel)
theorem q_570 : Cond.classLink RX11 85 "PorchHours$Puzzles" ∈ tbl := tb 570 (by decide +kernel) (by decide +kernel)
theorem q_571 : Cond.instantiable RX4 15 ∈ tbl := tb 571 (by decide +kernel) (by decide +kernel)
theorem q_572 : Cond.methodLink RX11 87 yX4_init ∈ tbl := tb 572 (by decide +kernel) (by decide +kernel)
theorem q_573 : Cond.instanceMethod yX4_init ∈ tbl := tb 573 (by decide +kernel) (by decide +kernel)
theorem q_574 : Cond.code yX4_init cX4_init 2 none ∈ tbl := tb 574 (by decide +kernel) (by decide +kernel)
theorem q_622 : Cond.arrayClass .long ∈ tbl := tb 622 (by decide +kernel) (by decide +kernel)
theorem q_1547 : Cond.constant RX12 176 (40401) ∈ tbl := tb 1547 (by decide +kernel) (by decide +kernel)
theorem q_185 : Cond.methodLink RX11 3 objectInit ∈ tbl := tb 185 (by decide +kernel) (by decide +kernel)
theorem q_186 : Cond.instanceMethod objectInit ∈ tbl := tb 186 (by decide +kernel) (by decide +kernel)
theorem q_187 : Cond.code objectInit ⟨#[0xb1]⟩ 1 none ∈ tbl := tb 187 (by decide +kernel) (by decide +kernel)
theorem q_193 : Cond.methodLink RX7 3 objectInit ∈ tbl := tb 193 (by decide +kernel) (by decide +kernel)
theorem q_207 : Cond.methodLink RX2 3 objectInit ∈ tbl := tb 207 (by decide +kernel) (by decide +kernel)
theorem q_316 : Cond.methodLink RX9 3 objectInit ∈ tbl := tb 316 (by decide +kernel) (by decide +kernel)
theorem q_322 : Cond.methodLink RX6 3 objectInit ∈ tbl := tb 322 (by decide +kernel) (by decide +kernel)
theorem q_429 : Cond.methodLink RX10 3 objectInit ∈ tbl := tb 429 (by decide +kernel) (by decide +kernel)
theorem q_451 : Cond.methodLink RX5 3 objectInit ∈ tbl := tb 451 (by decide +kernel) (by decide +kernel)
theorem q_459 : Cond.methodLink RX8 3 objectInit ∈ tbl := tb 459 (by decide +kernel) (by decide +kernel)
theorem q_512 : Cond.methodLink RX3 1 objectInit ∈ tbl := tb 512 (by decide +kernel) (by decide +kernel)
theorem q_534 : Cond.methodLink RX1 3 objectInit ∈ tbl := tb 534 (by decide +kernel) (by decide +kernel)
theorem q_556 : Cond.methodLink RX0 3 objectInit ∈ tbl := tb 556 (by decide +kernel) (by decide +kernel)
theorem q_575 : Cond.methodLink RX4 3 objectInit ∈ tbl := tb 575 (by decide +kernel) (by decide +kernel)
theorem q_1546 : Cond.methodLink RX12 1 objectInit ∈ tbl := tb 1546 (by decide +kernel) (by decide +kernel)
theorem kc_14 : rg 14 := by unfold rg; omega
theorem kc_15 : rg 15 := by unfold rg; omega
theorem kc_23 : rg 23 := by unfold rg; omega
theorem kc_33 : rg 33 := by unfold rg; omega
theorem kc_34 : rg 34 := by unfold rg; omega
theorem kc_35 : rg 35 := by unfold rg; omega
theorem kc_36 : rg 36 := by unfold rg; omega
theorem kc_37 : rg 37 := by unfold rg; omega
theorem kc_38 : rg 38 := by unfold rg; omega
theorem kc_39 : rg 39 := by unfold rg; omega
theorem kc_44 : rg 44 := by unfold rg; omega
theorem kc_46 : rg 46 := by unfold rg; omega
theorem kc_49 : rg 49 := by unfold rg; omega
theorem kc_51 : rg 51 := by unfold rg; omega
theorem kc_52 : rg 52 := by unfold rg; omega
theorem kc_53 : rg 53 := by unfold rg; omega
theorem kc_54 : rg 54 := by unfold rg; omega
theorem kc_55 : rg 55 := by unfold rg; omega
theorem kc_56 : rg 56 := by unfold rg; omega
theorem kc_58 : rg 58 := by unfold rg; omega
theorem kc_66 : rg 66 := by unfold rg; omega
theorem kc_67 : rg 67 := by unfold rg; omega
theorem kc_68 : rg 68 := by unfold rg; omega
theorem kc_69 : rg 69 := by unfold rg; omega
theorem kc_70 : rg 70 := by unfold rg; omega
theorem kc_71 : rg 71 := by unfold rg; omega
theorem kc_73 : rg 73 := by unfold rg; omega
theorem kc_74 : rg 74 := by unfold rg; omega
theorem kc_75 : rg 75 := by unfold rg; omega
theorem kc_76 : rg 76 := by unfold rg; omega
theorem kc_77 : rg 77 := by unfold rg; omega
theorem kc_78 : rg 78 := by unfold rg; omega
theorem kc_79 : rg 79 := by unfold rg; omega
theorem kc_80 : rg 80 := by unfold rg; omega
theorem kc_82 : rg 82 := by unfold rg; omega
theorem kc_83 : rg 83 := by unfold rg; omega
theorem kc_84 : rg 84 := by unfold rg; omega
theorem kc_85 : rg 85 := by unfold rg; omega
theorem kc_86 : rg 86 := by unfold rg; omega
theorem kc_87 : rg 87 := by unfold rg; omega
theorem kc_88 : rg 88 := by unfold rg; omega
theorem kc_89 : rg 89 := by unfold rg; omega
theorem kc_91 : rg 91 := by unfold rg; omega
theorem kc_92 : rg 92 := by unfold rg; omega
theorem kc_93 : rg 93 := by unfold rg; omega
theorem kc_94 : rg 94 := by unfold rg; omega
theorem kc_95 : rg 95 := by unfold rg; omega
theorem kc_96 : rg 96 := by unfold rg; omega
theorem kc_98 : rg 98 := by unfold rg; omega
theorem kc_102 : rg 102 := by unfold rg; omega
theorem kc_103 : rg 103 := by unfold rg; omega
theorem kc_104 : rg 104 := by unfold rg; omega
theorem kc_105 : rg 105 := by unfold rg; omega
theorem kc_106 : rg 106 := by unfold rg; omega
theorem kc_107 : rg 107 := by unfold rg; omega
theorem kc_108 : rg 108 := by unfold rg; omega
theorem kc_109 : rg 109 := by unfold rg; omega
theorem kc_110 : rg 110 := by unfold rg; omega
theorem kc_111 : rg 111 := by unfold rg; omega
theorem kc_112 : rg 112 := by unfold rg; omega
theorem kc_113 : rg 113 := by unfold rg; omega
theorem kc_114 : rg 114 := by unfold rg; omega
theorem kc_115 : rg 115 := by unfold rg; omega
theorem kc_116 : rg 116 := by unfold rg; omega
theorem kc_117 : rg 117 := by unfold rg; omega
theorem kc_118 : rg 118 := by unfold rg; omega
theorem kc_119 : rg 119 := by unfold rg; omega
theorem kc_123 : rg 123 := by unfold rg; omega
theorem kc_124 : rg 124 := by unfold rg; omega
theorem kc_125 : rg 125 := by unfold rg; omega
theorem kc_126 : rg 126 := by unfold rg; omega
theorem kc_127 : rg 127 := by unfold rg; omega
theorem kc_128 : rg 128 := by unfold rg; omega
theorem kc_129 : rg 129 := by unfold rg; omega
theorem kc_130 : rg 130 := by unfold rg; omega
theorem kc_131 : rg 131 := by unfold rg; omega
theorem kc_132 : rg 132 := by unfold rg; omega
theorem kc_133 : rg 133 := by unfold rg; omega
theorem kc_134 : rg 134 := by unfold rg; omega
theorem kc_135 : rg 135 := by unfold rg; omega
theorem kc_136 : rg 136 := by unfold rg; omega
theorem kc_137 : rg 137 := by unfold rg; omega
theorem kc_138 : rg 138 := by unfold rg; omega
theorem kc_139 : rg 139 := by unfold rg; omega
theorem kc_140 : rg 140 := by unfold rg; omega
theorem kc_142 : rg 142 := by unfold rg; omega
theorem kc_143 : rg 143 := by unfold rg; omega
theorem kc_145 : rg 145 := by unfold rg; omega
theorem kc_146 : rg 146 := by unfold rg; omega
theorem kc_147 : rg 147 := by unfold rg; omega
theorem kc_148 : rg 148 := by unfold rg; omega
theorem kc_149 : rg 149 := by unfold rg; omega
theorem kc_152 : rg 152 := by unfold rg; omega
theorem kc_401 : rg 401 := by unfold rg; omega
theorem kc_420 : rg 420 := by unfold rg; omega
theorem kc_966 : rg 966 := by unfold rg; omega
theorem kc_1200 : rg 1200 := by unfold rg; omega
theorem kc_2600 : rg 2600 := by unfold rg; omega
theorem kc_40401 : rg 40401 := by unfold rg; omega
theorem bi_14 : (Int8.ofInt (14)).toInt32 = pI (14) := by decide +kernel
theorem bi_15 : (Int8.ofInt (15)).toInt32 = pI (15) := by decide +kernel
theorem bi_23 : (Int8.ofInt (23)).toInt32 = pI (23) := by decide +kernel
theorem bi_28 : (Int8.ofInt (28)).toInt32 = pI (28) := by decide +kernel
theorem bi_33 : (Int8.ofInt (33)).toInt32 = pI (33) := by decide +kernel
theorem bi_34 : (Int8.ofInt (34)).toInt32 = pI (34) := by decide +kernel
theorem bi_35 : (Int8.ofInt (35)).toInt32 = pI (35) := by decide +kernel
theorem bi_36 : (Int8.ofInt (36)).toInt32 = pI (36) := by decide +kernel
theorem bi_37 : (Int8.ofInt (37)).toInt32 = pI (37) := by decide +kernel
theorem bi_38 : (Int8.ofInt (38)).toInt32 = pI (38) := by decide +kernel
theorem bi_39 : (Int8.ofInt (39)).toInt32 = pI (39) := by decide +kernel
theorem bi_44 : (Int8.ofInt (44)).toInt32 = pI (44) := by decide +kernel
theorem bi_46 : (Int8.ofInt (46)).toInt32 = pI (46) := by decide +kernel
theorem bi_49 : (Int8.ofInt (49)).toInt32 = pI (49) := by decide +kernel
theorem bi_51 : (Int8.ofInt (51)).toInt32 = pI (51) := by decide +kernel
theorem bi_52 : (Int8.ofInt (52)).toInt32 = pI (52) := by decide +kernel
theorem bi_53 : (Int8.ofInt (53)).toInt32 = pI (53) := by decide +kernel
theorem bi_54 : (Int8.ofInt (54)).toInt32 = pI (54) := by decide +kernel
theorem bi_55 : (Int8.ofInt (55)).toInt32 = pI (55) := by decide +kernel
theorem bi_56 : (Int8.ofInt (56)).toInt32 = pI (56) := by decide +kernel
theorem bi_58 : (Int8.ofInt (58)).toInt32 = pI (58) := by decide +kernel
theorem bi_66 : (Int8.ofInt (66)).toInt32 = pI (66) := by decide +kernel
theorem bi_67 : (Int8.ofInt (67)).toInt32 = pI (67) := by decide +kernel
theorem bi_68 : (Int8.ofInt (68)).toInt32 = pI (68) := by decide +kernel
theorem bi_69 : (Int8.ofInt (69)).toInt32 = pI (69) := by decide +kernel
theorem bi_70 : (Int8.ofInt (70)).toInt32 = pI (70) := by decide +kernel
theorem bi_71 : (Int8.ofInt (71)).toInt32 = pI (71) := by decide +kernel
theorem bi_73 : (Int8.ofInt (73)).toInt32 = pI (73) := by decide +kernel
theorem bi_74 : (Int8.ofInt (74)).toInt32 = pI (74) := by decide +kernel
theorem bi_75 : (Int8.ofInt (75)).toInt32 = pI (75) := by decide +kernel
theorem bi_76 : (Int8.ofInt (76)).toInt32 = pI (76) := by decide +kernel
theorem bi_77 : (Int8.ofInt (77)).toInt32 = pI (77) := by decide +kernel
theorem bi_78 : (Int8.ofInt (78)).toInt32 = pI (78) := by decide +kernel
theorem bi_79 : (Int8.ofInt (79)).toInt32 = pI (79) := by decide +kernel
theorem bi_80 : (Int8.ofInt (80)).toInt32 = pI (80) := by decide +kernel
theorem bi_82 : (Int8.ofInt (82)).toInt32 = pI (82) := by decide +kernel
theorem bi_83 : (Int8.ofInt (83)).toInt32 = pI (83) := by decide +kernel
theorem bi_84 : (Int8.ofInt (84)).toInt32 = pI (84) := by decide +kernel
theorem bi_85 : (Int8.ofInt (85)).toInt32 = pI (85) := by decide +kernel
theorem bi_86 : (Int8.ofInt (86)).toInt32 = pI (86) := by decide +kernel
theorem bi_87 : (Int8.ofInt (87)).toInt32 = pI (87) := by decide +kernel
theorem bi_88 : (Int8.ofInt (88)).toInt32 = pI (88) := by decide +kernel
theorem bi_89 : (Int8.ofInt (89)).toInt32 = pI (89) := by decide +kernel
theorem bi_91 : (Int8.ofInt (91)).toInt32 = pI (91) := by decide +kernel
theorem bi_92 : (Int8.ofInt (92)).toInt32 = pI (92) := by decide +kernel
theorem bi_93 : (Int8.ofInt (93)).toInt32 = pI (93) := by decide +kernel
theorem bi_94 : (Int8.ofInt (94)).toInt32 = pI (94) := by decide +kernel
theorem bi_95 : (Int8.ofInt (95)).toInt32 = pI (95) := by decide +kernel
theorem bi_96 : (Int8.ofInt (96)).toInt32 = pI (96) := by decide +kernel
theorem bi_98 : (Int8.ofInt (98)).toInt32 = pI (98) := by decide +kernel
theorem bi_102 : (Int8.ofInt (102)).toInt32 = pI (102) := by decide +kernel
theorem bi_103 : (Int8.ofInt (103)).toInt32 = pI (103) := by decide +kernel
theorem bi_104 : (Int8.ofInt (104)).toInt32 = pI (104) := by decide +kernel
theorem bi_105 : (Int8.ofInt (105)).toInt32 = pI (105) := by decide +kernel
theorem bi_106 : (Int8.ofInt (106)).toInt32 = pI (106) := by decide +kernel
theorem bi_107 : (Int8.ofInt (107)).toInt32 = pI (107) := by decide +kernel
theorem bi_108 : (Int8.ofInt (108)).toInt32 = pI (108) := by decide +kernel
theorem bi_109 : (Int8.ofInt (109)).toInt32 = pI (109) := by decide +kernel
theorem bi_110 : (Int8.ofInt (110)).toInt32 = pI (110) := by decide +kernel
theorem bi_111 : (Int8.ofInt (111)).toInt32 = pI (111) := by decide +kernel
theorem bi_112 : (Int8.ofInt (112)).toInt32 = pI (112) := by decide +kernel
theorem bi_113 : (Int8.ofInt (113)).toInt32 = pI (113) := by decide +kernel
theorem bi_114 : (Int8.ofInt (114)).toInt32 = pI (114) := by decide +kernel
theorem bi_115 : (Int8.ofInt (115)).toInt32 = pI (115) := by decide +kernel
theorem bi_116 : (Int8.ofInt (116)).toInt32 = pI (116) := by decide +kernel
theorem bi_117 : (Int8.ofInt (117)).toInt32 = pI (117) := by decide +kernel
theorem bi_118 : (Int8.ofInt (118)).toInt32 = pI (118) := by decide +kernel
theorem bi_119 : (Int8.ofInt (119)).toInt32 = pI (119) := by decide +kernel
theorem bi_123 : (Int8.ofInt (123)).toInt32 = pI (123) := by decide +kernel
theorem bi_124 : (Int8.ofInt (124)).toInt32 = pI (124) := by decide +kernel
theorem bi_125 : (Int8.ofInt (125)).toInt32 = pI (125) := by decide +kernel
theorem bi_126 : (Int8.ofInt (126)).toInt32 = pI (126) := by decide +kernel
theorem bi_127 : (Int8.ofInt (127)).toInt32 = pI (127) := by decide +kernel
theorem si_128 : (Int16.ofInt (128)).toInt32 = pI (128) := by decide +kernel
theorem si_129 : (Int16.ofInt (129)).toInt32 = pI (129) := by decide +kernel
theorem si_130 : (Int16.ofInt (130)).toInt32 = pI (130) := by decide +kernel
theorem si_131 : (Int16.ofInt (131)).toInt32 = pI (131) := by decide +kernel
theorem si_132 : (Int16.ofInt (132)).toInt32 = pI (132) := by decide +kernel
theorem si_133 : (Int16.ofInt (133)).toInt32 = pI (133) := by decide +kernel
theorem si_134 : (Int16.ofInt (134)).toInt32 = pI (134) := by decide +kernel
theorem si_135 : (Int16.ofInt (135)).toInt32 = pI (135) := by decide +kernel
theorem si_136 : (Int16.ofInt (136)).toInt32 = pI (136) := by decide +kernel
theorem si_137 : (Int16.ofInt (137)).toInt32 = pI (137) := by decide +kernel
theorem si_138 : (Int16.ofInt (138)).toInt32 = pI (138) := by decide +kernel
theorem si_139 : (Int16.ofInt (139)).toInt32 = pI (139) := by decide +kernel
theorem si_140 : (Int16.ofInt (140)).toInt32 = pI (140) := by decide +kernel
theorem si_142 : (Int16.ofInt (142)).toInt32 = pI (142) := by decide +kernel
theorem si_143 : (Int16.ofInt (143)).toInt32 = pI (143) := by decide +kernel
theorem si_145 : (Int16.ofInt (145)).toInt32 = pI (145) := by decide +kernel
theorem si_146 : (Int16.ofInt (146)).toInt32 = pI (146) := by decide +kernel
theorem si_147 : (Int16.ofInt (147)).toInt32 = pI (147) := by decide +kernel
theorem si_148 : (Int16.ofInt (148)).toInt32 = pI (148) := by decide +kernel
theorem si_149 : (Int16.ofInt (149)).toInt32 = pI (149) := by decide +kernel
theorem si_152 : (Int16.ofInt (152)).toInt32 = pI (152) := by decide +kernel
theorem si_401 : (Int16.ofInt (401)).toInt32 = pI (401) := by decide +kernel
theorem si_420 : (Int16.ofInt (420)).toInt32 = pI (420) := by decide +kernel
theorem si_966 : (Int16.ofInt (966)).toInt32 = pI (966) := by decide +kernel
theorem si_1200 : (Int16.ofInt (1200)).toInt32 = pI (1200) := by decide +kernel
theorem si_2600 : (Int16.ofInt (2600)).toInt32 = pI (2600) := by decide +kernel
theorem ki_40401 : ((40401) : Int32) = pI (40401) := by decide +kernel
theorem wiX0_init : WI yX0_init cX0_init 2 1 := ⟨q_554, q_169, q_555, by decide +kernel, by decide +kernel, by decide +kernel⟩
theorem wiX10_init : WI yX10_init cX10_init 2 0 := ⟨q_427, q_164, q_428, by decide +kernel, by decide +kernel, by decide +kernel⟩
theorem wiX1_init : WI yX1_init cX1_init 5 4 := ⟨q_532, q_168, q_533, by decide +kernel, by decide +kernel, by decide +kernel⟩
theorem wiX2_init : WI yX2_init cX2_init 1 0 := ⟨q_205, q_161, q_206, by decide +kernel, by decide +kernel, by decide +kernel⟩
theorem wiX3_init : WI yX3_init cX3_init 3 2 := ⟨q_510, q_167, q_511, by decide +kernel, by decide +kernel, by decide +kernel⟩
theorem wiX4_init : WI yX4_init cX4_init 2 1 := ⟨q_573, q_170, q_574, by decide +kernel, by decide +kernel, by decide +kernel⟩
theorem wiX5_init : WI yX5_init cX5_init 3 2 := ⟨q_449, q_165, q_450, by decide +kernel, by decide +kernel, by decide +kernel⟩
theorem wiX6_init : WI yX6_init cX6_init 3 2 := ⟨q_320, q_163, q_321, by decide +kernel, by decide +kernel, by decide +kernel⟩
theorem wiX7_init : WI yX7_init cX7_init 1 0 := ⟨q_191, q_160, q_192, by decide +kernel, by decide +kernel, by decide +kernel⟩
theorem wiX8_init : WI yX8_init cX8_init 2 1 := ⟨q_457, q_166, q_458, by decide +kernel, by decide +kernel, by decide +kernel⟩
theorem wiX9_init : WI yX9_init cX9_init 2 0 := ⟨q_314, q_162, q_315, by decide +kernel, by decide +kernel, by decide +kernel⟩
theorem fn_X3_20 : FN RX3 20 9 0 RX9 TX9 16 := ⟨rfl, uwX9, by decide, rfl, _, q_346⟩
theorem fn_X3_29 : FN RX3 29 9 1 RX9 TX9 16 := ⟨rfl, uwX9, by decide, rfl, _, q_349⟩
theorem fn_X11_75 : FN RX11 75 9 5 RX9 TX9 16 := ⟨rfl, uwX9, by decide, rfl, _, q_361⟩
theorem ftf_X0_0 : FTF RX0 TX0 4 0 (.object "PorchHours$Row") tyX0 := ⟨tyX0_ok, nmX0, rfl, rfl, by decide +kernel⟩
theorem ftf_X0_1 : FTF RX0 TX0 4 1 (.array .int) tyX0 := ⟨tyX0_ok, nmX0, rfl, rfl, by decide +kernel⟩
theorem ftf_X0_2 : FTF RX0 TX0 4 2 (.array .int) tyX0 := ⟨tyX0_ok, nmX0, rfl, rfl, by decide +kernel⟩
theorem ftf_X0_3 : FTF RX0 TX0 4 3 (.array .int) tyX0 := ⟨tyX0_ok, nmX0, rfl, rfl, by decide +kernel⟩
theorem ftf_X1_0 : FTF RX1 TX1 5 0 (.object "PorchHours$Houses") tyX1 := ⟨tyX1_ok, nmX1, rfl, rfl, by decide +kernel⟩
theorem ftf_X1_1 : FTF RX1 TX1 5 1 (.object "PorchHours$Told") tyX1 := ⟨tyX1_ok, nmX1, rfl, rfl, by decide +kernel⟩
theorem ftf_X1_2 : FTF RX1 TX1 5 2 (.object "PorchHours$Law") tyX1 := ⟨tyX1_ok, nmX1, rfl, rfl, by decide +kernel⟩
theorem ftf_X1_3 : FTF RX1 TX1 5 3 (.object "PorchHours$Row") tyX1 := ⟨tyX1_ok, nmX1, rfl, rfl, by decide +kernel⟩
theorem ftf_X10_0 : FTF RX10 TX10 4 0 (.array (.object "PorchHours$Houses")) tyX10 := ⟨tyX10_ok, nmX10, rfl, rfl, by decide +kernel⟩
theorem ftf_X10_1 : FTF RX10 TX10 4 1 (.array .int) tyX10 := ⟨tyX10_ok, nmX10, rfl, rfl, by decide +kernel⟩
theorem ftf_X11_0 : FTF RX11 TX11 15 0 (.object "PorchHours$Tape") tyX11 := ⟨tyX11_ok, nmX11, rfl, rfl, by decide +kernel⟩
theorem ftf_X11_1 : FTF RX11 TX11 15 1 (.object "PorchHours$Houses") tyX11 := ⟨tyX11_ok, nmX11, rfl, rfl, by decide +kernel⟩
theorem ftf_X11_2 : FTF RX11 TX11 15 2 (.object "PorchHours$Told") tyX11 := ⟨tyX11_ok, nmX11, rfl, rfl, by decide +kernel⟩
theorem ftf_X11_3 : FTF RX11 TX11 15 3 (.object "PorchHours$Row") tyX11 := ⟨tyX11_ok, nmX11, rfl, rfl, by decide +kernel⟩
theorem ftf_X11_4 : FTF RX11 TX11 15 4 (.object "PorchHours$Undone") tyX11 := ⟨tyX11_ok, nmX11, rfl, rfl, by decide +kernel⟩
theorem ftf_X11_5 : FTF RX11 TX11 15 5 (.object "PorchHours$Reader") tyX11 := ⟨tyX11_ok, nmX11, rfl, rfl, by decide +kernel⟩
theorem ftf_X11_6 : FTF RX11 TX11 15 6 (.object "PorchHours$Law") tyX11 := ⟨tyX11_ok, nmX11, rfl, rfl, by decide +kernel⟩
theorem ftf_X11_7 : FTF RX11 TX11 15 7 (.object "PorchHours$Hours") tyX11 := ⟨tyX11_ok, nmX11, rfl, rfl, by decide +kernel⟩
theorem ftf_X11_8 : FTF RX11 TX11 15 8 (.object "PorchHours$Couples") tyX11 := ⟨tyX11_ok, nmX11, rfl, rfl, by decide +kernel⟩
theorem ftf_X11_9 : FTF RX11 TX11 15 9 (.object "PorchHours$Puzzles") tyX11 := ⟨tyX11_ok, nmX11, rfl, rfl, by decide +kernel⟩
theorem ftf_X11_10 : FTF RX11 TX11 15 10 (.object "PorchHours$Houses") tyX11 := ⟨tyX11_ok, nmX11, rfl, rfl, by decide +kernel⟩
theorem ftf_X11_11 : FTF RX11 TX11 15 11 (.object "PorchHours$Houses") tyX11 := ⟨tyX11_ok, nmX11, rfl, rfl, by decide +kernel⟩
theorem ftf_X11_12 : FTF RX11 TX11 15 12 (.object "PorchHours$Told") tyX11 := ⟨tyX11_ok, nmX11, rfl, rfl, by decide +kernel⟩
theorem ftf_X11_13 : FTF RX11 TX11 15 13 (.object "PorchHours$Row") tyX11 := ⟨tyX11_ok, nmX11, rfl, rfl, by decide +kernel⟩
theorem ftf_X12_1 : FTF RX12 TX12 87 1 (.array .int) tyX12 := ⟨tyX12_ok, nmX12, rfl, rfl, by decide +kernel⟩
theorem ftf_X12_2 : FTF RX12 TX12 87 2 (.array .int) tyX12 := ⟨tyX12_ok, nmX12, rfl, rfl, by decide +kernel⟩
theorem ftf_X12_4 : FTF RX12 TX12 87 4 (.array .int) tyX12 := ⟨tyX12_ok, nmX12, rfl, rfl, by decide +kernel⟩
theorem ftf_X12_8 : FTF RX12 TX12 87 8 (.array .int) tyX12 := ⟨tyX12_ok, nmX12, rfl, rfl, by decide +kernel⟩
theorem ftf_X12_9 : FTF RX12 TX12 87 9 (.array .int) tyX12 := ⟨tyX12_ok, nmX12, rfl, rfl, by decide +kernel⟩
theorem ftf_X12_10 : FTF RX12 TX12 87 10 (.array .int) tyX12 := ⟨tyX12_ok, nmX12, rfl, rfl, by decide +kernel⟩
theorem ftf_X12_11 : FTF RX12 TX12 87 11 (.array .int) tyX12 := ⟨tyX12_ok, nmX12, rfl, rfl, by decide +kernel⟩
theorem ftf_X12_12 : FTF RX12 TX12 87 12 (.array .int) tyX12 := ⟨tyX12_ok, nmX12, rfl, rfl, by decide +kernel⟩
theorem ftf_X12_18 : FTF RX12 TX12 87 18 (.array .int) tyX12 := ⟨tyX12_ok, nmX12, rfl, rfl, by decide +kernel⟩
theorem ftf_X12_19 : FTF RX12 TX12 87 19 (.array .int) tyX12 := ⟨tyX12_ok, nmX12, rfl, rfl, by decide +kernel⟩
theorem ftf_X12_20 : FTF RX12 TX12 87 20 (.array .int) tyX12 := ⟨tyX12_ok, nmX12, rfl, rfl, by decide +kernel⟩
theorem ftf_X12_21 : FTF RX12 TX12 87 21 (.array .int) tyX12 := ⟨tyX12_ok, nmX12, rfl, rfl, by decide +kernel⟩
theorem ftf_X12_22 : FTF RX12 TX12 87 22 (.array .int) tyX12 := ⟨tyX12_ok, nmX12, rfl, rfl, by decide +kernel⟩
theorem ftf_X12_23 : FTF RX12 TX12 87 23 (.array .int) tyX12 := ⟨tyX12_ok, nmX12, rfl, rfl, by decide +kernel⟩
theorem ftf_X12_24 : FTF RX12 TX12 87 24 (.array .int) tyX12 := ⟨tyX12_ok, nmX12, rfl, rfl, by decide +kernel⟩
theorem ftf_X12_25 : FTF RX12 TX12 87 25 (.array .int) tyX12 := ⟨tyX12_ok, nmX12, rfl, rfl, by decide +kernel⟩
theorem ftf_X12_29 : FTF RX12 TX12 87 29 (.array .int) tyX12 := ⟨tyX12_ok, nmX12, rfl, rfl, by decide +kernel⟩
theorem ftf_X12_36 : FTF RX12 TX12 87 36 (.array .int) tyX12 := ⟨tyX12_ok, nmX12, rfl, rfl, by decide +kernel⟩
theorem ftf_X12_38 : FTF RX12 TX12 87 38 (.array .int) tyX12 := ⟨tyX12_ok, nmX12, rfl, rfl, by decide +kernel⟩
theorem ftf_X12_40 : FTF RX12 TX12 87 40 (.array .int) tyX12 := ⟨tyX12_ok, nmX12, rfl, rfl, by decide +kernel⟩
theorem ftf_X12_41 : FTF RX12 TX12 87 41 (.array .int) tyX12 := ⟨tyX12_ok, nmX12, rfl, rfl, by decide +kernel⟩
theorem ftf_X12_42 : FTF RX12 TX12 87 42 (.array .int) tyX12 := ⟨tyX12_ok, nmX12, rfl, rfl, by decide +kernel⟩
theorem ftf_X12_43 : FTF RX12 TX12 87 43 (.array .int) tyX12 := ⟨tyX12_ok, nmX12, rfl, rfl, by decide +kernel⟩
theorem ftf_X12_44 : FTF RX12 TX12 87 44 (.array .int) tyX12 := ⟨tyX12_ok, nmX12, rfl, rfl, by decide +kernel⟩
theorem ftf_X12_45 : FTF RX12 TX12 87 45 (.array .int) tyX12 := ⟨tyX12_ok, nmX12, rfl, rfl, by decide +kernel⟩
theorem ftf_X12_46 : FTF RX12 TX12 87 46 (.array .int) tyX12 := ⟨tyX12_ok, nmX12, rfl, rfl, by decide +kernel⟩
theorem ftf_X12_47 : FTF RX12 TX12 87 47 (.array .int) tyX12 := ⟨tyX12_ok, nmX12, rfl, rfl, by decide +kernel⟩
theorem ftf_X12_48 : FTF RX12 TX12 87 48 (.array .int) tyX12 := ⟨tyX12_ok, nmX12, rfl, rfl, by decide +kernel⟩
theorem ftf_X12_50 : FTF RX12 TX12 87 50 (.array .int) tyX12 := ⟨tyX12_ok, nmX12, rfl, rfl, by decide +kernel⟩
theorem ftf_X12_51 : FTF RX12 TX12 87 51 (.array .int) tyX12 := ⟨tyX12_ok, nmX12, rfl, rfl, by decide +kernel⟩
theorem ftf_X12_53 : FTF RX12 TX12 87 53 (.array .int) tyX12 := ⟨tyX12_ok, nmX12, rfl, rfl, by decide +kernel⟩
theorem ftf_X12_54 : FTF RX12 TX12 87 54 (.array .int) tyX12 := ⟨tyX12_ok, nmX12, rfl, rfl, by decide +kernel⟩
theorem ftf_X12_55 : FTF RX12 TX12 87 55 (.array .int) tyX12 := ⟨tyX12_ok, nmX12, rfl, rfl, by decide +kernel⟩
theorem ftf_X12_56 : FTF RX12 TX12 87 56 (.array .int) tyX12 := ⟨tyX12_ok, nmX12, rfl, rfl, by decide +kernel⟩
theorem ftf_X12_57 : FTF RX12 TX12 87 57 (.array .int) tyX12 := ⟨tyX12_ok, nmX12, rfl, rfl, by decide +kernel⟩
theorem ftf_X12_59 : FTF RX12 TX12 87 59 (.array .int) tyX12 := ⟨tyX12_ok, nmX12, rfl, rfl, by decide +kernel⟩
theorem ftf_X12_60 : FTF RX12 TX12 87 60 (.array .int) tyX12 := ⟨tyX12_ok, nmX12, rfl, rfl, by decide +kernel⟩
theorem ftf_X12_61 : FTF RX12 TX12 87 61 (.array .int) tyX12 := ⟨tyX12_ok, nmX12, rfl, rfl, by decide +kernel⟩
theorem ftf_X12_63 : FTF RX12 TX12 87 63 (.array .int) tyX12 := ⟨tyX12_ok, nmX12, rfl, rfl, by decide +kernel⟩
theorem ftf_X12_65 : FTF RX12 TX12 87 65 (.array .int) tyX12 := ⟨tyX12_ok, nmX12, rfl, rfl, by decide +kernel⟩
theorem ftf_X12_66 : FTF RX12 TX12 87 66 (.array .int) tyX12 := ⟨tyX12_ok, nmX12, rfl, rfl, by decide +kernel⟩
theorem ftf_X12_67 : FTF RX12 TX12 87 67 (.array .int) tyX12 := ⟨tyX12_ok, nmX12, rfl, rfl, by decide +kernel⟩
theorem ftf_X12_68 : FTF RX12 TX12 87 68 (.array .int) tyX12 := ⟨tyX12_ok, nmX12, rfl, rfl, by decide +kernel⟩
theorem ftf_X12_69 : FTF RX12 TX12 87 69 (.array .int) tyX12 := ⟨tyX12_ok, nmX12, rfl, rfl, by decide +kernel⟩
theorem ftf_X12_71 : FTF RX12 TX12 87 71 (.array .int) tyX12 := ⟨tyX12_ok, nmX12, rfl, rfl, by decide +kernel⟩
theorem ftf_X12_73 : FTF RX12 TX12 87 73 (.array .int) tyX12 := ⟨tyX12_ok, nmX12, rfl, rfl, by decide +kernel⟩
theorem ftf_X12_74 : FTF RX12 TX12 87 74 (.array .int) tyX12 := ⟨tyX12_ok, nmX12, rfl, rfl, by decide +kernel⟩
theorem ftf_X12_75 : FTF RX12 TX12 87 75 (.array .int) tyX12 := ⟨tyX12_ok, nmX12, rfl, rfl, by decide +kernel⟩
theorem ftf_X12_76 : FTF RX12 TX12 87 76 (.array .int) tyX12 := ⟨tyX12_ok, nmX12, rfl, rfl, by decide +kernel⟩
theorem ftf_X12_77 : FTF RX12 TX12 87 77 (.array .int) tyX12 := ⟨tyX12_ok, nmX12, rfl, rfl, by decide +kernel⟩
theorem ftf_X12_78 : FTF RX12 TX12 87 78 (.array .int) tyX12 := ⟨tyX12_ok, nmX12, rfl, rfl, by decide +kernel⟩
theorem ftf_X12_79 : FTF RX12 TX12 87 79 (.array .int) tyX12 := ⟨tyX12_ok, nmX12, rfl, rfl, by decide +kernel⟩
theorem ftf_X12_80 : FTF RX12 TX12 87 80 (.array .int) tyX12 := ⟨tyX12_ok, nmX12, rfl, rfl, by decide +kernel⟩
theorem ftf_X12_81 : FTF RX12 TX12 87 81 (.array .int) tyX12 := ⟨tyX12_ok, nmX12, rfl, rfl, by decide +kernel⟩
theorem ftf_X12_82 : FTF RX12 TX12 87 82 (.array .int) tyX12 := ⟨tyX12_ok, nmX12, rfl, rfl, by decide +kernel⟩
theorem ftf_X12_86 : FTF RX12 TX12 87 86 (.array .int) tyX12 := ⟨tyX12_ok, nmX12, rfl, rfl, by decide +kernel⟩
theorem ftf_X2_6 : FTF RX2 TX2 19 6 (.array .int) tyX2 := ⟨tyX2_ok, nmX2, rfl, rfl, by decide +kernel⟩
theorem ftf_X2_7 : FTF RX2 TX2 19 7 (.array .int) tyX2 := ⟨tyX2_ok, nmX2, rfl, rfl, by decide +kernel⟩
theorem ftf_X2_8 : FTF RX2 TX2 19 8 (.array .int) tyX2 := ⟨tyX2_ok, nmX2, rfl, rfl, by decide +kernel⟩
theorem ftf_X2_9 : FTF RX2 TX2 19 9 (.array .int) tyX2 := ⟨tyX2_ok, nmX2, rfl, rfl, by decide +kernel⟩
theorem ftf_X2_10 : FTF RX2 TX2 19 10 (.array .int) tyX2 := ⟨tyX2_ok, nmX2, rfl, rfl, by decide +kernel⟩
theorem ftf_X2_11 : FTF RX2 TX2 19 11 (.array .int) tyX2 := ⟨tyX2_ok, nmX2, rfl, rfl, by decide +kernel⟩
theorem ftf_X2_12 : FTF RX2 TX2 19 12 (.array .int) tyX2 := ⟨tyX2_ok, nmX2, rfl, rfl, by decide +kernel⟩
theorem ftf_X2_13 : FTF RX2 TX2 19 13 (.array .int) tyX2 := ⟨tyX2_ok, nmX2, rfl, rfl, by decide +kernel⟩
theorem ftf_X2_14 : FTF RX2 TX2 19 14 (.array .int) tyX2 := ⟨tyX2_ok, nmX2, rfl, rfl, by decide +kernel⟩
theorem ftf_X2_15 : FTF RX2 TX2 19 15 (.array .int) tyX2 := ⟨tyX2_ok, nmX2, rfl, rfl, by decide +kernel⟩
theorem ftf_X2_16 : FTF RX2 TX2 19 16 (.array .int) tyX2 := ⟨tyX2_ok, nmX2, rfl, rfl, by decide +kernel⟩
theorem ftf_X2_17 : FTF RX2 TX2 19 17 (.array .int) tyX2 := ⟨tyX2_ok, nmX2, rfl, rfl, by decide +kernel⟩
theorem ftf_X2_18 : FTF RX2 TX2 19 18 (.array .int) tyX2 := ⟨tyX2_ok, nmX2, rfl, rfl, by decide +kernel⟩
theorem ftf_X3_0 : FTF RX3 TX3 5 0 (.object "PorchHours$Houses") tyX3 := ⟨tyX3_ok, nmX3, rfl, rfl, by decide +kernel⟩
theorem ftf_X3_1 : FTF RX3 TX3 5 1 (.object "PorchHours$Row") tyX3 := ⟨tyX3_ok, nmX3, rfl, rfl, by decide +kernel⟩
theorem ftf_X3_2 : FTF RX3 TX3 5 2 (.object "PorchHours$Row") tyX3 := ⟨tyX3_ok, nmX3, rfl, rfl, by decide +kernel⟩
theorem ftf_X3_3 : FTF RX3 TX3 5 3 (.array .int) tyX3 := ⟨tyX3_ok, nmX3, rfl, rfl, by decide +kernel⟩
theorem ftf_X3_4 : FTF RX3 TX3 5 4 (.array .int) tyX3 := ⟨tyX3_ok, nmX3, rfl, rfl, by decide +kernel⟩
theorem ftf_X4_0 : FTF RX4 TX4 15 0 (.object "PorchHours$Told") tyX4 := ⟨tyX4_ok, nmX4, rfl, rfl, by decide +kernel⟩
theorem ftf_X4_1 : FTF RX4 TX4 15 1 (.array .int) tyX4 := ⟨tyX4_ok, nmX4, rfl, rfl, by decide +kernel⟩
theorem ftf_X4_2 : FTF RX4 TX4 15 2 (.array .int) tyX4 := ⟨tyX4_ok, nmX4, rfl, rfl, by decide +kernel⟩
theorem ftf_X4_3 : FTF RX4 TX4 15 3 (.array .int) tyX4 := ⟨tyX4_ok, nmX4, rfl, rfl, by decide +kernel⟩
theorem ftf_X4_4 : FTF RX4 TX4 15 4 (.array .int) tyX4 := ⟨tyX4_ok, nmX4, rfl, rfl, by decide +kernel⟩
theorem ftf_X4_5 : FTF RX4 TX4 15 5 (.array .int) tyX4 := ⟨tyX4_ok, nmX4, rfl, rfl, by decide +kernel⟩
theorem ftf_X4_6 : FTF RX4 TX4 15 6 (.array .long) tyX4 := ⟨tyX4_ok, nmX4, rfl, rfl, by decide +kernel⟩
theorem ftf_X4_7 : FTF RX4 TX4 15 7 (.array .long) tyX4 := ⟨tyX4_ok, nmX4, rfl, rfl, by decide +kernel⟩
theorem ftf_X4_8 : FTF RX4 TX4 15 8 (.array .int) tyX4 := ⟨tyX4_ok, nmX4, rfl, rfl, by decide +kernel⟩
theorem ftf_X4_9 : FTF RX4 TX4 15 9 (.array .int) tyX4 := ⟨tyX4_ok, nmX4, rfl, rfl, by decide +kernel⟩
theorem ftf_X4_10 : FTF RX4 TX4 15 10 (.array .int) tyX4 := ⟨tyX4_ok, nmX4, rfl, rfl, by decide +kernel⟩
theorem ftf_X4_11 : FTF RX4 TX4 15 11 (.array .int) tyX4 := ⟨tyX4_ok, nmX4, rfl, rfl, by decide +kernel⟩
theorem ftf_X4_12 : FTF RX4 TX4 15 12 (.array .int) tyX4 := ⟨tyX4_ok, nmX4, rfl, rfl, by decide +kernel⟩
theorem ftf_X4_13 : FTF RX4 TX4 15 13 (.array .int) tyX4 := ⟨tyX4_ok, nmX4, rfl, rfl, by decide +kernel⟩
theorem ftf_X5_0 : FTF RX5 TX5 9 0 (.object "PorchHours$Tokens") tyX5 := ⟨tyX5_ok, nmX5, rfl, rfl, by decide +kernel⟩
theorem ftf_X5_1 : FTF RX5 TX5 9 1 (.object "PorchHours$Houses") tyX5 := ⟨tyX5_ok, nmX5, rfl, rfl, by decide +kernel⟩
theorem ftf_X5_2 : FTF RX5 TX5 9 2 (.object "PorchHours$Row") tyX5 := ⟨tyX5_ok, nmX5, rfl, rfl, by decide +kernel⟩
theorem ftf_X5_3 : FTF RX5 TX5 9 3 (.object "PorchHours$Row") tyX5 := ⟨tyX5_ok, nmX5, rfl, rfl, by decide +kernel⟩
theorem ftf_X5_4 : FTF RX5 TX5 9 4 (.array .int) tyX5 := ⟨tyX5_ok, nmX5, rfl, rfl, by decide +kernel⟩
theorem ftf_X6_0 : FTF RX6 TX6 3 0 .int tyX6 := ⟨tyX6_ok, nmX6, rfl, rfl, by decide +kernel⟩
theorem ftf_X6_1 : FTF RX6 TX6 3 1 (.array .int) tyX6 := ⟨tyX6_ok, nmX6, rfl, rfl, by decide +kernel⟩
theorem ftf_X7_0 : FTF RX7 TX7 2 0 (.array .byte) tyX7 := ⟨tyX7_ok, nmX7, rfl, rfl, by decide +kernel⟩
theorem ftf_X8_0 : FTF RX8 TX8 6 0 (.object "PorchHours$Tape") tyX8 := ⟨tyX8_ok, nmX8, rfl, rfl, by decide +kernel⟩
theorem ftf_X8_1 : FTF RX8 TX8 6 1 (.array .int) tyX8 := ⟨tyX8_ok, nmX8, rfl, rfl, by decide +kernel⟩
theorem ftf_X8_2 : FTF RX8 TX8 6 2 (.array .int) tyX8 := ⟨tyX8_ok, nmX8, rfl, rfl, by decide +kernel⟩
theorem ftf_X8_3 : FTF RX8 TX8 6 3 (.array .int) tyX8 := ⟨tyX8_ok, nmX8, rfl, rfl, by decide +kernel⟩
theorem ftf_X9_0 : FTF RX9 TX9 16 0 (.object "PorchHours$Row") tyX9 := ⟨tyX9_ok, nmX9, rfl, rfl, by decide +kernel⟩
theorem ftf_X9_1 : FTF RX9 TX9 16 1 (.object "PorchHours$Row") tyX9 := ⟨tyX9_ok, nmX9, rfl, rfl, by decide +kernel⟩
theorem ftf_X9_2 : FTF RX9 TX9 16 2 (.object "PorchHours$Row") tyX9 := ⟨tyX9_ok, nmX9, rfl, rfl, by decide +kernel⟩
theorem ftf_X9_3 : FTF RX9 TX9 16 3 (.object "PorchHours$Row") tyX9 := ⟨tyX9_ok, nmX9, rfl, rfl, by decide +kernel⟩
theorem ftf_X9_4 : FTF RX9 TX9 16 4 (.object "PorchHours$Row") tyX9 := ⟨tyX9_ok, nmX9, rfl, rfl, by decide +kernel⟩
theorem ftf_X9_5 : FTF RX9 TX9 16 5 (.object "PorchHours$Row") tyX9 := ⟨tyX9_ok, nmX9, rfl, rfl, by decide +kernel⟩
theorem ftf_X9_6 : FTF RX9 TX9 16 6 (.object "PorchHours$Row") tyX9 := ⟨tyX9_ok, nmX9, rfl, rfl, by decide +kernel⟩
theorem ftf_X9_7 : FTF RX9 TX9 16 7 (.object "PorchHours$Row") tyX9 := ⟨tyX9_ok, nmX9, rfl, rfl, by decide +kernel⟩
theorem ftf_X9_8 : FTF RX9 TX9 16 8 (.object "PorchHours$Row") tyX9 := ⟨tyX9_ok, nmX9, rfl, rfl, by decide +kernel⟩
theorem ftf_X9_9 : FTF RX9 TX9 16 9 (.object "PorchHours$Row") tyX9 := ⟨tyX9_ok, nmX9, rfl, rfl, by decide +kernel⟩
theorem ftf_X9_10 : FTF RX9 TX9 16 10 (.object "PorchHours$Row") tyX9 := ⟨tyX9_ok, nmX9, rfl, rfl, by decide +kernel⟩
theorem ftf_X9_11 : FTF RX9 TX9 16 11 (.object "PorchHours$Row") tyX9 := ⟨tyX9_ok, nmX9, rfl, rfl, by decide +kernel⟩
theorem ftf_X9_12 : FTF RX9 TX9 16 12 (.object "PorchHours$Row") tyX9 := ⟨tyX9_ok, nmX9, rfl, rfl, by decide +kernel⟩
theorem ftf_X9_13 : FTF RX9 TX9 16 13 (.object "PorchHours$Row") tyX9 := ⟨tyX9_ok, nmX9, rfl, rfl, by decide +kernel⟩
theorem ftf_X9_14 : FTF RX9 TX9 16 14 (.object "PorchHours$Row") tyX9 := ⟨tyX9_ok, nmX9, rfl, rfl, by decide +kernel⟩
theorem ftf_X9_15 : FTF RX9 TX9 16 15 (.object "PorchHours$Row") tyX9 := ⟨tyX9_ok, nmX9, rfl, rfl, by decide +kernel⟩
theorem nf_X0 : ∀ j, j < 4 → defaultValue (tyX0 j) = vp_V (([1, 1, 1, 1] : List Nat).map fun c => if c = 0 then Value.int 0 else Value.null) j := by decide +kernel
theorem nf_X1 : ∀ j, j < 5 → defaultValue (tyX1 j) = vp_V (([1, 1, 1, 1, 0] : List Nat).map fun c => if c = 0 then Value.int 0 else Value.null) j := by decide +kernel
theorem nf_X10 : ∀ j, j < 4 → defaultValue (tyX10 j) = vp_V (([1, 1, 0, 0] : List Nat).map fun c => if c = 0 then Value.int 0 else Value.null) j := by decide +kernel
theorem nf_X2 : ∀ j, j < 19 → defaultValue (tyX2 j) = vp_V (([0, 0, 0, 0, 0, 0, 1, 1, 1, 1, 1, 1, 1, 1, 1, 1, 1, 1, 1] : List Nat).map fun c => if c = 0 then Value.int 0 else Value.null) j := by decide +kernel
theorem nf_X3 : ∀ j, j < 5 → defaultValue (tyX3 j) = vp_V (([1, 1, 1, 1, 1] : List Nat).map fun c => if c = 0 then Value.int 0 else Value.null) j := by decide +kernel
theorem nf_X4 : ∀ j, j < 15 → defaultValue (tyX4 j) = vp_V (([1, 1, 1, 1, 1, 1, 1, 1, 1, 1, 1, 1, 1, 1, 0] : List Nat).map fun c => if c = 0 then Value.int 0 else Value.null) j := by decide +kernel
theorem nf_X5 : ∀ j, j < 9 → defaultValue (tyX5 j) = vp_V (([1, 1, 1, 1, 1, 0, 0, 0, 0] : List Nat).map fun c => if c = 0 then Value.int 0 else Value.null) j := by decide +kernel
theorem nf_X6 : ∀ j, j < 3 → defaultValue (tyX6 j) = vp_V (([0, 1, 0] : List Nat).map fun c => if c = 0 then Value.int 0 else Value.null) j := by decide +kernel
theorem nf_X7 : ∀ j, j < 2 → defaultValue (tyX7 j) = vp_V (([1, 0] : List Nat).map fun c => if c = 0 then Value.int 0 else Value.null) j := by decide +kernel
theorem nf_X8 : ∀ j, j < 6 → defaultValue (tyX8 j) = vp_V (([1, 1, 1, 1, 0, 0] : List Nat).map fun c => if c = 0 then Value.int 0 else Value.null) j := by decide +kernel
theorem nf_X9 : ∀ j, j < 16 → defaultValue (tyX9 j) = vp_V (([1, 1, 1, 1, 1, 1, 1, 1, 1, 1, 1, 1, 1, 1, 1, 1] : List Nat).map fun c => if c = 0 then Value.int 0 else Value.null) j := by decide +kernel
