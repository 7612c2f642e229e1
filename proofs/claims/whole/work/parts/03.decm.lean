theorem dX12_init_0 : decode cX12_init 0 = .ok (.aload_n 0, 1) := by decide +kernel
theorem dX12_init_1 : decode cX12_init 1 = .ok (.invokespecial 1, 3) := by decide +kernel
theorem dX12_init_4 : decode cX12_init 4 = .ok (.aload_n 0, 1) := by decide +kernel
theorem dX12_init_5 : decode cX12_init 5 = .ok (.sipush 161, 3) := by decide +kernel
theorem dX12_init_8 : decode cX12_init 8 = .ok (.newarray .int, 2) := by decide +kernel
theorem dX12_init_10 : decode cX12_init 10 = .ok (.putfield 7, 3) := by decide +kernel
theorem dX12_init_13 : decode cX12_init 13 = .ok (.aload_n 0, 1) := by decide +kernel
theorem dX12_init_14 : decode cX12_init 14 = .ok (.sipush 966, 3) := by decide +kernel
theorem dX12_init_17 : decode cX12_init 17 = .ok (.newarray .int, 2) := by decide +kernel
theorem dX12_init_19 : decode cX12_init 19 = .ok (.putfield 13, 3) := by decide +kernel
theorem dX12_init_22 : decode cX12_init 22 = .ok (.aload_n 0, 1) := by decide +kernel
theorem dX12_init_23 : decode cX12_init 23 = .ok (.sipush 161, 3) := by decide +kernel
theorem dX12_init_26 : decode cX12_init 26 = .ok (.newarray .int, 2) := by decide +kernel
theorem dX12_init_28 : decode cX12_init 28 = .ok (.putfield 16, 3) := by decide +kernel
theorem dX12_init_31 : decode cX12_init 31 = .ok (.aload_n 0, 1) := by decide +kernel
theorem dX12_init_32 : decode cX12_init 32 = .ok (.bipush 12, 2) := by decide +kernel
theorem dX12_init_34 : decode cX12_init 34 = .ok (.newarray .int, 2) := by decide +kernel
theorem dX12_init_36 : decode cX12_init 36 = .ok (.putfield 19, 3) := by decide +kernel
theorem dX12_init_39 : decode cX12_init 39 = .ok (.aload_n 0, 1) := by decide +kernel
theorem dX12_init_40 : decode cX12_init 40 = .ok (.bipush 20, 2) := by decide +kernel
theorem dX12_init_42 : decode cX12_init 42 = .ok (.newarray .int, 2) := by decide +kernel
theorem dX12_init_44 : decode cX12_init 44 = .ok (.putfield 22, 3) := by decide +kernel
theorem dX12_init_47 : decode cX12_init 47 = .ok (.aload_n 0, 1) := by decide +kernel
theorem dX12_init_48 : decode cX12_init 48 = .ok (.bipush 20, 2) := by decide +kernel
theorem dX12_init_50 : decode cX12_init 50 = .ok (.newarray .int, 2) := by decide +kernel
theorem dX12_init_52 : decode cX12_init 52 = .ok (.putfield 25, 3) := by decide +kernel
theorem dX12_init_55 : decode cX12_init 55 = .ok (.aload_n 0, 1) := by decide +kernel
theorem dX12_init_56 : decode cX12_init 56 = .ok (.sipush 750, 3) := by decide +kernel
theorem dX12_init_59 : decode cX12_init 59 = .ok (.newarray .int, 2) := by decide +kernel
theorem dX12_init_61 : decode cX12_init 61 = .ok (.putfield 28, 3) := by decide +kernel
theorem dX12_init_64 : decode cX12_init 64 = .ok (.aload_n 0, 1) := by decide +kernel
theorem dX12_init_65 : decode cX12_init 65 = .ok (.sipush 400, 3) := by decide +kernel
theorem dX12_init_68 : decode cX12_init 68 = .ok (.newarray .int, 2) := by decide +kernel
theorem dX12_init_70 : decode cX12_init 70 = .ok (.putfield 31, 3) := by decide +kernel
theorem dX12_init_73 : decode cX12_init 73 = .ok (.aload_n 0, 1) := by decide +kernel
theorem dX12_init_74 : decode cX12_init 74 = .ok (.sipush 152, 3) := by decide +kernel
theorem dX12_init_77 : decode cX12_init 77 = .ok (.newarray .int, 2) := by decide +kernel
theorem dX12_init_79 : decode cX12_init 79 = .ok (.dup, 1) := by decide +kernel
theorem dX12_init_80 : decode cX12_init 80 = .ok (.iconst 0, 1) := by decide +kernel
theorem dX12_init_81 : decode cX12_init 81 = .ok (.bipush 32, 2) := by decide +kernel
theorem dX12_init_83 : decode cX12_init 83 = .ok (.iastore, 1) := by decide +kernel
theorem dX12_init_84 : decode cX12_init 84 = .ok (.dup, 1) := by decide +kernel
theorem dX12_init_85 : decode cX12_init 85 = .ok (.iconst 1, 1) := by decide +kernel
theorem dX12_init_86 : decode cX12_init 86 = .ok (.bipush 115, 2) := by decide +kernel
theorem dX12_init_88 : decode cX12_init 88 = .ok (.iastore, 1) := by decide +kernel
theorem dX12_init_89 : decode cX12_init 89 = .ok (.dup, 1) := by decide +kernel
theorem dX12_init_90 : decode cX12_init 90 = .ok (.iconst 2, 1) := by decide +kernel
theorem dX12_init_91 : decode cX12_init 91 = .ok (.bipush 112, 2) := by decide +kernel
theorem dX12_init_93 : decode cX12_init 93 = .ok (.iastore, 1) := by decide +kernel
theorem dX12_init_94 : decode cX12_init 94 = .ok (.dup, 1) := by decide +kernel
theorem dX12_init_95 : decode cX12_init 95 = .ok (.iconst 3, 1) := by decide +kernel
theorem dX12_init_96 : decode cX12_init 96 = .ok (.bipush 101, 2) := by decide +kernel
theorem dX12_init_98 : decode cX12_init 98 = .ok (.iastore, 1) := by decide +kernel
theorem dX12_init_99 : decode cX12_init 99 = .ok (.dup, 1) := by decide +kernel
theorem dX12_init_100 : decode cX12_init 100 = .ok (.iconst 4, 1) := by decide +kernel
theorem dX12_init_101 : decode cX12_init 101 = .ok (.bipush 97, 2) := by decide +kernel
theorem dX12_init_103 : decode cX12_init 103 = .ok (.iastore, 1) := by decide +kernel
theorem dX12_init_104 : decode cX12_init 104 = .ok (.dup, 1) := by decide +kernel
theorem dX12_init_105 : decode cX12_init 105 = .ok (.iconst 5, 1) := by decide +kernel
theorem dX12_init_106 : decode cX12_init 106 = .ok (.bipush 107, 2) := by decide +kernel
theorem dX12_init_108 : decode cX12_init 108 = .ok (.iastore, 1) := by decide +kernel
theorem dX12_init_109 : decode cX12_init 109 = .ok (.dup, 1) := by decide +kernel
theorem dX12_init_110 : decode cX12_init 110 = .ok (.bipush 6, 2) := by decide +kernel
theorem dX12_init_112 : decode cX12_init 112 = .ok (.bipush 115, 2) := by decide +kernel
theorem dX12_init_114 : decode cX12_init 114 = .ok (.iastore, 1) := by decide +kernel
theorem dX12_init_115 : decode cX12_init 115 = .ok (.dup, 1) := by decide +kernel
theorem dX12_init_116 : decode cX12_init 116 = .ok (.bipush 7, 2) := by decide +kernel
theorem dX12_init_118 : decode cX12_init 118 = .ok (.bipush 32, 2) := by decide +kernel
theorem dX12_init_120 : decode cX12_init 120 = .ok (.iastore, 1) := by decide +kernel
theorem dX12_init_121 : decode cX12_init 121 = .ok (.dup, 1) := by decide +kernel
theorem dX12_init_122 : decode cX12_init 122 = .ok (.bipush 8, 2) := by decide +kernel
theorem dX12_init_124 : decode cX12_init 124 = .ok (.bipush 104, 2) := by decide +kernel
theorem dX12_init_126 : decode cX12_init 126 = .ok (.iastore, 1) := by decide +kernel
theorem dX12_init_127 : decode cX12_init 127 = .ok (.dup, 1) := by decide +kernel
theorem dX12_init_128 : decode cX12_init 128 = .ok (.bipush 9, 2) := by decide +kernel
theorem dX12_init_130 : decode cX12_init 130 = .ok (.bipush 101, 2) := by decide +kernel
theorem dX12_init_132 : decode cX12_init 132 = .ok (.iastore, 1) := by decide +kernel
theorem dX12_init_133 : decode cX12_init 133 = .ok (.dup, 1) := by decide +kernel
theorem dX12_init_134 : decode cX12_init 134 = .ok (.bipush 10, 2) := by decide +kernel
theorem dX12_init_136 : decode cX12_init 136 = .ok (.bipush 97, 2) := by decide +kernel
theorem dX12_init_138 : decode cX12_init 138 = .ok (.iastore, 1) := by decide +kernel
theorem dX12_init_139 : decode cX12_init 139 = .ok (.dup, 1) := by decide +kernel
theorem dX12_init_140 : decode cX12_init 140 = .ok (.bipush 11, 2) := by decide +kernel
theorem dX12_init_142 : decode cX12_init 142 = .ok (.bipush 114, 2) := by decide +kernel
theorem dX12_init_144 : decode cX12_init 144 = .ok (.iastore, 1) := by decide +kernel
theorem dX12_init_145 : decode cX12_init 145 = .ok (.dup, 1) := by decide +kernel
theorem dX12_init_146 : decode cX12_init 146 = .ok (.bipush 12, 2) := by decide +kernel
theorem dX12_init_148 : decode cX12_init 148 = .ok (.bipush 115, 2) := by decide +kernel
theorem dX12_init_150 : decode cX12_init 150 = .ok (.iastore, 1) := by decide +kernel
theorem dX12_init_151 : decode cX12_init 151 = .ok (.dup, 1) := by decide +kernel
theorem dX12_init_152 : decode cX12_init 152 = .ok (.bipush 13, 2) := by decide +kernel
theorem dX12_init_154 : decode cX12_init 154 = .ok (.bipush 32, 2) := by decide +kernel
theorem dX12_init_156 : decode cX12_init 156 = .ok (.iastore, 1) := by decide +kernel
theorem dX12_init_157 : decode cX12_init 157 = .ok (.dup, 1) := by decide +kernel
theorem dX12_init_158 : decode cX12_init 158 = .ok (.bipush 14, 2) := by decide +kernel
theorem dX12_init_160 : decode cX12_init 160 = .ok (.bipush 115, 2) := by decide +kernel
theorem dX12_init_162 : decode cX12_init 162 = .ok (.iastore, 1) := by decide +kernel
theorem dX12_init_163 : decode cX12_init 163 = .ok (.dup, 1) := by decide +kernel
theorem dX12_init_164 : decode cX12_init 164 = .ok (.bipush 15, 2) := by decide +kernel
theorem dX12_init_166 : decode cX12_init 166 = .ok (.bipush 112, 2) := by decide +kernel
theorem dX12_init_168 : decode cX12_init 168 = .ok (.iastore, 1) := by decide +kernel
theorem dX12_init_169 : decode cX12_init 169 = .ok (.dup, 1) := by decide +kernel
theorem dX12_init_170 : decode cX12_init 170 = .ok (.bipush 16, 2) := by decide +kernel
theorem dX12_init_172 : decode cX12_init 172 = .ok (.bipush 105, 2) := by decide +kernel
theorem dX12_init_174 : decode cX12_init 174 = .ok (.iastore, 1) := by decide +kernel
theorem dX12_init_175 : decode cX12_init 175 = .ok (.dup, 1) := by decide +kernel
theorem dX12_init_176 : decode cX12_init 176 = .ok (.bipush 17, 2) := by decide +kernel
theorem dX12_init_178 : decode cX12_init 178 = .ok (.bipush 110, 2) := by decide +kernel
theorem dX12_init_180 : decode cX12_init 180 = .ok (.iastore, 1) := by decide +kernel
theorem dX12_init_181 : decode cX12_init 181 = .ok (.dup, 1) := by decide +kernel
theorem dX12_init_182 : decode cX12_init 182 = .ok (.bipush 18, 2) := by decide +kernel
theorem dX12_init_184 : decode cX12_init 184 = .ok (.bipush 115, 2) := by decide +kernel
theorem dX12_init_186 : decode cX12_init 186 = .ok (.iastore, 1) := by decide +kernel
theorem dX12_init_187 : decode cX12_init 187 = .ok (.dup, 1) := by decide +kernel
theorem dX12_init_188 : decode cX12_init 188 = .ok (.bipush 19, 2) := by decide +kernel
theorem dX12_init_190 : decode cX12_init 190 = .ok (.bipush 32, 2) := by decide +kernel
theorem dX12_init_192 : decode cX12_init 192 = .ok (.iastore, 1) := by decide +kernel
theorem dX12_init_193 : decode cX12_init 193 = .ok (.dup, 1) := by decide +kernel
theorem dX12_init_194 : decode cX12_init 194 = .ok (.bipush 20, 2) := by decide +kernel
theorem dX12_init_196 : decode cX12_init 196 = .ok (.bipush 119, 2) := by decide +kernel
theorem dX12_init_198 : decode cX12_init 198 = .ok (.iastore, 1) := by decide +kernel
theorem dX12_init_199 : decode cX12_init 199 = .ok (.dup, 1) := by decide +kernel
theorem dX12_init_200 : decode cX12_init 200 = .ok (.bipush 21, 2) := by decide +kernel
theorem dX12_init_202 : decode cX12_init 202 = .ok (.bipush 104, 2) := by decide +kernel
theorem dX12_init_204 : decode cX12_init 204 = .ok (.iastore, 1) := by decide +kernel
theorem dX12_init_205 : decode cX12_init 205 = .ok (.dup, 1) := by decide +kernel
theorem dX12_init_206 : decode cX12_init 206 = .ok (.bipush 22, 2) := by decide +kernel
theorem dX12_init_208 : decode cX12_init 208 = .ok (.bipush 101, 2) := by decide +kernel
theorem dX12_init_210 : decode cX12_init 210 = .ok (.iastore, 1) := by decide +kernel
theorem dX12_init_211 : decode cX12_init 211 = .ok (.dup, 1) := by decide +kernel
theorem dX12_init_212 : decode cX12_init 212 = .ok (.bipush 23, 2) := by decide +kernel
theorem dX12_init_214 : decode cX12_init 214 = .ok (.bipush 110, 2) := by decide +kernel
theorem dX12_init_216 : decode cX12_init 216 = .ok (.iastore, 1) := by decide +kernel
theorem dX12_init_217 : decode cX12_init 217 = .ok (.dup, 1) := by decide +kernel
theorem dX12_init_218 : decode cX12_init 218 = .ok (.bipush 24, 2) := by decide +kernel
theorem dX12_init_220 : decode cX12_init 220 = .ok (.bipush 32, 2) := by decide +kernel
theorem dX12_init_222 : decode cX12_init 222 = .ok (.iastore, 1) := by decide +kernel
theorem dX12_init_223 : decode cX12_init 223 = .ok (.dup, 1) := by decide +kernel
theorem dX12_init_224 : decode cX12_init 224 = .ok (.bipush 25, 2) := by decide +kernel
theorem dX12_init_226 : decode cX12_init 226 = .ok (.bipush 111, 2) := by decide +kernel
theorem dX12_init_228 : decode cX12_init 228 = .ok (.iastore, 1) := by decide +kernel
theorem dX12_init_229 : decode cX12_init 229 = .ok (.dup, 1) := by decide +kernel
theorem dX12_init_230 : decode cX12_init 230 = .ok (.bipush 26, 2) := by decide +kernel
theorem dX12_init_232 : decode cX12_init 232 = .ok (.bipush 114, 2) := by decide +kernel
theorem dX12_init_234 : decode cX12_init 234 = .ok (.iastore, 1) := by decide +kernel
theorem dX12_init_235 : decode cX12_init 235 = .ok (.dup, 1) := by decide +kernel
theorem dX12_init_236 : decode cX12_init 236 = .ok (.bipush 27, 2) := by decide +kernel
theorem dX12_init_238 : decode cX12_init 238 = .ok (.bipush 32, 2) := by decide +kernel
theorem dX12_init_240 : decode cX12_init 240 = .ok (.iastore, 1) := by decide +kernel
theorem dX12_init_241 : decode cX12_init 241 = .ok (.dup, 1) := by decide +kernel
theorem dX12_init_242 : decode cX12_init 242 = .ok (.bipush 28, 2) := by decide +kernel
theorem dX12_init_244 : decode cX12_init 244 = .ok (.bipush 97, 2) := by decide +kernel
theorem dX12_init_246 : decode cX12_init 246 = .ok (.iastore, 1) := by decide +kernel
theorem dX12_init_247 : decode cX12_init 247 = .ok (.dup, 1) := by decide +kernel
theorem dX12_init_248 : decode cX12_init 248 = .ok (.bipush 29, 2) := by decide +kernel
theorem dX12_init_250 : decode cX12_init 250 = .ok (.bipush 110, 2) := by decide +kernel
theorem dX12_init_252 : decode cX12_init 252 = .ok (.iastore, 1) := by decide +kernel
theorem dX12_init_253 : decode cX12_init 253 = .ok (.dup, 1) := by decide +kernel
theorem dX12_init_254 : decode cX12_init 254 = .ok (.bipush 30, 2) := by decide +kernel
theorem dX12_init_256 : decode cX12_init 256 = .ok (.bipush 100, 2) := by decide +kernel
theorem dX12_init_258 : decode cX12_init 258 = .ok (.iastore, 1) := by decide +kernel
theorem dX12_init_259 : decode cX12_init 259 = .ok (.dup, 1) := by decide +kernel
theorem dX12_init_260 : decode cX12_init 260 = .ok (.bipush 31, 2) := by decide +kernel
theorem dX12_init_262 : decode cX12_init 262 = .ok (.bipush 32, 2) := by decide +kernel
theorem dX12_init_264 : decode cX12_init 264 = .ok (.iastore, 1) := by decide +kernel
theorem dX12_init_265 : decode cX12_init 265 = .ok (.dup, 1) := by decide +kernel
theorem dX12_init_266 : decode cX12_init 266 = .ok (.bipush 32, 2) := by decide +kernel
theorem dX12_init_268 : decode cX12_init 268 = .ok (.bipush 110, 2) := by decide +kernel
theorem dX12_init_270 : decode cX12_init 270 = .ok (.iastore, 1) := by decide +kernel
theorem dX12_init_271 : decode cX12_init 271 = .ok (.dup, 1) := by decide +kernel
theorem dX12_init_272 : decode cX12_init 272 = .ok (.bipush 33, 2) := by decide +kernel
theorem dX12_init_274 : decode cX12_init 274 = .ok (.bipush 111, 2) := by decide +kernel
theorem dX12_init_276 : decode cX12_init 276 = .ok (.iastore, 1) := by decide +kernel
theorem dX12_init_277 : decode cX12_init 277 = .ok (.dup, 1) := by decide +kernel
theorem dX12_init_278 : decode cX12_init 278 = .ok (.bipush 34, 2) := by decide +kernel
theorem dX12_init_280 : decode cX12_init 280 = .ok (.bipush 116, 2) := by decide +kernel
theorem dX12_init_282 : decode cX12_init 282 = .ok (.iastore, 1) := by decide +kernel
theorem dX12_init_283 : decode cX12_init 283 = .ok (.dup, 1) := by decide +kernel
theorem dX12_init_284 : decode cX12_init 284 = .ok (.bipush 35, 2) := by decide +kernel
theorem dX12_init_286 : decode cX12_init 286 = .ok (.bipush 32, 2) := by decide +kernel
theorem dX12_init_288 : decode cX12_init 288 = .ok (.iastore, 1) := by decide +kernel
theorem dX12_init_289 : decode cX12_init 289 = .ok (.dup, 1) := by decide +kernel
theorem dX12_init_290 : decode cX12_init 290 = .ok (.bipush 36, 2) := by decide +kernel
theorem dX12_init_292 : decode cX12_init 292 = .ok (.bipush 116, 2) := by decide +kernel
theorem dX12_init_294 : decode cX12_init 294 = .ok (.iastore, 1) := by decide +kernel
theorem dX12_init_295 : decode cX12_init 295 = .ok (.dup, 1) := by decide +kernel
theorem dX12_init_296 : decode cX12_init 296 = .ok (.bipush 37, 2) := by decide +kernel
theorem dX12_init_298 : decode cX12_init 298 = .ok (.bipush 111, 2) := by decide +kernel
theorem dX12_init_300 : decode cX12_init 300 = .ok (.iastore, 1) := by decide +kernel
theorem dX12_init_301 : decode cX12_init 301 = .ok (.dup, 1) := by decide +kernel
theorem dX12_init_302 : decode cX12_init 302 = .ok (.bipush 38, 2) := by decide +kernel
theorem dX12_init_304 : decode cX12_init 304 = .ok (.bipush 110, 2) := by decide +kernel
theorem dX12_init_306 : decode cX12_init 306 = .ok (.iastore, 1) := by decide +kernel
theorem dX12_init_307 : decode cX12_init 307 = .ok (.dup, 1) := by decide +kernel
theorem dX12_init_308 : decode cX12_init 308 = .ok (.bipush 39, 2) := by decide +kernel
theorem dX12_init_310 : decode cX12_init 310 = .ok (.bipush 103, 2) := by decide +kernel
theorem dX12_init_312 : decode cX12_init 312 = .ok (.iastore, 1) := by decide +kernel
theorem dX12_init_313 : decode cX12_init 313 = .ok (.dup, 1) := by decide +kernel
theorem dX12_init_314 : decode cX12_init 314 = .ok (.bipush 40, 2) := by decide +kernel
theorem dX12_init_316 : decode cX12_init 316 = .ok (.bipush 117, 2) := by decide +kernel
theorem dX12_init_318 : decode cX12_init 318 = .ok (.iastore, 1) := by decide +kernel
theorem dX12_init_319 : decode cX12_init 319 = .ok (.dup, 1) := by decide +kernel
theorem dX12_init_320 : decode cX12_init 320 = .ok (.bipush 41, 2) := by decide +kernel
theorem dX12_init_322 : decode cX12_init 322 = .ok (.bipush 101, 2) := by decide +kernel
theorem dX12_init_324 : decode cX12_init 324 = .ok (.iastore, 1) := by decide +kernel
theorem dX12_init_325 : decode cX12_init 325 = .ok (.dup, 1) := by decide +kernel
theorem dX12_init_326 : decode cX12_init 326 = .ok (.bipush 42, 2) := by decide +kernel
theorem dX12_init_328 : decode cX12_init 328 = .ok (.bipush 32, 2) := by decide +kernel
theorem dX12_init_330 : decode cX12_init 330 = .ok (.iastore, 1) := by decide +kernel
theorem dX12_init_331 : decode cX12_init 331 = .ok (.dup, 1) := by decide +kernel
theorem dX12_init_332 : decode cX12_init 332 = .ok (.bipush 43, 2) := by decide +kernel
theorem dX12_init_334 : decode cX12_init 334 = .ok (.bipush 101, 2) := by decide +kernel
theorem dX12_init_336 : decode cX12_init 336 = .ok (.iastore, 1) := by decide +kernel
theorem dX12_init_337 : decode cX12_init 337 = .ok (.dup, 1) := by decide +kernel
theorem dX12_init_338 : decode cX12_init 338 = .ok (.bipush 44, 2) := by decide +kernel
theorem dX12_init_340 : decode cX12_init 340 = .ok (.bipush 97, 2) := by decide +kernel
theorem dX12_init_342 : decode cX12_init 342 = .ok (.iastore, 1) := by decide +kernel
theorem dX12_init_343 : decode cX12_init 343 = .ok (.dup, 1) := by decide +kernel
theorem dX12_init_344 : decode cX12_init 344 = .ok (.bipush 45, 2) := by decide +kernel
theorem dX12_init_346 : decode cX12_init 346 = .ok (.bipush 114, 2) := by decide +kernel
theorem dX12_init_348 : decode cX12_init 348 = .ok (.iastore, 1) := by decide +kernel
theorem dX12_init_349 : decode cX12_init 349 = .ok (.dup, 1) := by decide +kernel
theorem dX12_init_350 : decode cX12_init 350 = .ok (.bipush 46, 2) := by decide +kernel
theorem dX12_init_352 : decode cX12_init 352 = .ok (.bipush 115, 2) := by decide +kernel
theorem dX12_init_354 : decode cX12_init 354 = .ok (.iastore, 1) := by decide +kernel
theorem dX12_init_355 : decode cX12_init 355 = .ok (.dup, 1) := by decide +kernel
theorem dX12_init_356 : decode cX12_init 356 = .ok (.bipush 47, 2) := by decide +kernel
theorem dX12_init_358 : decode cX12_init 358 = .ok (.bipush 32, 2) := by decide +kernel
theorem dX12_init_360 : decode cX12_init 360 = .ok (.iastore, 1) := by decide +kernel
theorem dX12_init_361 : decode cX12_init 361 = .ok (.dup, 1) := by decide +kernel
theorem dX12_init_362 : decode cX12_init 362 = .ok (.bipush 48, 2) := by decide +kernel
theorem dX12_init_364 : decode cX12_init 364 = .ok (.bipush 115, 2) := by decide +kernel
theorem dX12_init_366 : decode cX12_init 366 = .ok (.iastore, 1) := by decide +kernel
theorem dX12_init_367 : decode cX12_init 367 = .ok (.dup, 1) := by decide +kernel
theorem dX12_init_368 : decode cX12_init 368 = .ok (.bipush 49, 2) := by decide +kernel
theorem dX12_init_370 : decode cX12_init 370 = .ok (.bipush 105, 2) := by decide +kernel
theorem dX12_init_372 : decode cX12_init 372 = .ok (.iastore, 1) := by decide +kernel
theorem dX12_init_373 : decode cX12_init 373 = .ok (.dup, 1) := by decide +kernel
theorem dX12_init_374 : decode cX12_init 374 = .ok (.bipush 50, 2) := by decide +kernel
theorem dX12_init_376 : decode cX12_init 376 = .ok (.bipush 116, 2) := by decide +kernel
theorem dX12_init_378 : decode cX12_init 378 = .ok (.iastore, 1) := by decide +kernel
theorem dX12_init_379 : decode cX12_init 379 = .ok (.dup, 1) := by decide +kernel
theorem dX12_init_380 : decode cX12_init 380 = .ok (.bipush 51, 2) := by decide +kernel
theorem dX12_init_382 : decode cX12_init 382 = .ok (.bipush 116, 2) := by decide +kernel
theorem dX12_init_384 : decode cX12_init 384 = .ok (.iastore, 1) := by decide +kernel
theorem dX12_init_385 : decode cX12_init 385 = .ok (.dup, 1) := by decide +kernel
theorem dX12_init_386 : decode cX12_init 386 = .ok (.bipush 52, 2) := by decide +kernel
theorem dX12_init_388 : decode cX12_init 388 = .ok (.bipush 105, 2) := by decide +kernel
theorem dX12_init_390 : decode cX12_init 390 = .ok (.iastore, 1) := by decide +kernel
theorem dX12_init_391 : decode cX12_init 391 = .ok (.dup, 1) := by decide +kernel
theorem dX12_init_392 : decode cX12_init 392 = .ok (.bipush 53, 2) := by decide +kernel
theorem dX12_init_394 : decode cX12_init 394 = .ok (.bipush 110, 2) := by decide +kernel
theorem dX12_init_396 : decode cX12_init 396 = .ok (.iastore, 1) := by decide +kernel
theorem dX12_init_397 : decode cX12_init 397 = .ok (.dup, 1) := by decide +kernel
theorem dX12_init_398 : decode cX12_init 398 = .ok (.bipush 54, 2) := by decide +kernel
theorem dX12_init_400 : decode cX12_init 400 = .ok (.bipush 103, 2) := by decide +kernel
theorem dX12_init_402 : decode cX12_init 402 = .ok (.iastore, 1) := by decide +kernel
theorem dX12_init_403 : decode cX12_init 403 = .ok (.dup, 1) := by decide +kernel
theorem dX12_init_404 : decode cX12_init 404 = .ok (.bipush 55, 2) := by decide +kernel
theorem dX12_init_406 : decode cX12_init 406 = .ok (.bipush 32, 2) := by decide +kernel
theorem dX12_init_408 : decode cX12_init 408 = .ok (.iastore, 1) := by decide +kernel
theorem dX12_init_409 : decode cX12_init 409 = .ok (.dup, 1) := by decide +kernel
theorem dX12_init_410 : decode cX12_init 410 = .ok (.bipush 56, 2) := by decide +kernel
theorem dX12_init_412 : decode cX12_init 412 = .ok (.bipush 115, 2) := by decide +kernel
theorem dX12_init_414 : decode cX12_init 414 = .ok (.iastore, 1) := by decide +kernel
theorem dX12_init_415 : decode cX12_init 415 = .ok (.dup, 1) := by decide +kernel
theorem dX12_init_416 : decode cX12_init 416 = .ok (.bipush 57, 2) := by decide +kernel
theorem dX12_init_418 : decode cX12_init 418 = .ok (.bipush 116, 2) := by decide +kernel
theorem dX12_init_420 : decode cX12_init 420 = .ok (.iastore, 1) := by decide +kernel
theorem dX12_init_421 : decode cX12_init 421 = .ok (.dup, 1) := by decide +kernel
theorem dX12_init_422 : decode cX12_init 422 = .ok (.bipush 58, 2) := by decide +kernel
theorem dX12_init_424 : decode cX12_init 424 = .ok (.bipush 97, 2) := by decide +kernel
theorem dX12_init_426 : decode cX12_init 426 = .ok (.iastore, 1) := by decide +kernel
theorem dX12_init_427 : decode cX12_init 427 = .ok (.dup, 1) := by decide +kernel
theorem dX12_init_428 : decode cX12_init 428 = .ok (.bipush 59, 2) := by decide +kernel
theorem dX12_init_430 : decode cX12_init 430 = .ok (.bipush 121, 2) := by decide +kernel
theorem dX12_init_432 : decode cX12_init 432 = .ok (.iastore, 1) := by decide +kernel
theorem dX12_init_433 : decode cX12_init 433 = .ok (.dup, 1) := by decide +kernel
theorem dX12_init_434 : decode cX12_init 434 = .ok (.bipush 60, 2) := by decide +kernel
theorem dX12_init_436 : decode cX12_init 436 = .ok (.bipush 101, 2) := by decide +kernel
theorem dX12_init_438 : decode cX12_init 438 = .ok (.iastore, 1) := by decide +kernel
theorem dX12_init_439 : decode cX12_init 439 = .ok (.dup, 1) := by decide +kernel
theorem dX12_init_440 : decode cX12_init 440 = .ok (.bipush 61, 2) := by decide +kernel
theorem dX12_init_442 : decode cX12_init 442 = .ok (.bipush 100, 2) := by decide +kernel
theorem dX12_init_444 : decode cX12_init 444 = .ok (.iastore, 1) := by decide +kernel
theorem dX12_init_445 : decode cX12_init 445 = .ok (.dup, 1) := by decide +kernel
theorem dX12_init_446 : decode cX12_init 446 = .ok (.bipush 62, 2) := by decide +kernel
theorem dX12_init_448 : decode cX12_init 448 = .ok (.bipush 32, 2) := by decide +kernel
theorem dX12_init_450 : decode cX12_init 450 = .ok (.iastore, 1) := by decide +kernel
theorem dX12_init_451 : decode cX12_init 451 = .ok (.dup, 1) := by decide +kernel
theorem dX12_init_452 : decode cX12_init 452 = .ok (.bipush 63, 2) := by decide +kernel
theorem dX12_init_454 : decode cX12_init 454 = .ok (.bipush 108, 2) := by decide +kernel
theorem dX12_init_456 : decode cX12_init 456 = .ok (.iastore, 1) := by decide +kernel
theorem dX12_init_457 : decode cX12_init 457 = .ok (.dup, 1) := by decide +kernel
theorem dX12_init_458 : decode cX12_init 458 = .ok (.bipush 64, 2) := by decide +kernel
theorem dX12_init_460 : decode cX12_init 460 = .ok (.bipush 97, 2) := by decide +kernel
theorem dX12_init_462 : decode cX12_init 462 = .ok (.iastore, 1) := by decide +kernel
theorem dX12_init_463 : decode cX12_init 463 = .ok (.dup, 1) := by decide +kernel
theorem dX12_init_464 : decode cX12_init 464 = .ok (.bipush 65, 2) := by decide +kernel
theorem dX12_init_466 : decode cX12_init 466 = .ok (.bipush 109, 2) := by decide +kernel
theorem dX12_init_468 : decode cX12_init 468 = .ok (.iastore, 1) := by decide +kernel
theorem dX12_init_469 : decode cX12_init 469 = .ok (.dup, 1) := by decide +kernel
theorem dX12_init_470 : decode cX12_init 470 = .ok (.bipush 66, 2) := by decide +kernel
theorem dX12_init_472 : decode cX12_init 472 = .ok (.bipush 112, 2) := by decide +kernel
theorem dX12_init_474 : decode cX12_init 474 = .ok (.iastore, 1) := by decide +kernel
theorem dX12_init_475 : decode cX12_init 475 = .ok (.dup, 1) := by decide +kernel
theorem dX12_init_476 : decode cX12_init 476 = .ok (.bipush 67, 2) := by decide +kernel
theorem dX12_init_478 : decode cX12_init 478 = .ok (.bipush 32, 2) := by decide +kernel
theorem dX12_init_480 : decode cX12_init 480 = .ok (.iastore, 1) := by decide +kernel
theorem dX12_init_481 : decode cX12_init 481 = .ok (.dup, 1) := by decide +kernel
theorem dX12_init_482 : decode cX12_init 482 = .ok (.bipush 68, 2) := by decide +kernel
theorem dX12_init_484 : decode cX12_init 484 = .ok (.bipush 99, 2) := by decide +kernel
theorem dX12_init_486 : decode cX12_init 486 = .ok (.iastore, 1) := by decide +kernel
theorem dX12_init_487 : decode cX12_init 487 = .ok (.dup, 1) := by decide +kernel
theorem dX12_init_488 : decode cX12_init 488 = .ok (.bipush 69, 2) := by decide +kernel
theorem dX12_init_490 : decode cX12_init 490 = .ok (.bipush 111, 2) := by decide +kernel
theorem dX12_init_492 : decode cX12_init 492 = .ok (.iastore, 1) := by decide +kernel
theorem dX12_init_493 : decode cX12_init 493 = .ok (.dup, 1) := by decide +kernel
theorem dX12_init_494 : decode cX12_init 494 = .ok (.bipush 70, 2) := by decide +kernel
theorem dX12_init_496 : decode cX12_init 496 = .ok (.bipush 98, 2) := by decide +kernel
theorem dX12_init_498 : decode cX12_init 498 = .ok (.iastore, 1) := by decide +kernel
theorem dX12_init_499 : decode cX12_init 499 = .ok (.dup, 1) := by decide +kernel
theorem dX12_init_500 : decode cX12_init 500 = .ok (.bipush 71, 2) := by decide +kernel
theorem dX12_init_502 : decode cX12_init 502 = .ok (.bipush 119, 2) := by decide +kernel
theorem dX12_init_504 : decode cX12_init 504 = .ok (.iastore, 1) := by decide +kernel
theorem dX12_init_505 : decode cX12_init 505 = .ok (.dup, 1) := by decide +kernel
theorem dX12_init_506 : decode cX12_init 506 = .ok (.bipush 72, 2) := by decide +kernel
theorem dX12_init_508 : decode cX12_init 508 = .ok (.bipush 101, 2) := by decide +kernel
theorem dX12_init_510 : decode cX12_init 510 = .ok (.iastore, 1) := by decide +kernel
theorem dX12_init_511 : decode cX12_init 511 = .ok (.dup, 1) := by decide +kernel
theorem dX12_init_512 : decode cX12_init 512 = .ok (.bipush 73, 2) := by decide +kernel
theorem dX12_init_514 : decode cX12_init 514 = .ok (.bipush 98, 2) := by decide +kernel
theorem dX12_init_516 : decode cX12_init 516 = .ok (.iastore, 1) := by decide +kernel
theorem dX12_init_517 : decode cX12_init 517 = .ok (.dup, 1) := by decide +kernel
theorem dX12_init_518 : decode cX12_init 518 = .ok (.bipush 74, 2) := by decide +kernel
theorem dX12_init_520 : decode cX12_init 520 = .ok (.bipush 32, 2) := by decide +kernel
theorem dX12_init_522 : decode cX12_init 522 = .ok (.iastore, 1) := by decide +kernel
theorem dX12_init_523 : decode cX12_init 523 = .ok (.dup, 1) := by decide +kernel
theorem dX12_init_524 : decode cX12_init 524 = .ok (.bipush 75, 2) := by decide +kernel
theorem dX12_init_526 : decode cX12_init 526 = .ok (.bipush 109, 2) := by decide +kernel
theorem dX12_init_528 : decode cX12_init 528 = .ok (.iastore, 1) := by decide +kernel
theorem dX12_init_529 : decode cX12_init 529 = .ok (.dup, 1) := by decide +kernel
theorem dX12_init_530 : decode cX12_init 530 = .ok (.bipush 76, 2) := by decide +kernel
theorem dX12_init_532 : decode cX12_init 532 = .ok (.bipush 105, 2) := by decide +kernel
theorem dX12_init_534 : decode cX12_init 534 = .ok (.iastore, 1) := by decide +kernel
theorem dX12_init_535 : decode cX12_init 535 = .ok (.dup, 1) := by decide +kernel
theorem dX12_init_536 : decode cX12_init 536 = .ok (.bipush 77, 2) := by decide +kernel
theorem dX12_init_538 : decode cX12_init 538 = .ok (.bipush 110, 2) := by decide +kernel
theorem dX12_init_540 : decode cX12_init 540 = .ok (.iastore, 1) := by decide +kernel
theorem dX12_init_541 : decode cX12_init 541 = .ok (.dup, 1) := by decide +kernel
theorem dX12_init_542 : decode cX12_init 542 = .ok (.bipush 78, 2) := by decide +kernel
theorem dX12_init_544 : decode cX12_init 544 = .ok (.bipush 117, 2) := by decide +kernel
theorem dX12_init_546 : decode cX12_init 546 = .ok (.iastore, 1) := by decide +kernel
theorem dX12_init_547 : decode cX12_init 547 = .ok (.dup, 1) := by decide +kernel
theorem dX12_init_548 : decode cX12_init 548 = .ok (.bipush 79, 2) := by decide +kernel
theorem dX12_init_550 : decode cX12_init 550 = .ok (.bipush 116, 2) := by decide +kernel
theorem dX12_init_552 : decode cX12_init 552 = .ok (.iastore, 1) := by decide +kernel
theorem dX12_init_553 : decode cX12_init 553 = .ok (.dup, 1) := by decide +kernel
theorem dX12_init_554 : decode cX12_init 554 = .ok (.bipush 80, 2) := by decide +kernel
theorem dX12_init_556 : decode cX12_init 556 = .ok (.bipush 101, 2) := by decide +kernel
theorem dX12_init_558 : decode cX12_init 558 = .ok (.iastore, 1) := by decide +kernel
theorem dX12_init_559 : decode cX12_init 559 = .ok (.dup, 1) := by decide +kernel
theorem dX12_init_560 : decode cX12_init 560 = .ok (.bipush 81, 2) := by decide +kernel
theorem dX12_init_562 : decode cX12_init 562 = .ok (.bipush 32, 2) := by decide +kernel
theorem dX12_init_564 : decode cX12_init 564 = .ok (.iastore, 1) := by decide +kernel
theorem dX12_init_565 : decode cX12_init 565 = .ok (.dup, 1) := by decide +kernel
theorem dX12_init_566 : decode cX12_init 566 = .ok (.bipush 82, 2) := by decide +kernel
theorem dX12_init_568 : decode cX12_init 568 = .ok (.bipush 115, 2) := by decide +kernel
theorem dX12_init_570 : decode cX12_init 570 = .ok (.iastore, 1) := by decide +kernel
theorem dX12_init_571 : decode cX12_init 571 = .ok (.dup, 1) := by decide +kernel
theorem dX12_init_572 : decode cX12_init 572 = .ok (.bipush 83, 2) := by decide +kernel
theorem dX12_init_574 : decode cX12_init 574 = .ok (.bipush 97, 2) := by decide +kernel
theorem dX12_init_576 : decode cX12_init 576 = .ok (.iastore, 1) := by decide +kernel
theorem dX12_init_577 : decode cX12_init 577 = .ok (.dup, 1) := by decide +kernel
theorem dX12_init_578 : decode cX12_init 578 = .ok (.bipush 84, 2) := by decide +kernel
theorem dX12_init_580 : decode cX12_init 580 = .ok (.bipush 105, 2) := by decide +kernel
theorem dX12_init_582 : decode cX12_init 582 = .ok (.iastore, 1) := by decide +kernel
theorem dX12_init_583 : decode cX12_init 583 = .ok (.dup, 1) := by decide +kernel
theorem dX12_init_584 : decode cX12_init 584 = .ok (.bipush 85, 2) := by decide +kernel
theorem dX12_init_586 : decode cX12_init 586 = .ok (.bipush 100, 2) := by decide +kernel
theorem dX12_init_588 : decode cX12_init 588 = .ok (.iastore, 1) := by decide +kernel
theorem dX12_init_589 : decode cX12_init 589 = .ok (.dup, 1) := by decide +kernel
theorem dX12_init_590 : decode cX12_init 590 = .ok (.bipush 86, 2) := by decide +kernel
theorem dX12_init_592 : decode cX12_init 592 = .ok (.bipush 32, 2) := by decide +kernel
theorem dX12_init_594 : decode cX12_init 594 = .ok (.iastore, 1) := by decide +kernel
theorem dX12_init_595 : decode cX12_init 595 = .ok (.dup, 1) := by decide +kernel
theorem dX12_init_596 : decode cX12_init 596 = .ok (.bipush 87, 2) := by decide +kernel
theorem dX12_init_598 : decode cX12_init 598 = .ok (.bipush 104, 2) := by decide +kernel
theorem dX12_init_600 : decode cX12_init 600 = .ok (.iastore, 1) := by decide +kernel
theorem dX12_init_601 : decode cX12_init 601 = .ok (.dup, 1) := by decide +kernel
theorem dX12_init_602 : decode cX12_init 602 = .ok (.bipush 88, 2) := by decide +kernel
theorem dX12_init_604 : decode cX12_init 604 = .ok (.bipush 101, 2) := by decide +kernel
theorem dX12_init_606 : decode cX12_init 606 = .ok (.iastore, 1) := by decide +kernel
theorem dX12_init_607 : decode cX12_init 607 = .ok (.dup, 1) := by decide +kernel
theorem dX12_init_608 : decode cX12_init 608 = .ok (.bipush 89, 2) := by decide +kernel
theorem dX12_init_610 : decode cX12_init 610 = .ok (.bipush 97, 2) := by decide +kernel
theorem dX12_init_612 : decode cX12_init 612 = .ok (.iastore, 1) := by decide +kernel
theorem dX12_init_613 : decode cX12_init 613 = .ok (.dup, 1) := by decide +kernel
theorem dX12_init_614 : decode cX12_init 614 = .ok (.bipush 90, 2) := by decide +kernel
theorem dX12_init_616 : decode cX12_init 616 = .ok (.bipush 114, 2) := by decide +kernel
theorem dX12_init_618 : decode cX12_init 618 = .ok (.iastore, 1) := by decide +kernel
theorem dX12_init_619 : decode cX12_init 619 = .ok (.dup, 1) := by decide +kernel
theorem dX12_init_620 : decode cX12_init 620 = .ok (.bipush 91, 2) := by decide +kernel
theorem dX12_init_622 : decode cX12_init 622 = .ok (.bipush 100, 2) := by decide +kernel
theorem dX12_init_624 : decode cX12_init 624 = .ok (.iastore, 1) := by decide +kernel
theorem dX12_init_625 : decode cX12_init 625 = .ok (.dup, 1) := by decide +kernel
theorem dX12_init_626 : decode cX12_init 626 = .ok (.bipush 92, 2) := by decide +kernel
theorem dX12_init_628 : decode cX12_init 628 = .ok (.bipush 32, 2) := by decide +kernel
theorem dX12_init_630 : decode cX12_init 630 = .ok (.iastore, 1) := by decide +kernel
theorem dX12_init_631 : decode cX12_init 631 = .ok (.dup, 1) := by decide +kernel
theorem dX12_init_632 : decode cX12_init 632 = .ok (.bipush 93, 2) := by decide +kernel
theorem dX12_init_634 : decode cX12_init 634 = .ok (.bipush 101, 2) := by decide +kernel
theorem dX12_init_636 : decode cX12_init 636 = .ok (.iastore, 1) := by decide +kernel
theorem dX12_init_637 : decode cX12_init 637 = .ok (.dup, 1) := by decide +kernel
theorem dX12_init_638 : decode cX12_init 638 = .ok (.bipush 94, 2) := by decide +kernel
theorem dX12_init_640 : decode cX12_init 640 = .ok (.bipush 118, 2) := by decide +kernel
theorem dX12_init_642 : decode cX12_init 642 = .ok (.iastore, 1) := by decide +kernel
theorem dX12_init_643 : decode cX12_init 643 = .ok (.dup, 1) := by decide +kernel
theorem dX12_init_644 : decode cX12_init 644 = .ok (.bipush 95, 2) := by decide +kernel
theorem dX12_init_646 : decode cX12_init 646 = .ok (.bipush 101, 2) := by decide +kernel
theorem dX12_init_648 : decode cX12_init 648 = .ok (.iastore, 1) := by decide +kernel
theorem dX12_init_649 : decode cX12_init 649 = .ok (.dup, 1) := by decide +kernel
theorem dX12_init_650 : decode cX12_init 650 = .ok (.bipush 96, 2) := by decide +kernel
theorem dX12_init_652 : decode cX12_init 652 = .ok (.bipush 110, 2) := by decide +kernel
theorem dX12_init_654 : decode cX12_init 654 = .ok (.iastore, 1) := by decide +kernel
theorem dX12_init_655 : decode cX12_init 655 = .ok (.dup, 1) := by decide +kernel
theorem dX12_init_656 : decode cX12_init 656 = .ok (.bipush 97, 2) := by decide +kernel
theorem dX12_init_658 : decode cX12_init 658 = .ok (.bipush 105, 2) := by decide +kernel
theorem dX12_init_660 : decode cX12_init 660 = .ok (.iastore, 1) := by decide +kernel
theorem dX12_init_661 : decode cX12_init 661 = .ok (.dup, 1) := by decide +kernel
theorem dX12_init_662 : decode cX12_init 662 = .ok (.bipush 98, 2) := by decide +kernel
theorem dX12_init_664 : decode cX12_init 664 = .ok (.bipush 110, 2) := by decide +kernel
theorem dX12_init_666 : decode cX12_init 666 = .ok (.iastore, 1) := by decide +kernel
theorem dX12_init_667 : decode cX12_init 667 = .ok (.dup, 1) := by decide +kernel
theorem dX12_init_668 : decode cX12_init 668 = .ok (.bipush 99, 2) := by decide +kernel
theorem dX12_init_670 : decode cX12_init 670 = .ok (.bipush 103, 2) := by decide +kernel
theorem dX12_init_672 : decode cX12_init 672 = .ok (.iastore, 1) := by decide +kernel
theorem dX12_init_673 : decode cX12_init 673 = .ok (.dup, 1) := by decide +kernel
theorem dX12_init_674 : decode cX12_init 674 = .ok (.bipush 100, 2) := by decide +kernel
theorem dX12_init_676 : decode cX12_init 676 = .ok (.bipush 32, 2) := by decide +kernel
theorem dX12_init_678 : decode cX12_init 678 = .ok (.iastore, 1) := by decide +kernel
theorem dX12_init_679 : decode cX12_init 679 = .ok (.dup, 1) := by decide +kernel
theorem dX12_init_680 : decode cX12_init 680 = .ok (.bipush 101, 2) := by decide +kernel
theorem dX12_init_682 : decode cX12_init 682 = .ok (.bipush 112, 2) := by decide +kernel
theorem dX12_init_684 : decode cX12_init 684 = .ok (.iastore, 1) := by decide +kernel
theorem dX12_init_685 : decode cX12_init 685 = .ok (.dup, 1) := by decide +kernel
theorem dX12_init_686 : decode cX12_init 686 = .ok (.bipush 102, 2) := by decide +kernel
theorem dX12_init_688 : decode cX12_init 688 = .ok (.bipush 101, 2) := by decide +kernel
theorem dX12_init_690 : decode cX12_init 690 = .ok (.iastore, 1) := by decide +kernel
theorem dX12_init_691 : decode cX12_init 691 = .ok (.dup, 1) := by decide +kernel
theorem dX12_init_692 : decode cX12_init 692 = .ok (.bipush 103, 2) := by decide +kernel
theorem dX12_init_694 : decode cX12_init 694 = .ok (.bipush 114, 2) := by decide +kernel
theorem dX12_init_696 : decode cX12_init 696 = .ok (.iastore, 1) := by decide +kernel
theorem dX12_init_697 : decode cX12_init 697 = .ok (.dup, 1) := by decide +kernel
theorem dX12_init_698 : decode cX12_init 698 = .ok (.bipush 104, 2) := by decide +kernel
theorem dX12_init_700 : decode cX12_init 700 = .ok (.bipush 115, 2) := by decide +kernel
theorem dX12_init_702 : decode cX12_init 702 = .ok (.iastore, 1) := by decide +kernel
theorem dX12_init_703 : decode cX12_init 703 = .ok (.dup, 1) := by decide +kernel
theorem dX12_init_704 : decode cX12_init 704 = .ok (.bipush 105, 2) := by decide +kernel
theorem dX12_init_706 : decode cX12_init 706 = .ok (.bipush 111, 2) := by decide +kernel
theorem dX12_init_708 : decode cX12_init 708 = .ok (.iastore, 1) := by decide +kernel
theorem dX12_init_709 : decode cX12_init 709 = .ok (.dup, 1) := by decide +kernel
theorem dX12_init_710 : decode cX12_init 710 = .ok (.bipush 106, 2) := by decide +kernel
theorem dX12_init_712 : decode cX12_init 712 = .ok (.bipush 110, 2) := by decide +kernel
theorem dX12_init_714 : decode cX12_init 714 = .ok (.iastore, 1) := by decide +kernel
theorem dX12_init_715 : decode cX12_init 715 = .ok (.dup, 1) := by decide +kernel
theorem dX12_init_716 : decode cX12_init 716 = .ok (.bipush 107, 2) := by decide +kernel
theorem dX12_init_718 : decode cX12_init 718 = .ok (.bipush 32, 2) := by decide +kernel
theorem dX12_init_720 : decode cX12_init 720 = .ok (.iastore, 1) := by decide +kernel
theorem dX12_init_721 : decode cX12_init 721 = .ok (.dup, 1) := by decide +kernel
theorem dX12_init_722 : decode cX12_init 722 = .ok (.bipush 108, 2) := by decide +kernel
theorem dX12_init_724 : decode cX12_init 724 = .ok (.bipush 97, 2) := by decide +kernel
theorem dX12_init_726 : decode cX12_init 726 = .ok (.iastore, 1) := by decide +kernel
theorem dX12_init_727 : decode cX12_init 727 = .ok (.dup, 1) := by decide +kernel
theorem dX12_init_728 : decode cX12_init 728 = .ok (.bipush 109, 2) := by decide +kernel
theorem dX12_init_730 : decode cX12_init 730 = .ok (.bipush 116, 2) := by decide +kernel
theorem dX12_init_732 : decode cX12_init 732 = .ok (.iastore, 1) := by decide +kernel
theorem dX12_init_733 : decode cX12_init 733 = .ok (.dup, 1) := by decide +kernel
theorem dX12_init_734 : decode cX12_init 734 = .ok (.bipush 110, 2) := by decide +kernel
theorem dX12_init_736 : decode cX12_init 736 = .ok (.bipush 32, 2) := by decide +kernel
theorem dX12_init_738 : decode cX12_init 738 = .ok (.iastore, 1) := by decide +kernel
theorem dX12_init_739 : decode cX12_init 739 = .ok (.dup, 1) := by decide +kernel
theorem dX12_init_740 : decode cX12_init 740 = .ok (.bipush 111, 2) := by decide +kernel
theorem dX12_init_742 : decode cX12_init 742 = .ok (.bipush 111, 2) := by decide +kernel
theorem dX12_init_744 : decode cX12_init 744 = .ok (.iastore, 1) := by decide +kernel
theorem dX12_init_745 : decode cX12_init 745 = .ok (.dup, 1) := by decide +kernel
theorem dX12_init_746 : decode cX12_init 746 = .ok (.bipush 112, 2) := by decide +kernel
theorem dX12_init_748 : decode cX12_init 748 = .ok (.bipush 110, 2) := by decide +kernel
theorem dX12_init_750 : decode cX12_init 750 = .ok (.iastore, 1) := by decide +kernel
theorem dX12_init_751 : decode cX12_init 751 = .ok (.dup, 1) := by decide +kernel
theorem dX12_init_752 : decode cX12_init 752 = .ok (.bipush 113, 2) := by decide +kernel
theorem dX12_init_754 : decode cX12_init 754 = .ok (.bipush 32, 2) := by decide +kernel
theorem dX12_init_756 : decode cX12_init 756 = .ok (.iastore, 1) := by decide +kernel
theorem dX12_init_757 : decode cX12_init 757 = .ok (.dup, 1) := by decide +kernel
theorem dX12_init_758 : decode cX12_init 758 = .ok (.bipush 114, 2) := by decide +kernel
theorem dX12_init_760 : decode cX12_init 760 = .ok (.bipush 102, 2) := by decide +kernel
theorem dX12_init_762 : decode cX12_init 762 = .ok (.iastore, 1) := by decide +kernel
theorem dX12_init_763 : decode cX12_init 763 = .ok (.dup, 1) := by decide +kernel
theorem dX12_init_764 : decode cX12_init 764 = .ok (.bipush 115, 2) := by decide +kernel
theorem dX12_init_766 : decode cX12_init 766 = .ok (.bipush 111, 2) := by decide +kernel
theorem dX12_init_768 : decode cX12_init 768 = .ok (.iastore, 1) := by decide +kernel
theorem dX12_init_769 : decode cX12_init 769 = .ok (.dup, 1) := by decide +kernel
theorem dX12_init_770 : decode cX12_init 770 = .ok (.bipush 116, 2) := by decide +kernel
theorem dX12_init_772 : decode cX12_init 772 = .ok (.bipush 114, 2) := by decide +kernel
theorem dX12_init_774 : decode cX12_init 774 = .ok (.iastore, 1) := by decide +kernel
theorem dX12_init_775 : decode cX12_init 775 = .ok (.dup, 1) := by decide +kernel
theorem dX12_init_776 : decode cX12_init 776 = .ok (.bipush 117, 2) := by decide +kernel
theorem dX12_init_778 : decode cX12_init 778 = .ok (.bipush 32, 2) := by decide +kernel
theorem dX12_init_780 : decode cX12_init 780 = .ok (.iastore, 1) := by decide +kernel
theorem dX12_init_781 : decode cX12_init 781 = .ok (.dup, 1) := by decide +kernel
theorem dX12_init_782 : decode cX12_init 782 = .ok (.bipush 118, 2) := by decide +kernel
theorem dX12_init_784 : decode cX12_init 784 = .ok (.bipush 105, 2) := by decide +kernel
theorem dX12_init_786 : decode cX12_init 786 = .ok (.iastore, 1) := by decide +kernel
theorem dX12_init_787 : decode cX12_init 787 = .ok (.dup, 1) := by decide +kernel
theorem dX12_init_788 : decode cX12_init 788 = .ok (.bipush 119, 2) := by decide +kernel
theorem dX12_init_790 : decode cX12_init 790 = .ok (.bipush 110, 2) := by decide +kernel
theorem dX12_init_792 : decode cX12_init 792 = .ok (.iastore, 1) := by decide +kernel
theorem dX12_init_793 : decode cX12_init 793 = .ok (.dup, 1) := by decide +kernel
theorem dX12_init_794 : decode cX12_init 794 = .ok (.bipush 120, 2) := by decide +kernel
theorem dX12_init_796 : decode cX12_init 796 = .ok (.bipush 32, 2) := by decide +kernel
theorem dX12_init_798 : decode cX12_init 798 = .ok (.iastore, 1) := by decide +kernel
theorem dX12_init_799 : decode cX12_init 799 = .ok (.dup, 1) := by decide +kernel
theorem dX12_init_800 : decode cX12_init 800 = .ok (.bipush 121, 2) := by decide +kernel
theorem dX12_init_802 : decode cX12_init 802 = .ok (.bipush 111, 2) := by decide +kernel
theorem dX12_init_804 : decode cX12_init 804 = .ok (.iastore, 1) := by decide +kernel
theorem dX12_init_805 : decode cX12_init 805 = .ok (.dup, 1) := by decide +kernel
theorem dX12_init_806 : decode cX12_init 806 = .ok (.bipush 122, 2) := by decide +kernel
theorem dX12_init_808 : decode cX12_init 808 = .ok (.bipush 105, 2) := by decide +kernel
theorem dX12_init_810 : decode cX12_init 810 = .ok (.iastore, 1) := by decide +kernel
theorem dX12_init_811 : decode cX12_init 811 = .ok (.dup, 1) := by decide +kernel
theorem dX12_init_812 : decode cX12_init 812 = .ok (.bipush 123, 2) := by decide +kernel
theorem dX12_init_814 : decode cX12_init 814 = .ok (.bipush 108, 2) := by decide +kernel
theorem dX12_init_816 : decode cX12_init 816 = .ok (.iastore, 1) := by decide +kernel
theorem dX12_init_817 : decode cX12_init 817 = .ok (.dup, 1) := by decide +kernel
theorem dX12_init_818 : decode cX12_init 818 = .ok (.bipush 124, 2) := by decide +kernel
theorem dX12_init_820 : decode cX12_init 820 = .ok (.bipush 32, 2) := by decide +kernel
theorem dX12_init_822 : decode cX12_init 822 = .ok (.iastore, 1) := by decide +kernel
theorem dX12_init_823 : decode cX12_init 823 = .ok (.dup, 1) := by decide +kernel
theorem dX12_init_824 : decode cX12_init 824 = .ok (.bipush 125, 2) := by decide +kernel
theorem dX12_init_826 : decode cX12_init 826 = .ok (.bipush 115, 2) := by decide +kernel
theorem dX12_init_828 : decode cX12_init 828 = .ok (.iastore, 1) := by decide +kernel
theorem dX12_init_829 : decode cX12_init 829 = .ok (.dup, 1) := by decide +kernel
theorem dX12_init_830 : decode cX12_init 830 = .ok (.bipush 126, 2) := by decide +kernel
theorem dX12_init_832 : decode cX12_init 832 = .ok (.bipush 119, 2) := by decide +kernel
theorem dX12_init_834 : decode cX12_init 834 = .ok (.iastore, 1) := by decide +kernel
theorem dX12_init_835 : decode cX12_init 835 = .ok (.dup, 1) := by decide +kernel
theorem dX12_init_836 : decode cX12_init 836 = .ok (.bipush 127, 2) := by decide +kernel
theorem dX12_init_838 : decode cX12_init 838 = .ok (.bipush 101, 2) := by decide +kernel
theorem dX12_init_840 : decode cX12_init 840 = .ok (.iastore, 1) := by decide +kernel
theorem dX12_init_841 : decode cX12_init 841 = .ok (.dup, 1) := by decide +kernel
theorem dX12_init_842 : decode cX12_init 842 = .ok (.sipush 128, 3) := by decide +kernel
theorem dX12_init_845 : decode cX12_init 845 = .ok (.bipush 101, 2) := by decide +kernel
theorem dX12_init_847 : decode cX12_init 847 = .ok (.iastore, 1) := by decide +kernel
theorem dX12_init_848 : decode cX12_init 848 = .ok (.dup, 1) := by decide +kernel
theorem dX12_init_849 : decode cX12_init 849 = .ok (.sipush 129, 3) := by decide +kernel
theorem dX12_init_852 : decode cX12_init 852 = .ok (.bipush 112, 2) := by decide +kernel
theorem dX12_init_854 : decode cX12_init 854 = .ok (.iastore, 1) := by decide +kernel
theorem dX12_init_855 : decode cX12_init 855 = .ok (.dup, 1) := by decide +kernel
theorem dX12_init_856 : decode cX12_init 856 = .ok (.sipush 130, 3) := by decide +kernel
theorem dX12_init_859 : decode cX12_init 859 = .ok (.bipush 32, 2) := by decide +kernel
theorem dX12_init_861 : decode cX12_init 861 = .ok (.iastore, 1) := by decide +kernel
theorem dX12_init_862 : decode cX12_init 862 = .ok (.dup, 1) := by decide +kernel
theorem dX12_init_863 : decode cX12_init 863 = .ok (.sipush 131, 3) := by decide +kernel
theorem dX12_init_866 : decode cX12_init 866 = .ok (.bipush 114, 2) := by decide +kernel
theorem dX12_init_868 : decode cX12_init 868 = .ok (.iastore, 1) := by decide +kernel
theorem dX12_init_869 : decode cX12_init 869 = .ok (.dup, 1) := by decide +kernel
theorem dX12_init_870 : decode cX12_init 870 = .ok (.sipush 132, 3) := by decide +kernel
theorem dX12_init_873 : decode cX12_init 873 = .ok (.bipush 97, 2) := by decide +kernel
theorem dX12_init_875 : decode cX12_init 875 = .ok (.iastore, 1) := by decide +kernel
theorem dX12_init_876 : decode cX12_init 876 = .ok (.dup, 1) := by decide +kernel
theorem dX12_init_877 : decode cX12_init 877 = .ok (.sipush 133, 3) := by decide +kernel
theorem dX12_init_880 : decode cX12_init 880 = .ok (.bipush 105, 2) := by decide +kernel
theorem dX12_init_882 : decode cX12_init 882 = .ok (.iastore, 1) := by decide +kernel
theorem dX12_init_883 : decode cX12_init 883 = .ok (.dup, 1) := by decide +kernel
theorem dX12_init_884 : decode cX12_init 884 = .ok (.sipush 134, 3) := by decide +kernel
theorem dX12_init_887 : decode cX12_init 887 = .ok (.bipush 110, 2) := by decide +kernel
theorem dX12_init_889 : decode cX12_init 889 = .ok (.iastore, 1) := by decide +kernel
theorem dX12_init_890 : decode cX12_init 890 = .ok (.dup, 1) := by decide +kernel
theorem dX12_init_891 : decode cX12_init 891 = .ok (.sipush 135, 3) := by decide +kernel
theorem dX12_init_894 : decode cX12_init 894 = .ok (.bipush 32, 2) := by decide +kernel
theorem dX12_init_896 : decode cX12_init 896 = .ok (.iastore, 1) := by decide +kernel
theorem dX12_init_897 : decode cX12_init 897 = .ok (.dup, 1) := by decide +kernel
theorem dX12_init_898 : decode cX12_init 898 = .ok (.sipush 136, 3) := by decide +kernel
theorem dX12_init_901 : decode cX12_init 901 = .ok (.bipush 109, 2) := by decide +kernel
theorem dX12_init_903 : decode cX12_init 903 = .ok (.iastore, 1) := by decide +kernel
theorem dX12_init_904 : decode cX12_init 904 = .ok (.dup, 1) := by decide +kernel
theorem dX12_init_905 : decode cX12_init 905 = .ok (.sipush 137, 3) := by decide +kernel
theorem dX12_init_908 : decode cX12_init 908 = .ok (.bipush 97, 2) := by decide +kernel
theorem dX12_init_910 : decode cX12_init 910 = .ok (.iastore, 1) := by decide +kernel
theorem dX12_init_911 : decode cX12_init 911 = .ok (.dup, 1) := by decide +kernel
theorem dX12_init_912 : decode cX12_init 912 = .ok (.sipush 138, 3) := by decide +kernel
theorem dX12_init_915 : decode cX12_init 915 = .ok (.bipush 115, 2) := by decide +kernel
theorem dX12_init_917 : decode cX12_init 917 = .ok (.iastore, 1) := by decide +kernel
theorem dX12_init_918 : decode cX12_init 918 = .ok (.dup, 1) := by decide +kernel
theorem dX12_init_919 : decode cX12_init 919 = .ok (.sipush 139, 3) := by decide +kernel
theorem dX12_init_922 : decode cX12_init 922 = .ok (.bipush 116, 2) := by decide +kernel
theorem dX12_init_924 : decode cX12_init 924 = .ok (.iastore, 1) := by decide +kernel
theorem dX12_init_925 : decode cX12_init 925 = .ok (.dup, 1) := by decide +kernel
theorem dX12_init_926 : decode cX12_init 926 = .ok (.sipush 140, 3) := by decide +kernel
theorem dX12_init_929 : decode cX12_init 929 = .ok (.bipush 101, 2) := by decide +kernel
theorem dX12_init_931 : decode cX12_init 931 = .ok (.iastore, 1) := by decide +kernel
theorem dX12_init_932 : decode cX12_init 932 = .ok (.dup, 1) := by decide +kernel
theorem dX12_init_933 : decode cX12_init 933 = .ok (.sipush 141, 3) := by decide +kernel
theorem dX12_init_936 : decode cX12_init 936 = .ok (.bipush 114, 2) := by decide +kernel
theorem dX12_init_938 : decode cX12_init 938 = .ok (.iastore, 1) := by decide +kernel
theorem dX12_init_939 : decode cX12_init 939 = .ok (.dup, 1) := by decide +kernel
theorem dX12_init_940 : decode cX12_init 940 = .ok (.sipush 142, 3) := by decide +kernel
theorem dX12_init_943 : decode cX12_init 943 = .ok (.bipush 32, 2) := by decide +kernel
theorem dX12_init_945 : decode cX12_init 945 = .ok (.iastore, 1) := by decide +kernel
theorem dX12_init_946 : decode cX12_init 946 = .ok (.dup, 1) := by decide +kernel
theorem dX12_init_947 : decode cX12_init 947 = .ok (.sipush 143, 3) := by decide +kernel
theorem dX12_init_950 : decode cX12_init 950 = .ok (.bipush 112, 2) := by decide +kernel
theorem dX12_init_952 : decode cX12_init 952 = .ok (.iastore, 1) := by decide +kernel
theorem dX12_init_953 : decode cX12_init 953 = .ok (.dup, 1) := by decide +kernel
theorem dX12_init_954 : decode cX12_init 954 = .ok (.sipush 144, 3) := by decide +kernel
theorem dX12_init_957 : decode cX12_init 957 = .ok (.bipush 111, 2) := by decide +kernel
theorem dX12_init_959 : decode cX12_init 959 = .ok (.iastore, 1) := by decide +kernel
theorem dX12_init_960 : decode cX12_init 960 = .ok (.dup, 1) := by decide +kernel
theorem dX12_init_961 : decode cX12_init 961 = .ok (.sipush 145, 3) := by decide +kernel
theorem dX12_init_964 : decode cX12_init 964 = .ok (.bipush 114, 2) := by decide +kernel
theorem dX12_init_966 : decode cX12_init 966 = .ok (.iastore, 1) := by decide +kernel
theorem dX12_init_967 : decode cX12_init 967 = .ok (.dup, 1) := by decide +kernel
theorem dX12_init_968 : decode cX12_init 968 = .ok (.sipush 146, 3) := by decide +kernel
theorem dX12_init_971 : decode cX12_init 971 = .ok (.bipush 99, 2) := by decide +kernel
theorem dX12_init_973 : decode cX12_init 973 = .ok (.iastore, 1) := by decide +kernel
theorem dX12_init_974 : decode cX12_init 974 = .ok (.dup, 1) := by decide +kernel
theorem dX12_init_975 : decode cX12_init 975 = .ok (.sipush 147, 3) := by decide +kernel
theorem dX12_init_978 : decode cX12_init 978 = .ok (.bipush 104, 2) := by decide +kernel
theorem dX12_init_980 : decode cX12_init 980 = .ok (.iastore, 1) := by decide +kernel
theorem dX12_init_981 : decode cX12_init 981 = .ok (.dup, 1) := by decide +kernel
theorem dX12_init_982 : decode cX12_init 982 = .ok (.sipush 148, 3) := by decide +kernel
theorem dX12_init_985 : decode cX12_init 985 = .ok (.bipush 32, 2) := by decide +kernel
theorem dX12_init_987 : decode cX12_init 987 = .ok (.iastore, 1) := by decide +kernel
theorem dX12_init_988 : decode cX12_init 988 = .ok (.dup, 1) := by decide +kernel
theorem dX12_init_989 : decode cX12_init 989 = .ok (.sipush 149, 3) := by decide +kernel
theorem dX12_init_992 : decode cX12_init 992 = .ok (.bipush 98, 2) := by decide +kernel
theorem dX12_init_994 : decode cX12_init 994 = .ok (.iastore, 1) := by decide +kernel
theorem dX12_init_995 : decode cX12_init 995 = .ok (.dup, 1) := by decide +kernel
theorem dX12_init_996 : decode cX12_init 996 = .ok (.sipush 150, 3) := by decide +kernel
theorem dX12_init_999 : decode cX12_init 999 = .ok (.bipush 121, 2) := by decide +kernel
theorem dX12_init_1001 : decode cX12_init 1001 = .ok (.iastore, 1) := by decide +kernel
theorem dX12_init_1002 : decode cX12_init 1002 = .ok (.dup, 1) := by decide +kernel
theorem dX12_init_1003 : decode cX12_init 1003 = .ok (.sipush 151, 3) := by decide +kernel
theorem dX12_init_1006 : decode cX12_init 1006 = .ok (.bipush 32, 2) := by decide +kernel
theorem dX12_init_1008 : decode cX12_init 1008 = .ok (.iastore, 1) := by decide +kernel
theorem dX12_init_1009 : decode cX12_init 1009 = .ok (.putfield 34, 3) := by decide +kernel
theorem dX12_init_1012 : decode cX12_init 1012 = .ok (.aload_n 0, 1) := by decide +kernel
theorem dX12_init_1013 : decode cX12_init 1013 = .ok (.iconst 2, 1) := by decide +kernel
theorem dX12_init_1014 : decode cX12_init 1014 = .ok (.newarray .int, 2) := by decide +kernel
theorem dX12_init_1016 : decode cX12_init 1016 = .ok (.putfield 37, 3) := by decide +kernel
theorem dX12_init_1019 : decode cX12_init 1019 = .ok (.aload_n 0, 1) := by decide +kernel
theorem dX12_init_1020 : decode cX12_init 1020 = .ok (.bipush 48, 2) := by decide +kernel
theorem dX12_init_1022 : decode cX12_init 1022 = .ok (.newarray .int, 2) := by decide +kernel
theorem dX12_init_1024 : decode cX12_init 1024 = .ok (.putfield 40, 3) := by decide +kernel
theorem dX12_init_1027 : decode cX12_init 1027 = .ok (.aload_n 0, 1) := by decide +kernel
theorem dX12_init_1028 : decode cX12_init 1028 = .ok (.bipush 48, 2) := by decide +kernel
theorem dX12_init_1030 : decode cX12_init 1030 = .ok (.newarray .int, 2) := by decide +kernel
theorem dX12_init_1032 : decode cX12_init 1032 = .ok (.putfield 43, 3) := by decide +kernel
theorem dX12_init_1035 : decode cX12_init 1035 = .ok (.aload_n 0, 1) := by decide +kernel
theorem dX12_init_1036 : decode cX12_init 1036 = .ok (.bipush 48, 2) := by decide +kernel
theorem dX12_init_1038 : decode cX12_init 1038 = .ok (.newarray .int, 2) := by decide +kernel
theorem dX12_init_1040 : decode cX12_init 1040 = .ok (.putfield 46, 3) := by decide +kernel
theorem dX12_init_1043 : decode cX12_init 1043 = .ok (.aload_n 0, 1) := by decide +kernel
theorem dX12_init_1044 : decode cX12_init 1044 = .ok (.bipush 48, 2) := by decide +kernel
theorem dX12_init_1046 : decode cX12_init 1046 = .ok (.newarray .int, 2) := by decide +kernel
theorem dX12_init_1048 : decode cX12_init 1048 = .ok (.putfield 49, 3) := by decide +kernel
theorem dX12_init_1051 : decode cX12_init 1051 = .ok (.aload_n 0, 1) := by decide +kernel
theorem dX12_init_1052 : decode cX12_init 1052 = .ok (.sipush 1200, 3) := by decide +kernel
theorem dX12_init_1055 : decode cX12_init 1055 = .ok (.newarray .int, 2) := by decide +kernel
theorem dX12_init_1057 : decode cX12_init 1057 = .ok (.putfield 52, 3) := by decide +kernel
theorem dX12_init_1060 : decode cX12_init 1060 = .ok (.aload_n 0, 1) := by decide +kernel
theorem dX12_init_1061 : decode cX12_init 1061 = .ok (.sipush 1200, 3) := by decide +kernel
theorem dX12_init_1064 : decode cX12_init 1064 = .ok (.newarray .int, 2) := by decide +kernel
theorem dX12_init_1066 : decode cX12_init 1066 = .ok (.putfield 55, 3) := by decide +kernel
theorem dX12_init_1069 : decode cX12_init 1069 = .ok (.aload_n 0, 1) := by decide +kernel
theorem dX12_init_1070 : decode cX12_init 1070 = .ok (.bipush 40, 2) := by decide +kernel
theorem dX12_init_1072 : decode cX12_init 1072 = .ok (.newarray .int, 2) := by decide +kernel
theorem dX12_init_1074 : decode cX12_init 1074 = .ok (.putfield 58, 3) := by decide +kernel
theorem dX12_init_1077 : decode cX12_init 1077 = .ok (.aload_n 0, 1) := by decide +kernel
theorem dX12_init_1078 : decode cX12_init 1078 = .ok (.iconst (-1), 1) := by decide +kernel
theorem dX12_init_1079 : decode cX12_init 1079 = .ok (.putfield 61, 3) := by decide +kernel
theorem dX12_init_1082 : decode cX12_init 1082 = .ok (.aload_n 0, 1) := by decide +kernel
theorem dX12_init_1083 : decode cX12_init 1083 = .ok (.sipush 128, 3) := by decide +kernel
theorem dX12_init_1086 : decode cX12_init 1086 = .ok (.newarray .int, 2) := by decide +kernel
theorem dX12_init_1088 : decode cX12_init 1088 = .ok (.putfield 65, 3) := by decide +kernel
theorem dX12_init_1091 : decode cX12_init 1091 = .ok (.aload_n 0, 1) := by decide +kernel
theorem dX12_init_1092 : decode cX12_init 1092 = .ok (.sipush 128, 3) := by decide +kernel
theorem dX12_init_1095 : decode cX12_init 1095 = .ok (.newarray .int, 2) := by decide +kernel
theorem dX12_init_1097 : decode cX12_init 1097 = .ok (.putfield 68, 3) := by decide +kernel
theorem dX12_init_1100 : decode cX12_init 1100 = .ok (.aload_n 0, 1) := by decide +kernel
theorem dX12_init_1101 : decode cX12_init 1101 = .ok (.sipush 288, 3) := by decide +kernel
theorem dX12_init_1104 : decode cX12_init 1104 = .ok (.newarray .int, 2) := by decide +kernel
theorem dX12_init_1106 : decode cX12_init 1106 = .ok (.putfield 71, 3) := by decide +kernel
theorem dX12_init_1109 : decode cX12_init 1109 = .ok (.aload_n 0, 1) := by decide +kernel
theorem dX12_init_1110 : decode cX12_init 1110 = .ok (.bipush 10, 2) := by decide +kernel
theorem dX12_init_1112 : decode cX12_init 1112 = .ok (.newarray .int, 2) := by decide +kernel
theorem dX12_init_1114 : decode cX12_init 1114 = .ok (.putfield 74, 3) := by decide +kernel
theorem dX12_init_1117 : decode cX12_init 1117 = .ok (.aload_n 0, 1) := by decide +kernel
theorem dX12_init_1118 : decode cX12_init 1118 = .ok (.sipush 420, 3) := by decide +kernel
theorem dX12_init_1121 : decode cX12_init 1121 = .ok (.newarray .int, 2) := by decide +kernel
theorem dX12_init_1123 : decode cX12_init 1123 = .ok (.putfield 77, 3) := by decide +kernel
theorem dX12_init_1126 : decode cX12_init 1126 = .ok (.aload_n 0, 1) := by decide +kernel
theorem dX12_init_1127 : decode cX12_init 1127 = .ok (.bipush 10, 2) := by decide +kernel
theorem dX12_init_1129 : decode cX12_init 1129 = .ok (.newarray .int, 2) := by decide +kernel
theorem dX12_init_1131 : decode cX12_init 1131 = .ok (.putfield 80, 3) := by decide +kernel
theorem dX12_init_1134 : decode cX12_init 1134 = .ok (.aload_n 0, 1) := by decide +kernel
theorem dX12_init_1135 : decode cX12_init 1135 = .ok (.bipush 50, 2) := by decide +kernel
theorem dX12_init_1137 : decode cX12_init 1137 = .ok (.newarray .int, 2) := by decide +kernel
theorem dX12_init_1139 : decode cX12_init 1139 = .ok (.putfield 83, 3) := by decide +kernel
theorem dX12_init_1142 : decode cX12_init 1142 = .ok (.aload_n 0, 1) := by decide +kernel
theorem dX12_init_1143 : decode cX12_init 1143 = .ok (.bipush 50, 2) := by decide +kernel
theorem dX12_init_1145 : decode cX12_init 1145 = .ok (.newarray .int, 2) := by decide +kernel
theorem dX12_init_1147 : decode cX12_init 1147 = .ok (.putfield 86, 3) := by decide +kernel
theorem dX12_init_1150 : decode cX12_init 1150 = .ok (.aload_n 0, 1) := by decide +kernel
theorem dX12_init_1151 : decode cX12_init 1151 = .ok (.iconst 5, 1) := by decide +kernel
theorem dX12_init_1152 : decode cX12_init 1152 = .ok (.newarray .int, 2) := by decide +kernel
theorem dX12_init_1154 : decode cX12_init 1154 = .ok (.putfield 89, 3) := by decide +kernel
theorem dX12_init_1157 : decode cX12_init 1157 = .ok (.aload_n 0, 1) := by decide +kernel
theorem dX12_init_1158 : decode cX12_init 1158 = .ok (.iconst 5, 1) := by decide +kernel
theorem dX12_init_1159 : decode cX12_init 1159 = .ok (.newarray .int, 2) := by decide +kernel
theorem dX12_init_1161 : decode cX12_init 1161 = .ok (.putfield 92, 3) := by decide +kernel
theorem dX12_init_1164 : decode cX12_init 1164 = .ok (.aload_n 0, 1) := by decide +kernel
theorem dX12_init_1165 : decode cX12_init 1165 = .ok (.bipush 9, 2) := by decide +kernel
theorem dX12_init_1167 : decode cX12_init 1167 = .ok (.newarray .int, 2) := by decide +kernel
theorem dX12_init_1169 : decode cX12_init 1169 = .ok (.putfield 95, 3) := by decide +kernel
theorem dX12_init_1172 : decode cX12_init 1172 = .ok (.aload_n 0, 1) := by decide +kernel
theorem dX12_init_1173 : decode cX12_init 1173 = .ok (.iconst 5, 1) := by decide +kernel
theorem dX12_init_1174 : decode cX12_init 1174 = .ok (.newarray .int, 2) := by decide +kernel
theorem dX12_init_1176 : decode cX12_init 1176 = .ok (.putfield 98, 3) := by decide +kernel
theorem dX12_init_1179 : decode cX12_init 1179 = .ok (.aload_n 0, 1) := by decide +kernel
theorem dX12_init_1180 : decode cX12_init 1180 = .ok (.iconst 5, 1) := by decide +kernel
theorem dX12_init_1181 : decode cX12_init 1181 = .ok (.newarray .int, 2) := by decide +kernel
theorem dX12_init_1183 : decode cX12_init 1183 = .ok (.putfield 101, 3) := by decide +kernel
theorem dX12_init_1186 : decode cX12_init 1186 = .ok (.aload_n 0, 1) := by decide +kernel
theorem dX12_init_1187 : decode cX12_init 1187 = .ok (.bipush 12, 2) := by decide +kernel
theorem dX12_init_1189 : decode cX12_init 1189 = .ok (.newarray .int, 2) := by decide +kernel
theorem dX12_init_1191 : decode cX12_init 1191 = .ok (.putfield 104, 3) := by decide +kernel
theorem dX12_init_1194 : decode cX12_init 1194 = .ok (.aload_n 0, 1) := by decide +kernel
theorem dX12_init_1195 : decode cX12_init 1195 = .ok (.bipush 12, 2) := by decide +kernel
theorem dX12_init_1197 : decode cX12_init 1197 = .ok (.newarray .int, 2) := by decide +kernel
theorem dX12_init_1199 : decode cX12_init 1199 = .ok (.putfield 107, 3) := by decide +kernel
theorem dX12_init_1202 : decode cX12_init 1202 = .ok (.aload_n 0, 1) := by decide +kernel
theorem dX12_init_1203 : decode cX12_init 1203 = .ok (.bipush 12, 2) := by decide +kernel
theorem dX12_init_1205 : decode cX12_init 1205 = .ok (.newarray .int, 2) := by decide +kernel
theorem dX12_init_1207 : decode cX12_init 1207 = .ok (.putfield 110, 3) := by decide +kernel
theorem dX12_init_1210 : decode cX12_init 1210 = .ok (.aload_n 0, 1) := by decide +kernel
theorem dX12_init_1211 : decode cX12_init 1211 = .ok (.bipush 12, 2) := by decide +kernel
theorem dX12_init_1213 : decode cX12_init 1213 = .ok (.newarray .int, 2) := by decide +kernel
theorem dX12_init_1215 : decode cX12_init 1215 = .ok (.putfield 113, 3) := by decide +kernel
theorem dX12_init_1218 : decode cX12_init 1218 = .ok (.aload_n 0, 1) := by decide +kernel
theorem dX12_init_1219 : decode cX12_init 1219 = .ok (.bipush 8, 2) := by decide +kernel
theorem dX12_init_1221 : decode cX12_init 1221 = .ok (.newarray .int, 2) := by decide +kernel
theorem dX12_init_1223 : decode cX12_init 1223 = .ok (.putfield 116, 3) := by decide +kernel
theorem dX12_init_1226 : decode cX12_init 1226 = .ok (.aload_n 0, 1) := by decide +kernel
theorem dX12_init_1227 : decode cX12_init 1227 = .ok (.bipush 8, 2) := by decide +kernel
theorem dX12_init_1229 : decode cX12_init 1229 = .ok (.newarray .int, 2) := by decide +kernel
theorem dX12_init_1231 : decode cX12_init 1231 = .ok (.putfield 119, 3) := by decide +kernel
theorem dX12_init_1234 : decode cX12_init 1234 = .ok (.aload_n 0, 1) := by decide +kernel
theorem dX12_init_1235 : decode cX12_init 1235 = .ok (.sipush 256, 3) := by decide +kernel
theorem dX12_init_1238 : decode cX12_init 1238 = .ok (.newarray .int, 2) := by decide +kernel
theorem dX12_init_1240 : decode cX12_init 1240 = .ok (.putfield 122, 3) := by decide +kernel
theorem dX12_init_1243 : decode cX12_init 1243 = .ok (.aload_n 0, 1) := by decide +kernel
theorem dX12_init_1244 : decode cX12_init 1244 = .ok (.iconst 4, 1) := by decide +kernel
theorem dX12_init_1245 : decode cX12_init 1245 = .ok (.newarray .int, 2) := by decide +kernel
theorem dX12_init_1247 : decode cX12_init 1247 = .ok (.putfield 125, 3) := by decide +kernel
theorem dX12_init_1250 : decode cX12_init 1250 = .ok (.aload_n 0, 1) := by decide +kernel
theorem dX12_init_1251 : decode cX12_init 1251 = .ok (.bipush 12, 2) := by decide +kernel
theorem dX12_init_1253 : decode cX12_init 1253 = .ok (.newarray .int, 2) := by decide +kernel
theorem dX12_init_1255 : decode cX12_init 1255 = .ok (.putfield 128, 3) := by decide +kernel
theorem dX12_init_1258 : decode cX12_init 1258 = .ok (.aload_n 0, 1) := by decide +kernel
theorem dX12_init_1259 : decode cX12_init 1259 = .ok (.bipush 24, 2) := by decide +kernel
theorem dX12_init_1261 : decode cX12_init 1261 = .ok (.newarray .int, 2) := by decide +kernel
theorem dX12_init_1263 : decode cX12_init 1263 = .ok (.putfield 131, 3) := by decide +kernel
theorem dX12_init_1266 : decode cX12_init 1266 = .ok (.aload_n 0, 1) := by decide +kernel
theorem dX12_init_1267 : decode cX12_init 1267 = .ok (.bipush 16, 2) := by decide +kernel
theorem dX12_init_1269 : decode cX12_init 1269 = .ok (.newarray .int, 2) := by decide +kernel
theorem dX12_init_1271 : decode cX12_init 1271 = .ok (.putfield 134, 3) := by decide +kernel
theorem dX12_init_1274 : decode cX12_init 1274 = .ok (.aload_n 0, 1) := by decide +kernel
theorem dX12_init_1275 : decode cX12_init 1275 = .ok (.iconst 3, 1) := by decide +kernel
theorem dX12_init_1276 : decode cX12_init 1276 = .ok (.newarray .int, 2) := by decide +kernel
theorem dX12_init_1278 : decode cX12_init 1278 = .ok (.putfield 137, 3) := by decide +kernel
theorem dX12_init_1281 : decode cX12_init 1281 = .ok (.aload_n 0, 1) := by decide +kernel
theorem dX12_init_1282 : decode cX12_init 1282 = .ok (.bipush 72, 2) := by decide +kernel
theorem dX12_init_1284 : decode cX12_init 1284 = .ok (.newarray .int, 2) := by decide +kernel
theorem dX12_init_1286 : decode cX12_init 1286 = .ok (.putfield 140, 3) := by decide +kernel
theorem dX12_init_1289 : decode cX12_init 1289 = .ok (.aload_n 0, 1) := by decide +kernel
theorem dX12_init_1290 : decode cX12_init 1290 = .ok (.sipush 169, 3) := by decide +kernel
theorem dX12_init_1293 : decode cX12_init 1293 = .ok (.newarray .int, 2) := by decide +kernel
theorem dX12_init_1295 : decode cX12_init 1295 = .ok (.putfield 143, 3) := by decide +kernel
theorem dX12_init_1298 : decode cX12_init 1298 = .ok (.aload_n 0, 1) := by decide +kernel
theorem dX12_init_1299 : decode cX12_init 1299 = .ok (.bipush 8, 2) := by decide +kernel
theorem dX12_init_1301 : decode cX12_init 1301 = .ok (.newarray .int, 2) := by decide +kernel
theorem dX12_init_1303 : decode cX12_init 1303 = .ok (.putfield 146, 3) := by decide +kernel
theorem dX12_init_1306 : decode cX12_init 1306 = .ok (.aload_n 0, 1) := by decide +kernel
theorem dX12_init_1307 : decode cX12_init 1307 = .ok (.bipush 8, 2) := by decide +kernel
theorem dX12_init_1309 : decode cX12_init 1309 = .ok (.newarray .int, 2) := by decide +kernel
theorem dX12_init_1311 : decode cX12_init 1311 = .ok (.putfield 149, 3) := by decide +kernel
theorem dX12_init_1314 : decode cX12_init 1314 = .ok (.aload_n 0, 1) := by decide +kernel
theorem dX12_init_1315 : decode cX12_init 1315 = .ok (.sipush 2048, 3) := by decide +kernel
theorem dX12_init_1318 : decode cX12_init 1318 = .ok (.newarray .int, 2) := by decide +kernel
theorem dX12_init_1320 : decode cX12_init 1320 = .ok (.putfield 152, 3) := by decide +kernel
theorem dX12_init_1323 : decode cX12_init 1323 = .ok (.aload_n 0, 1) := by decide +kernel
theorem dX12_init_1324 : decode cX12_init 1324 = .ok (.bipush 12, 2) := by decide +kernel
theorem dX12_init_1326 : decode cX12_init 1326 = .ok (.newarray .int, 2) := by decide +kernel
theorem dX12_init_1328 : decode cX12_init 1328 = .ok (.putfield 155, 3) := by decide +kernel
theorem dX12_init_1331 : decode cX12_init 1331 = .ok (.aload_n 0, 1) := by decide +kernel
theorem dX12_init_1332 : decode cX12_init 1332 = .ok (.bipush 41, 2) := by decide +kernel
theorem dX12_init_1334 : decode cX12_init 1334 = .ok (.newarray .int, 2) := by decide +kernel
theorem dX12_init_1336 : decode cX12_init 1336 = .ok (.putfield 158, 3) := by decide +kernel
theorem dX12_init_1339 : decode cX12_init 1339 = .ok (.aload_n 0, 1) := by decide +kernel
theorem dX12_init_1340 : decode cX12_init 1340 = .ok (.iconst 3, 1) := by decide +kernel
theorem dX12_init_1341 : decode cX12_init 1341 = .ok (.newarray .int, 2) := by decide +kernel
theorem dX12_init_1343 : decode cX12_init 1343 = .ok (.putfield 161, 3) := by decide +kernel
theorem dX12_init_1346 : decode cX12_init 1346 = .ok (.aload_n 0, 1) := by decide +kernel
theorem dX12_init_1347 : decode cX12_init 1347 = .ok (.iconst 3, 1) := by decide +kernel
theorem dX12_init_1348 : decode cX12_init 1348 = .ok (.newarray .int, 2) := by decide +kernel
theorem dX12_init_1350 : decode cX12_init 1350 = .ok (.putfield 164, 3) := by decide +kernel
theorem dX12_init_1353 : decode cX12_init 1353 = .ok (.aload_n 0, 1) := by decide +kernel
theorem dX12_init_1354 : decode cX12_init 1354 = .ok (.sipush 2197, 3) := by decide +kernel
theorem dX12_init_1357 : decode cX12_init 1357 = .ok (.newarray .int, 2) := by decide +kernel
theorem dX12_init_1359 : decode cX12_init 1359 = .ok (.putfield 167, 3) := by decide +kernel
theorem dX12_init_1362 : decode cX12_init 1362 = .ok (.aload_n 0, 1) := by decide +kernel
theorem dX12_init_1363 : decode cX12_init 1363 = .ok (.sipush 2197, 3) := by decide +kernel
theorem dX12_init_1366 : decode cX12_init 1366 = .ok (.newarray .int, 2) := by decide +kernel
theorem dX12_init_1368 : decode cX12_init 1368 = .ok (.putfield 170, 3) := by decide +kernel
theorem dX12_init_1371 : decode cX12_init 1371 = .ok (.aload_n 0, 1) := by decide +kernel
theorem dX12_init_1372 : decode cX12_init 1372 = .ok (.bipush 9, 2) := by decide +kernel
theorem dX12_init_1374 : decode cX12_init 1374 = .ok (.newarray .int, 2) := by decide +kernel
theorem dX12_init_1376 : decode cX12_init 1376 = .ok (.putfield 173, 3) := by decide +kernel
theorem dX12_init_1379 : decode cX12_init 1379 = .ok (.aload_n 0, 1) := by decide +kernel
theorem dX12_init_1380 : decode cX12_init 1380 = .ok (.ldc 176, 2) := by decide +kernel
theorem dX12_init_1382 : decode cX12_init 1382 = .ok (.newarray .int, 2) := by decide +kernel
theorem dX12_init_1384 : decode cX12_init 1384 = .ok (.putfield 177, 3) := by decide +kernel
theorem dX12_init_1387 : decode cX12_init 1387 = .ok (.aload_n 0, 1) := by decide +kernel
theorem dX12_init_1388 : decode cX12_init 1388 = .ok (.sipush 2600, 3) := by decide +kernel
theorem dX12_init_1391 : decode cX12_init 1391 = .ok (.newarray .int, 2) := by decide +kernel
theorem dX12_init_1393 : decode cX12_init 1393 = .ok (.putfield 180, 3) := by decide +kernel
theorem dX12_init_1396 : decode cX12_init 1396 = .ok (.return_, 1) := by decide +kernel
theorem dX12_isIn_0 : decode cX12_isIn 0 = .ok (.iload_n 1, 1) := by decide +kernel
theorem dX12_isIn_1 : decode cX12_isIn 1 = .ok (.iload_n 2, 1) := by decide +kernel
theorem dX12_isIn_2 : decode cX12_isIn 2 = .ok (.if_icmp .lt 12, 3) := by decide +kernel
theorem dX12_isIn_5 : decode cX12_isIn 5 = .ok (.iload_n 1, 1) := by decide +kernel
theorem dX12_isIn_6 : decode cX12_isIn 6 = .ok (.iload_n 3, 1) := by decide +kernel
theorem dX12_isIn_7 : decode cX12_isIn 7 = .ok (.if_icmp .gt 7, 3) := by decide +kernel
theorem dX12_isIn_10 : decode cX12_isIn 10 = .ok (.iconst 1, 1) := by decide +kernel
theorem dX12_isIn_11 : decode cX12_isIn 11 = .ok (.goto 4, 3) := by decide +kernel
theorem dX12_isIn_14 : decode cX12_isIn 14 = .ok (.iconst 0, 1) := by decide +kernel
theorem dX12_isIn_15 : decode cX12_isIn 15 = .ok (.ireturn, 1) := by decide +kernel
theorem dX12_held_0 : decode cX12_held 0 = .ok (.iload_n 1, 1) := by decide +kernel
theorem dX12_held_1 : decode cX12_held 1 = .ok (.iload_n 2, 1) := by decide +kernel
theorem dX12_held_2 : decode cX12_held 2 = .ok (.if_icmp .ge 7, 3) := by decide +kernel
theorem dX12_held_5 : decode cX12_held 5 = .ok (.iload_n 2, 1) := by decide +kernel
theorem dX12_held_6 : decode cX12_held 6 = .ok (.goto 13, 3) := by decide +kernel
theorem dX12_held_9 : decode cX12_held 9 = .ok (.iload_n 1, 1) := by decide +kernel
theorem dX12_held_10 : decode cX12_held 10 = .ok (.iload_n 3, 1) := by decide +kernel
theorem dX12_held_11 : decode cX12_held 11 = .ok (.if_icmp .le 7, 3) := by decide +kernel
theorem dX12_held_14 : decode cX12_held 14 = .ok (.iload_n 3, 1) := by decide +kernel
theorem dX12_held_15 : decode cX12_held 15 = .ok (.goto 4, 3) := by decide +kernel
theorem dX12_held_18 : decode cX12_held 18 = .ok (.iload_n 1, 1) := by decide +kernel
theorem dX12_held_19 : decode cX12_held 19 = .ok (.ireturn, 1) := by decide +kernel
theorem dX12_greater_0 : decode cX12_greater 0 = .ok (.iload_n 1, 1) := by decide +kernel
theorem dX12_greater_1 : decode cX12_greater 1 = .ok (.iload_n 2, 1) := by decide +kernel
theorem dX12_greater_2 : decode cX12_greater 2 = .ok (.if_icmp .le 7, 3) := by decide +kernel
theorem dX12_greater_5 : decode cX12_greater 5 = .ok (.iload_n 1, 1) := by decide +kernel
theorem dX12_greater_6 : decode cX12_greater 6 = .ok (.goto 4, 3) := by decide +kernel
theorem dX12_greater_9 : decode cX12_greater 9 = .ok (.iload_n 2, 1) := by decide +kernel
theorem dX12_greater_10 : decode cX12_greater 10 = .ok (.ireturn, 1) := by decide +kernel
theorem dX12_lesser_0 : decode cX12_lesser 0 = .ok (.iload_n 1, 1) := by decide +kernel
theorem dX12_lesser_1 : decode cX12_lesser 1 = .ok (.iload_n 2, 1) := by decide +kernel
theorem dX12_lesser_2 : decode cX12_lesser 2 = .ok (.if_icmp .ge 7, 3) := by decide +kernel
theorem dX12_lesser_5 : decode cX12_lesser 5 = .ok (.iload_n 1, 1) := by decide +kernel
theorem dX12_lesser_6 : decode cX12_lesser 6 = .ok (.goto 4, 3) := by decide +kernel
theorem dX12_lesser_9 : decode cX12_lesser 9 = .ok (.iload_n 2, 1) := by decide +kernel
theorem dX12_lesser_10 : decode cX12_lesser 10 = .ok (.ireturn, 1) := by decide +kernel
theorem dX12_apart_0 : decode cX12_apart 0 = .ok (.iload_n 1, 1) := by decide +kernel
theorem dX12_apart_1 : decode cX12_apart 1 = .ok (.iload_n 2, 1) := by decide +kernel
theorem dX12_apart_2 : decode cX12_apart 2 = .ok (.if_icmp .le 9, 3) := by decide +kernel
theorem dX12_apart_5 : decode cX12_apart 5 = .ok (.iload_n 1, 1) := by decide +kernel
theorem dX12_apart_6 : decode cX12_apart 6 = .ok (.iload_n 2, 1) := by decide +kernel
theorem dX12_apart_7 : decode cX12_apart 7 = .ok (.isub, 1) := by decide +kernel
theorem dX12_apart_8 : decode cX12_apart 8 = .ok (.goto 6, 3) := by decide +kernel
theorem dX12_apart_11 : decode cX12_apart 11 = .ok (.iload_n 2, 1) := by decide +kernel
theorem dX12_apart_12 : decode cX12_apart 12 = .ok (.iload_n 1, 1) := by decide +kernel
theorem dX12_apart_13 : decode cX12_apart 13 = .ok (.isub, 1) := by decide +kernel
theorem dX12_apart_14 : decode cX12_apart 14 = .ok (.ireturn, 1) := by decide +kernel
theorem dX12_added_0 : decode cX12_added 0 = .ok (.iload_n 1, 1) := by decide +kernel
theorem dX12_added_1 : decode cX12_added 1 = .ok (.ldc 186, 2) := by decide +kernel
theorem dX12_added_3 : decode cX12_added 3 = .ok (.iload_n 2, 1) := by decide +kernel
theorem dX12_added_4 : decode cX12_added 4 = .ok (.isub, 1) := by decide +kernel
theorem dX12_added_5 : decode cX12_added 5 = .ok (.if_icmp .lt 12, 3) := by decide +kernel
theorem dX12_added_8 : decode cX12_added 8 = .ok (.iload_n 1, 1) := by decide +kernel
theorem dX12_added_9 : decode cX12_added 9 = .ok (.ldc 186, 2) := by decide +kernel
theorem dX12_added_11 : decode cX12_added 11 = .ok (.iload_n 2, 1) := by decide +kernel
theorem dX12_added_12 : decode cX12_added 12 = .ok (.isub, 1) := by decide +kernel
theorem dX12_added_13 : decode cX12_added 13 = .ok (.isub, 1) := by decide +kernel
theorem dX12_added_14 : decode cX12_added 14 = .ok (.goto 6, 3) := by decide +kernel
theorem dX12_added_17 : decode cX12_added 17 = .ok (.iload_n 1, 1) := by decide +kernel
theorem dX12_added_18 : decode cX12_added 18 = .ok (.iload_n 2, 1) := by decide +kernel
theorem dX12_added_19 : decode cX12_added 19 = .ok (.iadd, 1) := by decide +kernel
theorem dX12_added_20 : decode cX12_added 20 = .ok (.ireturn, 1) := by decide +kernel
theorem dX12_onesOf_0 : decode cX12_onesOf 0 = .ok (.iconst 0, 1) := by decide +kernel
theorem dX12_onesOf_1 : decode cX12_onesOf 1 = .ok (.istore_n 2, 1) := by decide +kernel
theorem dX12_onesOf_2 : decode cX12_onesOf 2 = .ok (.iload_n 1, 1) := by decide +kernel
theorem dX12_onesOf_3 : decode cX12_onesOf 3 = .ok (.istore_n 3, 1) := by decide +kernel
theorem dX12_onesOf_4 : decode cX12_onesOf 4 = .ok (.iload_n 3, 1) := by decide +kernel
theorem dX12_onesOf_5 : decode cX12_onesOf 5 = .ok (.ifCond .eq 16, 3) := by decide +kernel
theorem dX12_onesOf_8 : decode cX12_onesOf 8 = .ok (.iload_n 2, 1) := by decide +kernel
theorem dX12_onesOf_9 : decode cX12_onesOf 9 = .ok (.iconst 1, 1) := by decide +kernel
theorem dX12_onesOf_10 : decode cX12_onesOf 10 = .ok (.iadd, 1) := by decide +kernel
theorem dX12_onesOf_11 : decode cX12_onesOf 11 = .ok (.istore_n 2, 1) := by decide +kernel
theorem dX12_onesOf_12 : decode cX12_onesOf 12 = .ok (.iload_n 3, 1) := by decide +kernel
theorem dX12_onesOf_13 : decode cX12_onesOf 13 = .ok (.iload_n 3, 1) := by decide +kernel
theorem dX12_onesOf_14 : decode cX12_onesOf 14 = .ok (.iconst 1, 1) := by decide +kernel
theorem dX12_onesOf_15 : decode cX12_onesOf 15 = .ok (.isub, 1) := by decide +kernel
theorem dX12_onesOf_16 : decode cX12_onesOf 16 = .ok (.iand, 1) := by decide +kernel
theorem dX12_onesOf_17 : decode cX12_onesOf 17 = .ok (.istore_n 3, 1) := by decide +kernel
theorem dX12_onesOf_18 : decode cX12_onesOf 18 = .ok (.goto (-14), 3) := by decide +kernel
theorem dX12_onesOf_21 : decode cX12_onesOf 21 = .ok (.iload_n 2, 1) := by decide +kernel
theorem dX12_onesOf_22 : decode cX12_onesOf 22 = .ok (.ireturn, 1) := by decide +kernel
theorem dX12_has_0 : decode cX12_has 0 = .ok (.iload_n 1, 1) := by decide +kernel
theorem dX12_has_1 : decode cX12_has 1 = .ok (.iload_n 2, 1) := by decide +kernel
theorem dX12_has_2 : decode cX12_has 2 = .ok (.ishr, 1) := by decide +kernel
theorem dX12_has_3 : decode cX12_has 3 = .ok (.iconst 1, 1) := by decide +kernel
theorem dX12_has_4 : decode cX12_has 4 = .ok (.iand, 1) := by decide +kernel
theorem dX12_has_5 : decode cX12_has 5 = .ok (.iconst 1, 1) := by decide +kernel
theorem dX12_has_6 : decode cX12_has 6 = .ok (.if_icmp .ne 7, 3) := by decide +kernel
theorem dX12_has_9 : decode cX12_has 9 = .ok (.iconst 1, 1) := by decide +kernel
theorem dX12_has_10 : decode cX12_has 10 = .ok (.goto 4, 3) := by decide +kernel
theorem dX12_has_13 : decode cX12_has 13 = .ok (.iconst 0, 1) := by decide +kernel
theorem dX12_has_14 : decode cX12_has 14 = .ok (.ireturn, 1) := by decide +kernel
theorem dX12_keepsAhead_0 : decode cX12_keepsAhead 0 = .ok (.aload_n 0, 1) := by decide +kernel
theorem dX12_keepsAhead_1 : decode cX12_keepsAhead 1 = .ok (.getfield 187, 3) := by decide +kernel
theorem dX12_keepsAhead_4 : decode cX12_keepsAhead 4 = .ok (.bipush 6, 2) := by decide +kernel
theorem dX12_keepsAhead_6 : decode cX12_keepsAhead 6 = .ok (.if_icmp .ne 49, 3) := by decide +kernel
theorem dX12_keepsAhead_9 : decode cX12_keepsAhead 9 = .ok (.aload_n 0, 1) := by decide +kernel
theorem dX12_keepsAhead_10 : decode cX12_keepsAhead 10 = .ok (.aload_n 0, 1) := by decide +kernel
theorem dX12_keepsAhead_11 : decode cX12_keepsAhead 11 = .ok (.getfield 187, 3) := by decide +kernel
theorem dX12_keepsAhead_14 : decode cX12_keepsAhead 14 = .ok (.iconst 1, 1) := by decide +kernel
theorem dX12_keepsAhead_15 : decode cX12_keepsAhead 15 = .ok (.isub, 1) := by decide +kernel
theorem dX12_keepsAhead_16 : decode cX12_keepsAhead 16 = .ok (.putfield 187, 3) := by decide +kernel
theorem dX12_keepsAhead_19 : decode cX12_keepsAhead 19 = .ok (.iconst 0, 1) := by decide +kernel
theorem dX12_keepsAhead_20 : decode cX12_keepsAhead 20 = .ok (.istore_n 1, 1) := by decide +kernel
theorem dX12_keepsAhead_21 : decode cX12_keepsAhead 21 = .ok (.iload_n 1, 1) := by decide +kernel
theorem dX12_keepsAhead_22 : decode cX12_keepsAhead 22 = .ok (.sipush 161, 3) := by decide +kernel
theorem dX12_keepsAhead_25 : decode cX12_keepsAhead 25 = .ok (.aload_n 0, 1) := by decide +kernel
theorem dX12_keepsAhead_26 : decode cX12_keepsAhead 26 = .ok (.getfield 187, 3) := by decide +kernel
theorem dX12_keepsAhead_29 : decode cX12_keepsAhead 29 = .ok (.imul, 1) := by decide +kernel
theorem dX12_keepsAhead_30 : decode cX12_keepsAhead 30 = .ok (.if_icmp .ge 25, 3) := by decide +kernel
theorem dX12_keepsAhead_33 : decode cX12_keepsAhead 33 = .ok (.aload_n 0, 1) := by decide +kernel
theorem dX12_keepsAhead_34 : decode cX12_keepsAhead 34 = .ok (.getfield 13, 3) := by decide +kernel
theorem dX12_keepsAhead_37 : decode cX12_keepsAhead 37 = .ok (.iload_n 1, 1) := by decide +kernel
theorem dX12_keepsAhead_38 : decode cX12_keepsAhead 38 = .ok (.aload_n 0, 1) := by decide +kernel
theorem dX12_keepsAhead_39 : decode cX12_keepsAhead 39 = .ok (.getfield 13, 3) := by decide +kernel
theorem dX12_keepsAhead_42 : decode cX12_keepsAhead 42 = .ok (.iload_n 1, 1) := by decide +kernel
theorem dX12_keepsAhead_43 : decode cX12_keepsAhead 43 = .ok (.sipush 161, 3) := by decide +kernel
theorem dX12_keepsAhead_46 : decode cX12_keepsAhead 46 = .ok (.iadd, 1) := by decide +kernel
theorem dX12_keepsAhead_47 : decode cX12_keepsAhead 47 = .ok (.iaload, 1) := by decide +kernel
theorem dX12_keepsAhead_48 : decode cX12_keepsAhead 48 = .ok (.iastore, 1) := by decide +kernel
theorem dX12_keepsAhead_49 : decode cX12_keepsAhead 49 = .ok (.iinc 1 1, 3) := by decide +kernel
theorem dX12_keepsAhead_52 : decode cX12_keepsAhead 52 = .ok (.goto (-31), 3) := by decide +kernel
theorem dX12_keepsAhead_55 : decode cX12_keepsAhead 55 = .ok (.iconst 0, 1) := by decide +kernel
theorem dX12_keepsAhead_56 : decode cX12_keepsAhead 56 = .ok (.istore_n 1, 1) := by decide +kernel
theorem dX12_keepsAhead_57 : decode cX12_keepsAhead 57 = .ok (.iload_n 1, 1) := by decide +kernel
theorem dX12_keepsAhead_58 : decode cX12_keepsAhead 58 = .ok (.sipush 161, 3) := by decide +kernel
theorem dX12_keepsAhead_61 : decode cX12_keepsAhead 61 = .ok (.if_icmp .ge 30, 3) := by decide +kernel
theorem dX12_keepsAhead_64 : decode cX12_keepsAhead 64 = .ok (.aload_n 0, 1) := by decide +kernel
theorem dX12_keepsAhead_65 : decode cX12_keepsAhead 65 = .ok (.getfield 13, 3) := by decide +kernel
theorem dX12_keepsAhead_68 : decode cX12_keepsAhead 68 = .ok (.sipush 161, 3) := by decide +kernel
theorem dX12_keepsAhead_71 : decode cX12_keepsAhead 71 = .ok (.aload_n 0, 1) := by decide +kernel
theorem dX12_keepsAhead_72 : decode cX12_keepsAhead 72 = .ok (.getfield 187, 3) := by decide +kernel
theorem dX12_keepsAhead_75 : decode cX12_keepsAhead 75 = .ok (.imul, 1) := by decide +kernel
theorem dX12_keepsAhead_76 : decode cX12_keepsAhead 76 = .ok (.iload_n 1, 1) := by decide +kernel
theorem dX12_keepsAhead_77 : decode cX12_keepsAhead 77 = .ok (.iadd, 1) := by decide +kernel
theorem dX12_keepsAhead_78 : decode cX12_keepsAhead 78 = .ok (.aload_n 0, 1) := by decide +kernel
theorem dX12_keepsAhead_79 : decode cX12_keepsAhead 79 = .ok (.getfield 7, 3) := by decide +kernel
theorem dX12_keepsAhead_82 : decode cX12_keepsAhead 82 = .ok (.iload_n 1, 1) := by decide +kernel
theorem dX12_keepsAhead_83 : decode cX12_keepsAhead 83 = .ok (.iaload, 1) := by decide +kernel
theorem dX12_keepsAhead_84 : decode cX12_keepsAhead 84 = .ok (.iastore, 1) := by decide +kernel
theorem dX12_keepsAhead_85 : decode cX12_keepsAhead 85 = .ok (.iinc 1 1, 3) := by decide +kernel
theorem dX12_keepsAhead_88 : decode cX12_keepsAhead 88 = .ok (.goto (-31), 3) := by decide +kernel
theorem dX12_keepsAhead_91 : decode cX12_keepsAhead 91 = .ok (.aload_n 0, 1) := by decide +kernel
theorem dX12_keepsAhead_92 : decode cX12_keepsAhead 92 = .ok (.aload_n 0, 1) := by decide +kernel
theorem dX12_keepsAhead_93 : decode cX12_keepsAhead 93 = .ok (.getfield 187, 3) := by decide +kernel
theorem dX12_keepsAhead_96 : decode cX12_keepsAhead 96 = .ok (.iconst 1, 1) := by decide +kernel
theorem dX12_keepsAhead_97 : decode cX12_keepsAhead 97 = .ok (.iadd, 1) := by decide +kernel
theorem dX12_keepsAhead_98 : decode cX12_keepsAhead 98 = .ok (.putfield 187, 3) := by decide +kernel
theorem dX12_keepsAhead_101 : decode cX12_keepsAhead 101 = .ok (.return_, 1) := by decide +kernel
theorem dX12_undo_0 : decode cX12_undo 0 = .ok (.aload_n 0, 1) := by decide +kernel
theorem dX12_undo_1 : decode cX12_undo 1 = .ok (.iconst 0, 1) := by decide +kernel
theorem dX12_undo_2 : decode cX12_undo 2 = .ok (.putfield 183, 3) := by decide +kernel
theorem dX12_undo_5 : decode cX12_undo 5 = .ok (.aload_n 0, 1) := by decide +kernel
theorem dX12_undo_6 : decode cX12_undo 6 = .ok (.getfield 187, 3) := by decide +kernel
theorem dX12_undo_9 : decode cX12_undo 9 = .ok (.ifCond .ne 5, 3) := by decide +kernel
theorem dX12_undo_12 : decode cX12_undo 12 = .ok (.iconst 0, 1) := by decide +kernel
theorem dX12_undo_13 : decode cX12_undo 13 = .ok (.ireturn, 1) := by decide +kernel
theorem dX12_undo_14 : decode cX12_undo 14 = .ok (.aload_n 0, 1) := by decide +kernel
theorem dX12_undo_15 : decode cX12_undo 15 = .ok (.aload_n 0, 1) := by decide +kernel
theorem dX12_undo_16 : decode cX12_undo 16 = .ok (.getfield 187, 3) := by decide +kernel
theorem dX12_undo_19 : decode cX12_undo 19 = .ok (.iconst 1, 1) := by decide +kernel
theorem dX12_undo_20 : decode cX12_undo 20 = .ok (.isub, 1) := by decide +kernel
theorem dX12_undo_21 : decode cX12_undo 21 = .ok (.putfield 187, 3) := by decide +kernel
theorem dX12_undo_24 : decode cX12_undo 24 = .ok (.iconst 0, 1) := by decide +kernel
theorem dX12_undo_25 : decode cX12_undo 25 = .ok (.istore_n 1, 1) := by decide +kernel
theorem dX12_undo_26 : decode cX12_undo 26 = .ok (.iload_n 1, 1) := by decide +kernel
theorem dX12_undo_27 : decode cX12_undo 27 = .ok (.sipush 161, 3) := by decide +kernel
theorem dX12_undo_30 : decode cX12_undo 30 = .ok (.if_icmp .ge 30, 3) := by decide +kernel
theorem dX12_undo_33 : decode cX12_undo 33 = .ok (.aload_n 0, 1) := by decide +kernel
theorem dX12_undo_34 : decode cX12_undo 34 = .ok (.getfield 7, 3) := by decide +kernel
theorem dX12_undo_37 : decode cX12_undo 37 = .ok (.iload_n 1, 1) := by decide +kernel
theorem dX12_undo_38 : decode cX12_undo 38 = .ok (.aload_n 0, 1) := by decide +kernel
theorem dX12_undo_39 : decode cX12_undo 39 = .ok (.getfield 13, 3) := by decide +kernel
theorem dX12_undo_42 : decode cX12_undo 42 = .ok (.sipush 161, 3) := by decide +kernel
theorem dX12_undo_45 : decode cX12_undo 45 = .ok (.aload_n 0, 1) := by decide +kernel
theorem dX12_undo_46 : decode cX12_undo 46 = .ok (.getfield 187, 3) := by decide +kernel
theorem dX12_undo_49 : decode cX12_undo 49 = .ok (.imul, 1) := by decide +kernel
theorem dX12_undo_50 : decode cX12_undo 50 = .ok (.iload_n 1, 1) := by decide +kernel
theorem dX12_undo_51 : decode cX12_undo 51 = .ok (.iadd, 1) := by decide +kernel
theorem dX12_undo_52 : decode cX12_undo 52 = .ok (.iaload, 1) := by decide +kernel
theorem dX12_undo_53 : decode cX12_undo 53 = .ok (.iastore, 1) := by decide +kernel
theorem dX12_undo_54 : decode cX12_undo 54 = .ok (.iinc 1 1, 3) := by decide +kernel
theorem dX12_undo_57 : decode cX12_undo 57 = .ok (.goto (-31), 3) := by decide +kernel
theorem dX12_undo_60 : decode cX12_undo 60 = .ok (.iconst 1, 1) := by decide +kernel
theorem dX12_undo_61 : decode cX12_undo 61 = .ok (.ireturn, 1) := by decide +kernel
theorem dX12_thinks_0 : decode cX12_thinks 0 = .ok (.iconst 0, 1) := by decide +kernel
theorem dX12_thinks_1 : decode cX12_thinks 1 = .ok (.istore_n 1, 1) := by decide +kernel
theorem dX12_thinks_2 : decode cX12_thinks 2 = .ok (.iload_n 1, 1) := by decide +kernel
theorem dX12_thinks_3 : decode cX12_thinks 3 = .ok (.sipush 161, 3) := by decide +kernel
theorem dX12_thinks_6 : decode cX12_thinks 6 = .ok (.if_icmp .ge 21, 3) := by decide +kernel
theorem dX12_thinks_9 : decode cX12_thinks 9 = .ok (.aload_n 0, 1) := by decide +kernel
theorem dX12_thinks_10 : decode cX12_thinks 10 = .ok (.getfield 16, 3) := by decide +kernel
theorem dX12_thinks_13 : decode cX12_thinks 13 = .ok (.iload_n 1, 1) := by decide +kernel
theorem dX12_thinks_14 : decode cX12_thinks 14 = .ok (.aload_n 0, 1) := by decide +kernel
theorem dX12_thinks_15 : decode cX12_thinks 15 = .ok (.getfield 7, 3) := by decide +kernel
theorem dX12_thinks_18 : decode cX12_thinks 18 = .ok (.iload_n 1, 1) := by decide +kernel
theorem dX12_thinks_19 : decode cX12_thinks 19 = .ok (.iaload, 1) := by decide +kernel
theorem dX12_thinks_20 : decode cX12_thinks 20 = .ok (.iastore, 1) := by decide +kernel
theorem dX12_thinks_21 : decode cX12_thinks 21 = .ok (.iinc 1 1, 3) := by decide +kernel
theorem dX12_thinks_24 : decode cX12_thinks 24 = .ok (.goto (-22), 3) := by decide +kernel
theorem dX12_thinks_27 : decode cX12_thinks 27 = .ok (.aload_n 0, 1) := by decide +kernel
theorem dX12_thinks_28 : decode cX12_thinks 28 = .ok (.iconst 1, 1) := by decide +kernel
theorem dX12_thinks_29 : decode cX12_thinks 29 = .ok (.putfield 190, 3) := by decide +kernel
theorem dX12_thinks_32 : decode cX12_thinks 32 = .ok (.return_, 1) := by decide +kernel
theorem dX12_endsThought_0 : decode cX12_endsThought 0 = .ok (.iconst 0, 1) := by decide +kernel
theorem dX12_endsThought_1 : decode cX12_endsThought 1 = .ok (.istore_n 1, 1) := by decide +kernel
theorem dX12_endsThought_2 : decode cX12_endsThought 2 = .ok (.iload_n 1, 1) := by decide +kernel
theorem dX12_endsThought_3 : decode cX12_endsThought 3 = .ok (.sipush 161, 3) := by decide +kernel
theorem dX12_endsThought_6 : decode cX12_endsThought 6 = .ok (.if_icmp .ge 21, 3) := by decide +kernel
theorem dX12_endsThought_9 : decode cX12_endsThought 9 = .ok (.aload_n 0, 1) := by decide +kernel
theorem dX12_endsThought_10 : decode cX12_endsThought 10 = .ok (.getfield 7, 3) := by decide +kernel
theorem dX12_endsThought_13 : decode cX12_endsThought 13 = .ok (.iload_n 1, 1) := by decide +kernel
theorem dX12_endsThought_14 : decode cX12_endsThought 14 = .ok (.aload_n 0, 1) := by decide +kernel
theorem dX12_endsThought_15 : decode cX12_endsThought 15 = .ok (.getfield 16, 3) := by decide +kernel
theorem dX12_endsThought_18 : decode cX12_endsThought 18 = .ok (.iload_n 1, 1) := by decide +kernel
theorem dX12_endsThought_19 : decode cX12_endsThought 19 = .ok (.iaload, 1) := by decide +kernel
theorem dX12_endsThought_20 : decode cX12_endsThought 20 = .ok (.iastore, 1) := by decide +kernel
theorem dX12_endsThought_21 : decode cX12_endsThought 21 = .ok (.iinc 1 1, 3) := by decide +kernel
theorem dX12_endsThought_24 : decode cX12_endsThought 24 = .ok (.goto (-22), 3) := by decide +kernel
theorem dX12_endsThought_27 : decode cX12_endsThought 27 = .ok (.aload_n 0, 1) := by decide +kernel
theorem dX12_endsThought_28 : decode cX12_endsThought 28 = .ok (.iconst 0, 1) := by decide +kernel
theorem dX12_endsThought_29 : decode cX12_endsThought 29 = .ok (.putfield 190, 3) := by decide +kernel
theorem dX12_endsThought_32 : decode cX12_endsThought 32 = .ok (.return_, 1) := by decide +kernel
theorem dX12_state_0 : decode cX12_state 0 = .ok (.aload_n 0, 1) := by decide +kernel
theorem dX12_state_1 : decode cX12_state 1 = .ok (.iconst 0, 1) := by decide +kernel
theorem dX12_state_2 : decode cX12_state 2 = .ok (.putfield 183, 3) := by decide +kernel
theorem dX12_state_5 : decode cX12_state 5 = .ok (.aload_n 0, 1) := by decide +kernel
theorem dX12_state_6 : decode cX12_state 6 = .ok (.getfield 7, 3) := by decide +kernel
theorem dX12_state_9 : decode cX12_state 9 = .ok (.iconst 2, 1) := by decide +kernel
theorem dX12_state_10 : decode cX12_state 10 = .ok (.iaload, 1) := by decide +kernel
theorem dX12_state_11 : decode cX12_state 11 = .ok (.istore_n 2, 1) := by decide +kernel
theorem dX12_state_12 : decode cX12_state 12 = .ok (.aload_n 0, 1) := by decide +kernel
theorem dX12_state_13 : decode cX12_state 13 = .ok (.getfield 7, 3) := by decide +kernel
theorem dX12_state_16 : decode cX12_state 16 = .ok (.iconst 2, 1) := by decide +kernel
theorem dX12_state_17 : decode cX12_state 17 = .ok (.iload_n 1, 1) := by decide +kernel
theorem dX12_state_18 : decode cX12_state 18 = .ok (.iastore, 1) := by decide +kernel
theorem dX12_state_19 : decode cX12_state 19 = .ok (.aload_n 0, 1) := by decide +kernel
theorem dX12_state_20 : decode cX12_state 20 = .ok (.iconst 0, 1) := by decide +kernel
theorem dX12_state_21 : decode cX12_state 21 = .ok (.putfield 187, 3) := by decide +kernel
theorem dX12_state_24 : decode cX12_state 24 = .ok (.iload_n 2, 1) := by decide +kernel
theorem dX12_state_25 : decode cX12_state 25 = .ok (.ireturn, 1) := by decide +kernel
theorem dX12_draw_0 : decode cX12_draw 0 = .ok (.aload_n 0, 1) := by decide +kernel
theorem dX12_draw_1 : decode cX12_draw 1 = .ok (.getfield 7, 3) := by decide +kernel
theorem dX12_draw_4 : decode cX12_draw 4 = .ok (.iconst 2, 1) := by decide +kernel
theorem dX12_draw_5 : decode cX12_draw 5 = .ok (.ldc 194, 2) := by decide +kernel
theorem dX12_draw_7 : decode cX12_draw 7 = .ok (.aload_n 0, 1) := by decide +kernel
theorem dX12_draw_8 : decode cX12_draw 8 = .ok (.getfield 7, 3) := by decide +kernel
theorem dX12_draw_11 : decode cX12_draw 11 = .ok (.iconst 2, 1) := by decide +kernel
theorem dX12_draw_12 : decode cX12_draw 12 = .ok (.iaload, 1) := by decide +kernel
theorem dX12_draw_13 : decode cX12_draw 13 = .ok (.imul, 1) := by decide +kernel
theorem dX12_draw_14 : decode cX12_draw 14 = .ok (.ldc 195, 2) := by decide +kernel
theorem dX12_draw_16 : decode cX12_draw 16 = .ok (.iadd, 1) := by decide +kernel
theorem dX12_draw_17 : decode cX12_draw 17 = .ok (.iastore, 1) := by decide +kernel
theorem dX12_draw_18 : decode cX12_draw 18 = .ok (.aload_n 0, 1) := by decide +kernel
theorem dX12_draw_19 : decode cX12_draw 19 = .ok (.getfield 7, 3) := by decide +kernel
theorem dX12_draw_22 : decode cX12_draw 22 = .ok (.iconst 2, 1) := by decide +kernel
theorem dX12_draw_23 : decode cX12_draw 23 = .ok (.iaload, 1) := by decide +kernel
theorem dX12_draw_24 : decode cX12_draw 24 = .ok (.bipush 8, 2) := by decide +kernel
theorem dX12_draw_26 : decode cX12_draw 26 = .ok (.iushr, 1) := by decide +kernel
theorem dX12_draw_27 : decode cX12_draw 27 = .ok (.iload_n 1, 1) := by decide +kernel
theorem dX12_draw_28 : decode cX12_draw 28 = .ok (.irem, 1) := by decide +kernel
theorem dX12_draw_29 : decode cX12_draw 29 = .ok (.ireturn, 1) := by decide +kernel
theorem dX12_isPorch_0 : decode cX12_isPorch 0 = .ok (.iload_n 1, 1) := by decide +kernel
theorem dX12_isPorch_1 : decode cX12_isPorch 1 = .ok (.ifCond .lt 15, 3) := by decide +kernel
theorem dX12_isPorch_4 : decode cX12_isPorch 4 = .ok (.iload_n 1, 1) := by decide +kernel
theorem dX12_isPorch_5 : decode cX12_isPorch 5 = .ok (.aload_n 0, 1) := by decide +kernel
theorem dX12_isPorch_6 : decode cX12_isPorch 6 = .ok (.getfield 196, 3) := by decide +kernel
theorem dX12_isPorch_9 : decode cX12_isPorch 9 = .ok (.if_icmp .ge 7, 3) := by decide +kernel
theorem dX12_isPorch_12 : decode cX12_isPorch 12 = .ok (.iconst 1, 1) := by decide +kernel
theorem dX12_isPorch_13 : decode cX12_isPorch 13 = .ok (.goto 4, 3) := by decide +kernel
theorem dX12_isPorch_16 : decode cX12_isPorch 16 = .ok (.iconst 0, 1) := by decide +kernel
theorem dX12_isPorch_17 : decode cX12_isPorch 17 = .ok (.ireturn, 1) := by decide +kernel
theorem dX12_isPerson_0 : decode cX12_isPerson 0 = .ok (.iload_n 1, 1) := by decide +kernel
theorem dX12_isPerson_1 : decode cX12_isPerson 1 = .ok (.ifCond .lt 15, 3) := by decide +kernel
theorem dX12_isPerson_4 : decode cX12_isPerson 4 = .ok (.iload_n 1, 1) := by decide +kernel
theorem dX12_isPerson_5 : decode cX12_isPerson 5 = .ok (.aload_n 0, 1) := by decide +kernel
theorem dX12_isPerson_6 : decode cX12_isPerson 6 = .ok (.getfield 199, 3) := by decide +kernel
theorem dX12_isPerson_9 : decode cX12_isPerson 9 = .ok (.if_icmp .ge 7, 3) := by decide +kernel
theorem dX12_isPerson_12 : decode cX12_isPerson 12 = .ok (.iconst 1, 1) := by decide +kernel
theorem dX12_isPerson_13 : decode cX12_isPerson 13 = .ok (.goto 4, 3) := by decide +kernel
theorem dX12_isPerson_16 : decode cX12_isPerson 16 = .ok (.iconst 0, 1) := by decide +kernel
theorem dX12_isPerson_17 : decode cX12_isPerson 17 = .ok (.ireturn, 1) := by decide +kernel
theorem dX12_sitsOn_0 : decode cX12_sitsOn 0 = .ok (.aload_n 0, 1) := by decide +kernel
theorem dX12_sitsOn_1 : decode cX12_sitsOn 1 = .ok (.getfield 7, 3) := by decide +kernel
theorem dX12_sitsOn_4 : decode cX12_sitsOn 4 = .ok (.bipush 41, 2) := by decide +kernel
theorem dX12_sitsOn_6 : decode cX12_sitsOn 6 = .ok (.iload_n 1, 1) := by decide +kernel
theorem dX12_sitsOn_7 : decode cX12_sitsOn 7 = .ok (.iadd, 1) := by decide +kernel
theorem dX12_sitsOn_8 : decode cX12_sitsOn 8 = .ok (.iaload, 1) := by decide +kernel
theorem dX12_sitsOn_9 : decode cX12_sitsOn 9 = .ok (.iconst 1, 1) := by decide +kernel
theorem dX12_sitsOn_10 : decode cX12_sitsOn 10 = .ok (.isub, 1) := by decide +kernel
theorem dX12_sitsOn_11 : decode cX12_sitsOn 11 = .ok (.ireturn, 1) := by decide +kernel
theorem dX12_doesSit_0 : decode cX12_doesSit 0 = .ok (.aload_n 0, 1) := by decide +kernel
theorem dX12_doesSit_1 : decode cX12_doesSit 1 = .ok (.getfield 7, 3) := by decide +kernel
theorem dX12_doesSit_4 : decode cX12_doesSit 4 = .ok (.bipush 41, 2) := by decide +kernel
theorem dX12_doesSit_6 : decode cX12_doesSit 6 = .ok (.iload_n 1, 1) := by decide +kernel
theorem dX12_doesSit_7 : decode cX12_doesSit 7 = .ok (.iadd, 1) := by decide +kernel
theorem dX12_doesSit_8 : decode cX12_doesSit 8 = .ok (.iaload, 1) := by decide +kernel
theorem dX12_doesSit_9 : decode cX12_doesSit 9 = .ok (.ifCond .le 7, 3) := by decide +kernel
theorem dX12_doesSit_12 : decode cX12_doesSit 12 = .ok (.iconst 1, 1) := by decide +kernel
theorem dX12_doesSit_13 : decode cX12_doesSit 13 = .ok (.goto 4, 3) := by decide +kernel
theorem dX12_doesSit_16 : decode cX12_doesSit 16 = .ok (.iconst 0, 1) := by decide +kernel
theorem dX12_doesSit_17 : decode cX12_doesSit 17 = .ok (.ireturn, 1) := by decide +kernel
theorem dX12_sittersOn_0 : decode cX12_sittersOn 0 = .ok (.iconst 0, 1) := by decide +kernel
theorem dX12_sittersOn_1 : decode cX12_sittersOn 1 = .ok (.istore_n 2, 1) := by decide +kernel
theorem dX12_sittersOn_2 : decode cX12_sittersOn 2 = .ok (.iconst 0, 1) := by decide +kernel
theorem dX12_sittersOn_3 : decode cX12_sittersOn 3 = .ok (.istore_n 3, 1) := by decide +kernel
theorem dX12_sittersOn_4 : decode cX12_sittersOn 4 = .ok (.iload_n 3, 1) := by decide +kernel
theorem dX12_sittersOn_5 : decode cX12_sittersOn 5 = .ok (.aload_n 0, 1) := by decide +kernel
theorem dX12_sittersOn_6 : decode cX12_sittersOn 6 = .ok (.getfield 199, 3) := by decide +kernel
theorem dX12_sittersOn_9 : decode cX12_sittersOn 9 = .ok (.if_icmp .ge 24, 3) := by decide +kernel
theorem dX12_sittersOn_12 : decode cX12_sittersOn 12 = .ok (.aload_n 0, 1) := by decide +kernel
theorem dX12_sittersOn_13 : decode cX12_sittersOn 13 = .ok (.iload_n 3, 1) := by decide +kernel
theorem dX12_sittersOn_14 : decode cX12_sittersOn 14 = .ok (.invokevirtual 202, 3) := by decide +kernel
theorem dX12_sittersOn_17 : decode cX12_sittersOn 17 = .ok (.iload_n 1, 1) := by decide +kernel
theorem dX12_sittersOn_18 : decode cX12_sittersOn 18 = .ok (.if_icmp .ne 9, 3) := by decide +kernel
theorem dX12_sittersOn_21 : decode cX12_sittersOn 21 = .ok (.iload_n 2, 1) := by decide +kernel
theorem dX12_sittersOn_22 : decode cX12_sittersOn 22 = .ok (.iconst 1, 1) := by decide +kernel
theorem dX12_sittersOn_23 : decode cX12_sittersOn 23 = .ok (.iload_n 3, 1) := by decide +kernel
theorem dX12_sittersOn_24 : decode cX12_sittersOn 24 = .ok (.ishl, 1) := by decide +kernel
theorem dX12_sittersOn_25 : decode cX12_sittersOn 25 = .ok (.ior, 1) := by decide +kernel
theorem dX12_sittersOn_26 : decode cX12_sittersOn 26 = .ok (.istore_n 2, 1) := by decide +kernel
theorem dX12_sittersOn_27 : decode cX12_sittersOn 27 = .ok (.iinc 3 1, 3) := by decide +kernel
theorem dX12_sittersOn_30 : decode cX12_sittersOn 30 = .ok (.goto (-26), 3) := by decide +kernel
theorem dX12_sittersOn_33 : decode cX12_sittersOn 33 = .ok (.iload_n 2, 1) := by decide +kernel
theorem dX12_sittersOn_34 : decode cX12_sittersOn 34 = .ok (.ireturn, 1) := by decide +kernel
theorem dX12_porch_0 : decode cX12_porch 0 = .ok (.aload_n 0, 1) := by decide +kernel
theorem dX12_porch_1 : decode cX12_porch 1 = .ok (.iconst 0, 1) := by decide +kernel
theorem dX12_porch_2 : decode cX12_porch 2 = .ok (.putfield 183, 3) := by decide +kernel
theorem dX12_porch_5 : decode cX12_porch 5 = .ok (.aload_n 0, 1) := by decide +kernel
theorem dX12_porch_6 : decode cX12_porch 6 = .ok (.iload_n 1, 1) := by decide +kernel
theorem dX12_porch_7 : decode cX12_porch 7 = .ok (.iconst 1, 1) := by decide +kernel
theorem dX12_porch_8 : decode cX12_porch 8 = .ok (.bipush 6, 2) := by decide +kernel
theorem dX12_porch_10 : decode cX12_porch 10 = .ok (.invokevirtual 206, 3) := by decide +kernel
theorem dX12_porch_13 : decode cX12_porch 13 = .ok (.ifCond .eq 23, 3) := by decide +kernel
theorem dX12_porch_16 : decode cX12_porch 16 = .ok (.aload_n 0, 1) := by decide +kernel
theorem dX12_porch_17 : decode cX12_porch 17 = .ok (.iload_n 2, 1) := by decide +kernel
theorem dX12_porch_18 : decode cX12_porch 18 = .ok (.iconst 0, 1) := by decide +kernel
theorem dX12_porch_19 : decode cX12_porch 19 = .ok (.bipush 99, 2) := by decide +kernel
theorem dX12_porch_21 : decode cX12_porch 21 = .ok (.invokevirtual 206, 3) := by decide +kernel
theorem dX12_porch_24 : decode cX12_porch 24 = .ok (.ifCond .eq 12, 3) := by decide +kernel
theorem dX12_porch_27 : decode cX12_porch 27 = .ok (.aload_n 0, 1) := by decide +kernel
theorem dX12_porch_28 : decode cX12_porch 28 = .ok (.getfield 196, 3) := by decide +kernel
theorem dX12_porch_31 : decode cX12_porch 31 = .ok (.bipush 12, 2) := by decide +kernel
theorem dX12_porch_33 : decode cX12_porch 33 = .ok (.if_icmp .ne 5, 3) := by decide +kernel
theorem dX12_porch_36 : decode cX12_porch 36 = .ok (.iconst (-1), 1) := by decide +kernel
theorem dX12_porch_37 : decode cX12_porch 37 = .ok (.ireturn, 1) := by decide +kernel
theorem dX12_porch_38 : decode cX12_porch 38 = .ok (.aload_n 0, 1) := by decide +kernel
theorem dX12_porch_39 : decode cX12_porch 39 = .ok (.getfield 19, 3) := by decide +kernel
theorem dX12_porch_42 : decode cX12_porch 42 = .ok (.aload_n 0, 1) := by decide +kernel
theorem dX12_porch_43 : decode cX12_porch 43 = .ok (.getfield 196, 3) := by decide +kernel
theorem dX12_porch_46 : decode cX12_porch 46 = .ok (.iload_n 1, 1) := by decide +kernel
theorem dX12_porch_47 : decode cX12_porch 47 = .ok (.iastore, 1) := by decide +kernel
theorem dX12_porch_48 : decode cX12_porch 48 = .ok (.aload_n 0, 1) := by decide +kernel
theorem dX12_porch_49 : decode cX12_porch 49 = .ok (.getfield 7, 3) := by decide +kernel
theorem dX12_porch_52 : decode cX12_porch 52 = .ok (.iconst 5, 1) := by decide +kernel
theorem dX12_porch_53 : decode cX12_porch 53 = .ok (.aload_n 0, 1) := by decide +kernel
theorem dX12_porch_54 : decode cX12_porch 54 = .ok (.getfield 196, 3) := by decide +kernel
theorem dX12_porch_57 : decode cX12_porch 57 = .ok (.iadd, 1) := by decide +kernel
theorem dX12_porch_58 : decode cX12_porch 58 = .ok (.iload_n 2, 1) := by decide +kernel
theorem dX12_porch_59 : decode cX12_porch 59 = .ok (.iastore, 1) := by decide +kernel
theorem dX12_porch_60 : decode cX12_porch 60 = .ok (.aload_n 0, 1) := by decide +kernel
theorem dX12_porch_61 : decode cX12_porch 61 = .ok (.getfield 7, 3) := by decide +kernel
theorem dX12_porch_64 : decode cX12_porch 64 = .ok (.bipush 17, 2) := by decide +kernel
theorem dX12_porch_66 : decode cX12_porch 66 = .ok (.aload_n 0, 1) := by decide +kernel
theorem dX12_porch_67 : decode cX12_porch 67 = .ok (.getfield 196, 3) := by decide +kernel
theorem dX12_porch_70 : decode cX12_porch 70 = .ok (.iadd, 1) := by decide +kernel
theorem dX12_porch_71 : decode cX12_porch 71 = .ok (.iconst 0, 1) := by decide +kernel
theorem dX12_porch_72 : decode cX12_porch 72 = .ok (.iastore, 1) := by decide +kernel
theorem dX12_porch_73 : decode cX12_porch 73 = .ok (.aload_n 0, 1) := by decide +kernel
theorem dX12_porch_74 : decode cX12_porch 74 = .ok (.getfield 7, 3) := by decide +kernel
theorem dX12_porch_77 : decode cX12_porch 77 = .ok (.bipush 29, 2) := by decide +kernel
theorem dX12_porch_79 : decode cX12_porch 79 = .ok (.aload_n 0, 1) := by decide +kernel
theorem dX12_porch_80 : decode cX12_porch 80 = .ok (.getfield 196, 3) := by decide +kernel
theorem dX12_porch_83 : decode cX12_porch 83 = .ok (.iadd, 1) := by decide +kernel
theorem dX12_porch_84 : decode cX12_porch 84 = .ok (.iconst 0, 1) := by decide +kernel
theorem dX12_porch_85 : decode cX12_porch 85 = .ok (.iastore, 1) := by decide +kernel
theorem dX12_porch_86 : decode cX12_porch 86 = .ok (.aload_n 0, 1) := by decide +kernel
theorem dX12_porch_87 : decode cX12_porch 87 = .ok (.aload_n 0, 1) := by decide +kernel
theorem dX12_porch_88 : decode cX12_porch 88 = .ok (.getfield 196, 3) := by decide +kernel
theorem dX12_porch_91 : decode cX12_porch 91 = .ok (.iconst 1, 1) := by decide +kernel
theorem dX12_porch_92 : decode cX12_porch 92 = .ok (.iadd, 1) := by decide +kernel
theorem dX12_porch_93 : decode cX12_porch 93 = .ok (.putfield 196, 3) := by decide +kernel
theorem dX12_porch_96 : decode cX12_porch 96 = .ok (.aload_n 0, 1) := by decide +kernel
theorem dX12_porch_97 : decode cX12_porch 97 = .ok (.iconst 0, 1) := by decide +kernel
theorem dX12_porch_98 : decode cX12_porch 98 = .ok (.putfield 187, 3) := by decide +kernel
theorem dX12_porch_101 : decode cX12_porch 101 = .ok (.aload_n 0, 1) := by decide +kernel
theorem dX12_porch_102 : decode cX12_porch 102 = .ok (.getfield 196, 3) := by decide +kernel
theorem dX12_porch_105 : decode cX12_porch 105 = .ok (.iconst 1, 1) := by decide +kernel
theorem dX12_porch_106 : decode cX12_porch 106 = .ok (.isub, 1) := by decide +kernel
theorem dX12_porch_107 : decode cX12_porch 107 = .ok (.ireturn, 1) := by decide +kernel
theorem dX12_person_0 : decode cX12_person 0 = .ok (.aload_n 0, 1) := by decide +kernel
theorem dX12_person_1 : decode cX12_person 1 = .ok (.iconst 0, 1) := by decide +kernel
theorem dX12_person_2 : decode cX12_person 2 = .ok (.putfield 183, 3) := by decide +kernel
theorem dX12_person_5 : decode cX12_person 5 = .ok (.aload_n 0, 1) := by decide +kernel
theorem dX12_person_6 : decode cX12_person 6 = .ok (.iload_n 1, 1) := by decide +kernel
theorem dX12_person_7 : decode cX12_person 7 = .ok (.iconst 0, 1) := by decide +kernel
theorem dX12_person_8 : decode cX12_person 8 = .ok (.bipush 9, 2) := by decide +kernel
theorem dX12_person_10 : decode cX12_person 10 = .ok (.invokevirtual 206, 3) := by decide +kernel
theorem dX12_person_13 : decode cX12_person 13 = .ok (.ifCond .eq 23, 3) := by decide +kernel
theorem dX12_person_16 : decode cX12_person 16 = .ok (.aload_n 0, 1) := by decide +kernel
theorem dX12_person_17 : decode cX12_person 17 = .ok (.iload_n 2, 1) := by decide +kernel
theorem dX12_person_18 : decode cX12_person 18 = .ok (.iconst 0, 1) := by decide +kernel
theorem dX12_person_19 : decode cX12_person 19 = .ok (.bipush 9, 2) := by decide +kernel
theorem dX12_person_21 : decode cX12_person 21 = .ok (.invokevirtual 206, 3) := by decide +kernel
theorem dX12_person_24 : decode cX12_person 24 = .ok (.ifCond .eq 12, 3) := by decide +kernel
theorem dX12_person_27 : decode cX12_person 27 = .ok (.aload_n 0, 1) := by decide +kernel
theorem dX12_person_28 : decode cX12_person 28 = .ok (.getfield 199, 3) := by decide +kernel
theorem dX12_person_31 : decode cX12_person 31 = .ok (.bipush 20, 2) := by decide +kernel
theorem dX12_person_33 : decode cX12_person 33 = .ok (.if_icmp .ne 5, 3) := by decide +kernel
theorem dX12_person_36 : decode cX12_person 36 = .ok (.iconst (-1), 1) := by decide +kernel
theorem dX12_person_37 : decode cX12_person 37 = .ok (.ireturn, 1) := by decide +kernel
theorem dX12_person_38 : decode cX12_person 38 = .ok (.aload_n 0, 1) := by decide +kernel
theorem dX12_person_39 : decode cX12_person 39 = .ok (.getfield 22, 3) := by decide +kernel
theorem dX12_person_42 : decode cX12_person 42 = .ok (.aload_n 0, 1) := by decide +kernel
theorem dX12_person_43 : decode cX12_person 43 = .ok (.getfield 199, 3) := by decide +kernel
theorem dX12_person_46 : decode cX12_person 46 = .ok (.iload_n 1, 1) := by decide +kernel
theorem dX12_person_47 : decode cX12_person 47 = .ok (.iastore, 1) := by decide +kernel
theorem dX12_person_48 : decode cX12_person 48 = .ok (.aload_n 0, 1) := by decide +kernel
theorem dX12_person_49 : decode cX12_person 49 = .ok (.getfield 25, 3) := by decide +kernel
theorem dX12_person_52 : decode cX12_person 52 = .ok (.aload_n 0, 1) := by decide +kernel
theorem dX12_person_53 : decode cX12_person 53 = .ok (.getfield 199, 3) := by decide +kernel
theorem dX12_person_56 : decode cX12_person 56 = .ok (.iload_n 2, 1) := by decide +kernel
theorem dX12_person_57 : decode cX12_person 57 = .ok (.iastore, 1) := by decide +kernel
theorem dX12_person_58 : decode cX12_person 58 = .ok (.bipush 41, 2) := by decide +kernel
theorem dX12_person_60 : decode cX12_person 60 = .ok (.istore_n 3, 1) := by decide +kernel
theorem dX12_person_61 : decode cX12_person 61 = .ok (.iload_n 3, 1) := by decide +kernel
theorem dX12_person_62 : decode cX12_person 62 = .ok (.sipush 161, 3) := by decide +kernel
theorem dX12_person_65 : decode cX12_person 65 = .ok (.if_icmp .ge 23, 3) := by decide +kernel
theorem dX12_person_68 : decode cX12_person 68 = .ok (.aload_n 0, 1) := by decide +kernel
theorem dX12_person_69 : decode cX12_person 69 = .ok (.getfield 7, 3) := by decide +kernel
theorem dX12_person_72 : decode cX12_person 72 = .ok (.iload_n 3, 1) := by decide +kernel
theorem dX12_person_73 : decode cX12_person 73 = .ok (.aload_n 0, 1) := by decide +kernel
theorem dX12_person_74 : decode cX12_person 74 = .ok (.getfield 199, 3) := by decide +kernel
theorem dX12_person_77 : decode cX12_person 77 = .ok (.iadd, 1) := by decide +kernel
theorem dX12_person_78 : decode cX12_person 78 = .ok (.iconst 0, 1) := by decide +kernel
theorem dX12_person_79 : decode cX12_person 79 = .ok (.iastore, 1) := by decide +kernel
theorem dX12_person_80 : decode cX12_person 80 = .ok (.iload_n 3, 1) := by decide +kernel
theorem dX12_person_81 : decode cX12_person 81 = .ok (.bipush 20, 2) := by decide +kernel
theorem dX12_person_83 : decode cX12_person 83 = .ok (.iadd, 1) := by decide +kernel
theorem dX12_person_84 : decode cX12_person 84 = .ok (.istore_n 3, 1) := by decide +kernel
theorem dX12_person_85 : decode cX12_person 85 = .ok (.goto (-24), 3) := by decide +kernel
theorem dX12_person_88 : decode cX12_person 88 = .ok (.aload_n 0, 1) := by decide +kernel
theorem dX12_person_89 : decode cX12_person 89 = .ok (.aload_n 0, 1) := by decide +kernel
theorem dX12_person_90 : decode cX12_person 90 = .ok (.getfield 199, 3) := by decide +kernel
theorem dX12_person_93 : decode cX12_person 93 = .ok (.iconst 1, 1) := by decide +kernel
theorem dX12_person_94 : decode cX12_person 94 = .ok (.iadd, 1) := by decide +kernel
theorem dX12_person_95 : decode cX12_person 95 = .ok (.putfield 199, 3) := by decide +kernel
theorem dX12_person_98 : decode cX12_person 98 = .ok (.aload_n 0, 1) := by decide +kernel
theorem dX12_person_99 : decode cX12_person 99 = .ok (.iconst 0, 1) := by decide +kernel
theorem dX12_person_100 : decode cX12_person 100 = .ok (.putfield 187, 3) := by decide +kernel
theorem dX12_person_103 : decode cX12_person 103 = .ok (.aload_n 0, 1) := by decide +kernel
theorem dX12_person_104 : decode cX12_person 104 = .ok (.getfield 199, 3) := by decide +kernel
theorem dX12_person_107 : decode cX12_person 107 = .ok (.iconst 1, 1) := by decide +kernel
theorem dX12_person_108 : decode cX12_person 108 = .ok (.isub, 1) := by decide +kernel
theorem dX12_person_109 : decode cX12_person 109 = .ok (.ireturn, 1) := by decide +kernel
theorem dX12_canSet_0 : decode cX12_canSet 0 = .ok (.iload_n 1, 1) := by decide +kernel
theorem dX12_canSet_1 : decode cX12_canSet 1 = .ok (.ifCond .ne 28, 3) := by decide +kernel
theorem dX12_canSet_4 : decode cX12_canSet 4 = .ok (.aload_n 0, 1) := by decide +kernel
theorem dX12_canSet_5 : decode cX12_canSet 5 = .ok (.iload_n 2, 1) := by decide +kernel
theorem dX12_canSet_6 : decode cX12_canSet 6 = .ok (.invokevirtual 210, 3) := by decide +kernel
theorem dX12_canSet_9 : decode cX12_canSet 9 = .ok (.ifCond .eq 18, 3) := by decide +kernel
theorem dX12_canSet_12 : decode cX12_canSet 12 = .ok (.aload_n 0, 1) := by decide +kernel
theorem dX12_canSet_13 : decode cX12_canSet 13 = .ok (.iload_n 3, 1) := by decide +kernel
theorem dX12_canSet_14 : decode cX12_canSet 14 = .ok (.iconst 0, 1) := by decide +kernel
theorem dX12_canSet_15 : decode cX12_canSet 15 = .ok (.bipush 99, 2) := by decide +kernel
theorem dX12_canSet_17 : decode cX12_canSet 17 = .ok (.invokevirtual 206, 3) := by decide +kernel
theorem dX12_canSet_20 : decode cX12_canSet 20 = .ok (.ifCond .eq 7, 3) := by decide +kernel
theorem dX12_canSet_23 : decode cX12_canSet 23 = .ok (.iconst 1, 1) := by decide +kernel
theorem dX12_canSet_24 : decode cX12_canSet 24 = .ok (.goto 4, 3) := by decide +kernel
theorem dX12_canSet_27 : decode cX12_canSet 27 = .ok (.iconst 0, 1) := by decide +kernel
theorem dX12_canSet_28 : decode cX12_canSet 28 = .ok (.ireturn, 1) := by decide +kernel
theorem dX12_canSet_29 : decode cX12_canSet 29 = .ok (.iload_n 1, 1) := by decide +kernel
theorem dX12_canSet_30 : decode cX12_canSet 30 = .ok (.iconst 1, 1) := by decide +kernel
theorem dX12_canSet_31 : decode cX12_canSet 31 = .ok (.if_icmp .ne 32, 3) := by decide +kernel
theorem dX12_canSet_34 : decode cX12_canSet 34 = .ok (.aload_n 0, 1) := by decide +kernel
theorem dX12_canSet_35 : decode cX12_canSet 35 = .ok (.iload_n 2, 1) := by decide +kernel
theorem dX12_canSet_36 : decode cX12_canSet 36 = .ok (.invokevirtual 210, 3) := by decide +kernel
theorem dX12_canSet_39 : decode cX12_canSet 39 = .ok (.ifCond .eq 22, 3) := by decide +kernel
theorem dX12_canSet_42 : decode cX12_canSet 42 = .ok (.aload_n 0, 1) := by decide +kernel
theorem dX12_canSet_43 : decode cX12_canSet 43 = .ok (.iload_n 3, 1) := by decide +kernel
theorem dX12_canSet_44 : decode cX12_canSet 44 = .ok (.iconst (-1), 1) := by decide +kernel
theorem dX12_canSet_45 : decode cX12_canSet 45 = .ok (.aload_n 0, 1) := by decide +kernel
theorem dX12_canSet_46 : decode cX12_canSet 46 = .ok (.getfield 199, 3) := by decide +kernel
theorem dX12_canSet_49 : decode cX12_canSet 49 = .ok (.iconst 1, 1) := by decide +kernel
theorem dX12_canSet_50 : decode cX12_canSet 50 = .ok (.isub, 1) := by decide +kernel
theorem dX12_canSet_51 : decode cX12_canSet 51 = .ok (.invokevirtual 206, 3) := by decide +kernel
theorem dX12_canSet_54 : decode cX12_canSet 54 = .ok (.ifCond .eq 7, 3) := by decide +kernel
theorem dX12_canSet_57 : decode cX12_canSet 57 = .ok (.iconst 1, 1) := by decide +kernel
theorem dX12_canSet_58 : decode cX12_canSet 58 = .ok (.goto 4, 3) := by decide +kernel
theorem dX12_canSet_61 : decode cX12_canSet 61 = .ok (.iconst 0, 1) := by decide +kernel
theorem dX12_canSet_62 : decode cX12_canSet 62 = .ok (.ireturn, 1) := by decide +kernel
theorem dX12_canSet_63 : decode cX12_canSet 63 = .ok (.aload_n 0, 1) := by decide +kernel
theorem dX12_canSet_64 : decode cX12_canSet 64 = .ok (.iload_n 1, 1) := by decide +kernel
theorem dX12_canSet_65 : decode cX12_canSet 65 = .ok (.iconst 2, 1) := by decide +kernel
theorem dX12_canSet_66 : decode cX12_canSet 66 = .ok (.iconst 3, 1) := by decide +kernel
theorem dX12_canSet_67 : decode cX12_canSet 67 = .ok (.invokevirtual 206, 3) := by decide +kernel
theorem dX12_canSet_70 : decode cX12_canSet 70 = .ok (.ifCond .eq 26, 3) := by decide +kernel
theorem dX12_canSet_73 : decode cX12_canSet 73 = .ok (.aload_n 0, 1) := by decide +kernel
theorem dX12_canSet_74 : decode cX12_canSet 74 = .ok (.iload_n 2, 1) := by decide +kernel
theorem dX12_canSet_75 : decode cX12_canSet 75 = .ok (.invokevirtual 214, 3) := by decide +kernel
theorem dX12_canSet_78 : decode cX12_canSet 78 = .ok (.ifCond .eq 18, 3) := by decide +kernel
theorem dX12_canSet_81 : decode cX12_canSet 81 = .ok (.aload_n 0, 1) := by decide +kernel
theorem dX12_canSet_82 : decode cX12_canSet 82 = .ok (.iload_n 3, 1) := by decide +kernel
theorem dX12_canSet_83 : decode cX12_canSet 83 = .ok (.iconst 0, 1) := by decide +kernel
theorem dX12_canSet_84 : decode cX12_canSet 84 = .ok (.bipush 9, 2) := by decide +kernel
theorem dX12_canSet_86 : decode cX12_canSet 86 = .ok (.invokevirtual 206, 3) := by decide +kernel
theorem dX12_canSet_89 : decode cX12_canSet 89 = .ok (.ifCond .eq 7, 3) := by decide +kernel
theorem dX12_canSet_92 : decode cX12_canSet 92 = .ok (.iconst 1, 1) := by decide +kernel
theorem dX12_canSet_93 : decode cX12_canSet 93 = .ok (.goto 4, 3) := by decide +kernel
theorem dX12_canSet_96 : decode cX12_canSet 96 = .ok (.iconst 0, 1) := by decide +kernel
theorem dX12_canSet_97 : decode cX12_canSet 97 = .ok (.ireturn, 1) := by decide +kernel
theorem dX12_set_0 : decode cX12_set 0 = .ok (.aload_n 0, 1) := by decide +kernel
theorem dX12_set_1 : decode cX12_set 1 = .ok (.iconst 0, 1) := by decide +kernel
theorem dX12_set_2 : decode cX12_set 2 = .ok (.putfield 183, 3) := by decide +kernel
theorem dX12_set_5 : decode cX12_set 5 = .ok (.aload_n 0, 1) := by decide +kernel
theorem dX12_set_6 : decode cX12_set 6 = .ok (.iload_n 1, 1) := by decide +kernel
theorem dX12_set_7 : decode cX12_set 7 = .ok (.iload_n 2, 1) := by decide +kernel
theorem dX12_set_8 : decode cX12_set 8 = .ok (.iload_n 3, 1) := by decide +kernel
theorem dX12_set_9 : decode cX12_set 9 = .ok (.invokevirtual 217, 3) := by decide +kernel
theorem dX12_set_12 : decode cX12_set 12 = .ok (.ifCond .ne 5, 3) := by decide +kernel
theorem dX12_set_15 : decode cX12_set 15 = .ok (.iconst 0, 1) := by decide +kernel
theorem dX12_set_16 : decode cX12_set 16 = .ok (.ireturn, 1) := by decide +kernel
theorem dX12_set_17 : decode cX12_set 17 = .ok (.iload_n 1, 1) := by decide +kernel
theorem dX12_set_18 : decode cX12_set 18 = .ok (.ifCond .ne 13, 3) := by decide +kernel
theorem dX12_set_21 : decode cX12_set 21 = .ok (.aload_n 0, 1) := by decide +kernel
theorem dX12_set_22 : decode cX12_set 22 = .ok (.getfield 7, 3) := by decide +kernel
theorem dX12_set_25 : decode cX12_set 25 = .ok (.bipush 17, 2) := by decide +kernel
theorem dX12_set_27 : decode cX12_set 27 = .ok (.iload_n 2, 1) := by decide +kernel
theorem dX12_set_28 : decode cX12_set 28 = .ok (.iadd, 1) := by decide +kernel
theorem dX12_set_29 : decode cX12_set 29 = .ok (.iload_n 3, 1) := by decide +kernel
theorem dX12_set_30 : decode cX12_set 30 = .ok (.iastore, 1) := by decide +kernel
theorem dX12_set_31 : decode cX12_set 31 = .ok (.iload_n 1, 1) := by decide +kernel
theorem dX12_set_32 : decode cX12_set 32 = .ok (.iconst 1, 1) := by decide +kernel
theorem dX12_set_33 : decode cX12_set 33 = .ok (.if_icmp .ne 15, 3) := by decide +kernel
theorem dX12_set_36 : decode cX12_set 36 = .ok (.aload_n 0, 1) := by decide +kernel
theorem dX12_set_37 : decode cX12_set 37 = .ok (.getfield 7, 3) := by decide +kernel
theorem dX12_set_40 : decode cX12_set 40 = .ok (.bipush 29, 2) := by decide +kernel
theorem dX12_set_42 : decode cX12_set 42 = .ok (.iload_n 2, 1) := by decide +kernel
theorem dX12_set_43 : decode cX12_set 43 = .ok (.iadd, 1) := by decide +kernel
theorem dX12_set_44 : decode cX12_set 44 = .ok (.iload_n 3, 1) := by decide +kernel
theorem dX12_set_45 : decode cX12_set 45 = .ok (.iconst 1, 1) := by decide +kernel
theorem dX12_set_46 : decode cX12_set 46 = .ok (.iadd, 1) := by decide +kernel
theorem dX12_set_47 : decode cX12_set 47 = .ok (.iastore, 1) := by decide +kernel
theorem dX12_set_48 : decode cX12_set 48 = .ok (.iload_n 1, 1) := by decide +kernel
theorem dX12_set_49 : decode cX12_set 49 = .ok (.iconst 2, 1) := by decide +kernel
theorem dX12_set_50 : decode cX12_set 50 = .ok (.if_icmp .ne 10, 3) := by decide +kernel
theorem dX12_set_53 : decode cX12_set 53 = .ok (.aload_n 0, 1) := by decide +kernel
theorem dX12_set_54 : decode cX12_set 54 = .ok (.getfield 22, 3) := by decide +kernel
theorem dX12_set_57 : decode cX12_set 57 = .ok (.iload_n 2, 1) := by decide +kernel
theorem dX12_set_58 : decode cX12_set 58 = .ok (.iload_n 3, 1) := by decide +kernel
theorem dX12_set_59 : decode cX12_set 59 = .ok (.iastore, 1) := by decide +kernel
theorem dX12_set_60 : decode cX12_set 60 = .ok (.iload_n 1, 1) := by decide +kernel
theorem dX12_set_61 : decode cX12_set 61 = .ok (.iconst 3, 1) := by decide +kernel
theorem dX12_set_62 : decode cX12_set 62 = .ok (.if_icmp .ne 10, 3) := by decide +kernel
theorem dX12_set_65 : decode cX12_set 65 = .ok (.aload_n 0, 1) := by decide +kernel
theorem dX12_set_66 : decode cX12_set 66 = .ok (.getfield 25, 3) := by decide +kernel
theorem dX12_set_69 : decode cX12_set 69 = .ok (.iload_n 2, 1) := by decide +kernel
theorem dX12_set_70 : decode cX12_set 70 = .ok (.iload_n 3, 1) := by decide +kernel
theorem dX12_set_71 : decode cX12_set 71 = .ok (.iastore, 1) := by decide +kernel
theorem dX12_set_72 : decode cX12_set 72 = .ok (.aload_n 0, 1) := by decide +kernel
theorem dX12_set_73 : decode cX12_set 73 = .ok (.iconst 0, 1) := by decide +kernel
theorem dX12_set_74 : decode cX12_set 74 = .ok (.putfield 187, 3) := by decide +kernel
theorem dX12_set_77 : decode cX12_set 77 = .ok (.iconst 1, 1) := by decide +kernel
theorem dX12_set_78 : decode cX12_set 78 = .ok (.ireturn, 1) := by decide +kernel
theorem dX12_types_0 : decode cX12_types 0 = .ok (.bipush 24, 2) := by decide +kernel
theorem dX12_types_2 : decode cX12_types 2 = .ok (.istore_n 2, 1) := by decide +kernel
theorem dX12_types_3 : decode cX12_types 3 = .ok (.iload_n 2, 1) := by decide +kernel
theorem dX12_types_4 : decode cX12_types 4 = .ok (.ifCond .lt 35, 3) := by decide +kernel
theorem dX12_types_7 : decode cX12_types 7 = .ok (.aload_n 0, 1) := by decide +kernel
theorem dX12_types_8 : decode cX12_types 8 = .ok (.getfield 31, 3) := by decide +kernel
theorem dX12_types_11 : decode cX12_types 11 = .ok (.aload_n 0, 1) := by decide +kernel
theorem dX12_types_12 : decode cX12_types 12 = .ok (.getfield 220, 3) := by decide +kernel
theorem dX12_types_15 : decode cX12_types 15 = .ok (.iload_n 1, 1) := by decide +kernel
theorem dX12_types_16 : decode cX12_types 16 = .ok (.iload_n 2, 1) := by decide +kernel
theorem dX12_types_17 : decode cX12_types 17 = .ok (.ishr, 1) := by decide +kernel
theorem dX12_types_18 : decode cX12_types 18 = .ok (.sipush 255, 3) := by decide +kernel
theorem dX12_types_21 : decode cX12_types 21 = .ok (.iand, 1) := by decide +kernel
theorem dX12_types_22 : decode cX12_types 22 = .ok (.iastore, 1) := by decide +kernel
theorem dX12_types_23 : decode cX12_types 23 = .ok (.aload_n 0, 1) := by decide +kernel
theorem dX12_types_24 : decode cX12_types 24 = .ok (.aload_n 0, 1) := by decide +kernel
theorem dX12_types_25 : decode cX12_types 25 = .ok (.getfield 220, 3) := by decide +kernel
theorem dX12_types_28 : decode cX12_types 28 = .ok (.iconst 1, 1) := by decide +kernel
theorem dX12_types_29 : decode cX12_types 29 = .ok (.iadd, 1) := by decide +kernel
theorem dX12_types_30 : decode cX12_types 30 = .ok (.putfield 220, 3) := by decide +kernel
theorem dX12_types_33 : decode cX12_types 33 = .ok (.iinc 2 (-8), 3) := by decide +kernel
theorem dX12_types_36 : decode cX12_types 36 = .ok (.goto (-33), 3) := by decide +kernel
theorem dX12_types_39 : decode cX12_types 39 = .ok (.return_, 1) := by decide +kernel
theorem dX12_feed_0 : decode cX12_feed 0 = .ok (.aload_n 0, 1) := by decide +kernel
theorem dX12_feed_1 : decode cX12_feed 1 = .ok (.iconst 0, 1) := by decide +kernel
theorem dX12_feed_2 : decode cX12_feed 2 = .ok (.putfield 183, 3) := by decide +kernel
theorem dX12_feed_5 : decode cX12_feed 5 = .ok (.aload_n 0, 1) := by decide +kernel
theorem dX12_feed_6 : decode cX12_feed 6 = .ok (.getfield 220, 3) := by decide +kernel
theorem dX12_feed_9 : decode cX12_feed 9 = .ok (.sipush 380, 3) := by decide +kernel
theorem dX12_feed_12 : decode cX12_feed 12 = .ok (.if_icmp .le 5, 3) := by decide +kernel
theorem dX12_feed_15 : decode cX12_feed 15 = .ok (.iconst (-1), 1) := by decide +kernel
theorem dX12_feed_16 : decode cX12_feed 16 = .ok (.ireturn, 1) := by decide +kernel
theorem dX12_feed_17 : decode cX12_feed 17 = .ok (.aload_n 0, 1) := by decide +kernel
theorem dX12_feed_18 : decode cX12_feed 18 = .ok (.iload_n 1, 1) := by decide +kernel
theorem dX12_feed_19 : decode cX12_feed 19 = .ok (.invokevirtual 223, 3) := by decide +kernel
theorem dX12_feed_22 : decode cX12_feed 22 = .ok (.aload_n 0, 1) := by decide +kernel
theorem dX12_feed_23 : decode cX12_feed 23 = .ok (.iload_n 2, 1) := by decide +kernel
theorem dX12_feed_24 : decode cX12_feed 24 = .ok (.invokevirtual 223, 3) := by decide +kernel
theorem dX12_feed_27 : decode cX12_feed 27 = .ok (.aload_n 0, 1) := by decide +kernel
theorem dX12_feed_28 : decode cX12_feed 28 = .ok (.iload_n 3, 1) := by decide +kernel
theorem dX12_feed_29 : decode cX12_feed 29 = .ok (.invokevirtual 223, 3) := by decide +kernel
theorem dX12_feed_32 : decode cX12_feed 32 = .ok (.aload_n 0, 1) := by decide +kernel
theorem dX12_feed_33 : decode cX12_feed 33 = .ok (.iload 4, 2) := by decide +kernel
theorem dX12_feed_35 : decode cX12_feed 35 = .ok (.invokevirtual 223, 3) := by decide +kernel
theorem dX12_feed_38 : decode cX12_feed 38 = .ok (.aload_n 0, 1) := by decide +kernel
theorem dX12_feed_39 : decode cX12_feed 39 = .ok (.iload 5, 2) := by decide +kernel
theorem dX12_feed_41 : decode cX12_feed 41 = .ok (.invokevirtual 223, 3) := by decide +kernel
theorem dX12_feed_44 : decode cX12_feed 44 = .ok (.aload_n 0, 1) := by decide +kernel
theorem dX12_feed_45 : decode cX12_feed 45 = .ok (.getfield 220, 3) := by decide +kernel
theorem dX12_feed_48 : decode cX12_feed 48 = .ok (.ireturn, 1) := by decide +kernel
theorem dX12_end_0 : decode cX12_end 0 = .ok (.aload_n 0, 1) := by decide +kernel
theorem dX12_end_1 : decode cX12_end 1 = .ok (.iconst 0, 1) := by decide +kernel
theorem dX12_end_2 : decode cX12_end 2 = .ok (.putfield 183, 3) := by decide +kernel
theorem dX12_end_5 : decode cX12_end 5 = .ok (.aload_n 0, 1) := by decide +kernel
theorem dX12_end_6 : decode cX12_end 6 = .ok (.iload_n 1, 1) := by decide +kernel
theorem dX12_end_7 : decode cX12_end 7 = .ok (.iconst 0, 1) := by decide +kernel
theorem dX12_end_8 : decode cX12_end 8 = .ok (.aload_n 0, 1) := by decide +kernel
theorem dX12_end_9 : decode cX12_end 9 = .ok (.getfield 220, 3) := by decide +kernel
theorem dX12_end_12 : decode cX12_end 12 = .ok (.invokevirtual 206, 3) := by decide +kernel
theorem dX12_end_15 : decode cX12_end 15 = .ok (.ifCond .ne 5, 3) := by decide +kernel
theorem dX12_end_18 : decode cX12_end 18 = .ok (.iconst 0, 1) := by decide +kernel
theorem dX12_end_19 : decode cX12_end 19 = .ok (.ireturn, 1) := by decide +kernel
theorem dX12_end_20 : decode cX12_end 20 = .ok (.aload_n 0, 1) := by decide +kernel
theorem dX12_end_21 : decode cX12_end 21 = .ok (.iload_n 1, 1) := by decide +kernel
theorem dX12_end_22 : decode cX12_end 22 = .ok (.putfield 220, 3) := by decide +kernel
theorem dX12_end_25 : decode cX12_end 25 = .ok (.iconst 1, 1) := by decide +kernel
theorem dX12_end_26 : decode cX12_end 26 = .ok (.ireturn, 1) := by decide +kernel
theorem dX12_raw_0 : decode cX12_raw 0 = .ok (.iload_n 1, 1) := by decide +kernel
theorem dX12_raw_1 : decode cX12_raw 1 = .ok (.aload_n 0, 1) := by decide +kernel
theorem dX12_raw_2 : decode cX12_raw 2 = .ok (.getfield 220, 3) := by decide +kernel
theorem dX12_raw_5 : decode cX12_raw 5 = .ok (.if_icmp .ge 12, 3) := by decide +kernel
theorem dX12_raw_8 : decode cX12_raw 8 = .ok (.aload_n 0, 1) := by decide +kernel
theorem dX12_raw_9 : decode cX12_raw 9 = .ok (.getfield 31, 3) := by decide +kernel
theorem dX12_raw_12 : decode cX12_raw 12 = .ok (.iload_n 1, 1) := by decide +kernel
theorem dX12_raw_13 : decode cX12_raw 13 = .ok (.iaload, 1) := by decide +kernel
theorem dX12_raw_14 : decode cX12_raw 14 = .ok (.goto 4, 3) := by decide +kernel
theorem dX12_raw_17 : decode cX12_raw 17 = .ok (.iconst (-1), 1) := by decide +kernel
theorem dX12_raw_18 : decode cX12_raw 18 = .ok (.ireturn, 1) := by decide +kernel
theorem dX12_isLetter_0 : decode cX12_isLetter 0 = .ok (.aload_n 0, 1) := by decide +kernel
theorem dX12_isLetter_1 : decode cX12_isLetter 1 = .ok (.iload_n 1, 1) := by decide +kernel
theorem dX12_isLetter_2 : decode cX12_isLetter 2 = .ok (.bipush 97, 2) := by decide +kernel
theorem dX12_isLetter_4 : decode cX12_isLetter 4 = .ok (.bipush 122, 2) := by decide +kernel
theorem dX12_isLetter_6 : decode cX12_isLetter 6 = .ok (.invokevirtual 206, 3) := by decide +kernel
theorem dX12_isLetter_9 : decode cX12_isLetter 9 = .ok (.ifCond .ne 15, 3) := by decide +kernel
theorem dX12_isLetter_12 : decode cX12_isLetter 12 = .ok (.aload_n 0, 1) := by decide +kernel
theorem dX12_isLetter_13 : decode cX12_isLetter 13 = .ok (.iload_n 1, 1) := by decide +kernel
theorem dX12_isLetter_14 : decode cX12_isLetter 14 = .ok (.bipush 65, 2) := by decide +kernel
theorem dX12_isLetter_16 : decode cX12_isLetter 16 = .ok (.bipush 90, 2) := by decide +kernel
theorem dX12_isLetter_18 : decode cX12_isLetter 18 = .ok (.invokevirtual 206, 3) := by decide +kernel
theorem dX12_isLetter_21 : decode cX12_isLetter 21 = .ok (.ifCond .eq 7, 3) := by decide +kernel
theorem dX12_isLetter_24 : decode cX12_isLetter 24 = .ok (.iconst 1, 1) := by decide +kernel
theorem dX12_isLetter_25 : decode cX12_isLetter 25 = .ok (.goto 4, 3) := by decide +kernel
theorem dX12_isLetter_28 : decode cX12_isLetter 28 = .ok (.iconst 0, 1) := by decide +kernel
theorem dX12_isLetter_29 : decode cX12_isLetter 29 = .ok (.ireturn, 1) := by decide +kernel
theorem dX12_isDigit_0 : decode cX12_isDigit 0 = .ok (.aload_n 0, 1) := by decide +kernel
theorem dX12_isDigit_1 : decode cX12_isDigit 1 = .ok (.iload_n 1, 1) := by decide +kernel
theorem dX12_isDigit_2 : decode cX12_isDigit 2 = .ok (.bipush 48, 2) := by decide +kernel
theorem dX12_isDigit_4 : decode cX12_isDigit 4 = .ok (.bipush 57, 2) := by decide +kernel
theorem dX12_isDigit_6 : decode cX12_isDigit 6 = .ok (.invokevirtual 206, 3) := by decide +kernel
theorem dX12_isDigit_9 : decode cX12_isDigit 9 = .ok (.ireturn, 1) := by decide +kernel
theorem dX12_isMarkSign_0 : decode cX12_isMarkSign 0 = .ok (.iload_n 1, 1) := by decide +kernel
theorem dX12_isMarkSign_1 : decode cX12_isMarkSign 1 = .ok (.bipush 59, 2) := by decide +kernel
theorem dX12_isMarkSign_3 : decode cX12_isMarkSign 3 = .ok (.if_icmp .eq 57, 3) := by decide +kernel
theorem dX12_isMarkSign_6 : decode cX12_isMarkSign 6 = .ok (.iload_n 1, 1) := by decide +kernel
theorem dX12_isMarkSign_7 : decode cX12_isMarkSign 7 = .ok (.bipush 43, 2) := by decide +kernel
theorem dX12_isMarkSign_9 : decode cX12_isMarkSign 9 = .ok (.if_icmp .eq 51, 3) := by decide +kernel
theorem dX12_isMarkSign_12 : decode cX12_isMarkSign 12 = .ok (.iload_n 1, 1) := by decide +kernel
theorem dX12_isMarkSign_13 : decode cX12_isMarkSign 13 = .ok (.bipush 45, 2) := by decide +kernel
theorem dX12_isMarkSign_15 : decode cX12_isMarkSign 15 = .ok (.if_icmp .eq 45, 3) := by decide +kernel
theorem dX12_isMarkSign_18 : decode cX12_isMarkSign 18 = .ok (.iload_n 1, 1) := by decide +kernel
theorem dX12_isMarkSign_19 : decode cX12_isMarkSign 19 = .ok (.bipush 42, 2) := by decide +kernel
theorem dX12_isMarkSign_21 : decode cX12_isMarkSign 21 = .ok (.if_icmp .eq 39, 3) := by decide +kernel
theorem dX12_isMarkSign_24 : decode cX12_isMarkSign 24 = .ok (.iload_n 1, 1) := by decide +kernel
theorem dX12_isMarkSign_25 : decode cX12_isMarkSign 25 = .ok (.bipush 47, 2) := by decide +kernel
theorem dX12_isMarkSign_27 : decode cX12_isMarkSign 27 = .ok (.if_icmp .eq 33, 3) := by decide +kernel
theorem dX12_isMarkSign_30 : decode cX12_isMarkSign 30 = .ok (.iload_n 1, 1) := by decide +kernel
theorem dX12_isMarkSign_31 : decode cX12_isMarkSign 31 = .ok (.bipush 40, 2) := by decide +kernel
theorem dX12_isMarkSign_33 : decode cX12_isMarkSign 33 = .ok (.if_icmp .eq 27, 3) := by decide +kernel
theorem dX12_isMarkSign_36 : decode cX12_isMarkSign 36 = .ok (.iload_n 1, 1) := by decide +kernel
theorem dX12_isMarkSign_37 : decode cX12_isMarkSign 37 = .ok (.bipush 41, 2) := by decide +kernel
theorem dX12_isMarkSign_39 : decode cX12_isMarkSign 39 = .ok (.if_icmp .eq 21, 3) := by decide +kernel
theorem dX12_isMarkSign_42 : decode cX12_isMarkSign 42 = .ok (.iload_n 1, 1) := by decide +kernel
theorem dX12_isMarkSign_43 : decode cX12_isMarkSign 43 = .ok (.bipush 60, 2) := by decide +kernel
theorem dX12_isMarkSign_45 : decode cX12_isMarkSign 45 = .ok (.if_icmp .eq 15, 3) := by decide +kernel
theorem dX12_isMarkSign_48 : decode cX12_isMarkSign 48 = .ok (.iload_n 1, 1) := by decide +kernel
theorem dX12_isMarkSign_49 : decode cX12_isMarkSign 49 = .ok (.bipush 61, 2) := by decide +kernel
theorem dX12_isMarkSign_51 : decode cX12_isMarkSign 51 = .ok (.if_icmp .eq 9, 3) := by decide +kernel
theorem dX12_isMarkSign_54 : decode cX12_isMarkSign 54 = .ok (.iload_n 1, 1) := by decide +kernel
theorem dX12_isMarkSign_55 : decode cX12_isMarkSign 55 = .ok (.bipush 62, 2) := by decide +kernel
theorem dX12_isMarkSign_57 : decode cX12_isMarkSign 57 = .ok (.if_icmp .ne 7, 3) := by decide +kernel
theorem dX12_isMarkSign_60 : decode cX12_isMarkSign 60 = .ok (.iconst 1, 1) := by decide +kernel
theorem dX12_isMarkSign_61 : decode cX12_isMarkSign 61 = .ok (.goto 4, 3) := by decide +kernel
theorem dX12_isMarkSign_64 : decode cX12_isMarkSign 64 = .ok (.iconst 0, 1) := by decide +kernel
theorem dX12_isMarkSign_65 : decode cX12_isMarkSign 65 = .ok (.ireturn, 1) := by decide +kernel
theorem dX12_wordAt_0 : decode cX12_wordAt 0 = .ok (.iconst (-1), 1) := by decide +kernel
theorem dX12_wordAt_1 : decode cX12_wordAt 1 = .ok (.istore_n 3, 1) := by decide +kernel
theorem dX12_wordAt_2 : decode cX12_wordAt 2 = .ok (.iconst 0, 1) := by decide +kernel
theorem dX12_wordAt_3 : decode cX12_wordAt 3 = .ok (.istore 4, 2) := by decide +kernel
theorem dX12_wordAt_5 : decode cX12_wordAt 5 = .ok (.iload 4, 2) := by decide +kernel
theorem dX12_wordAt_7 : decode cX12_wordAt 7 = .ok (.sipush 151, 3) := by decide +kernel
theorem dX12_wordAt_10 : decode cX12_wordAt 10 = .ok (.if_icmp .ge 108, 3) := by decide +kernel
theorem dX12_wordAt_13 : decode cX12_wordAt 13 = .ok (.iconst 0, 1) := by decide +kernel
theorem dX12_wordAt_14 : decode cX12_wordAt 14 = .ok (.istore 5, 2) := by decide +kernel
theorem dX12_wordAt_16 : decode cX12_wordAt 16 = .ok (.iload_n 3, 1) := by decide +kernel
theorem dX12_wordAt_17 : decode cX12_wordAt 17 = .ok (.iconst 1, 1) := by decide +kernel
theorem dX12_wordAt_18 : decode cX12_wordAt 18 = .ok (.iadd, 1) := by decide +kernel
theorem dX12_wordAt_19 : decode cX12_wordAt 19 = .ok (.istore_n 3, 1) := by decide +kernel
theorem dX12_wordAt_20 : decode cX12_wordAt 20 = .ok (.iload_n 1, 1) := by decide +kernel
theorem dX12_wordAt_21 : decode cX12_wordAt 21 = .ok (.iload 5, 2) := by decide +kernel
theorem dX12_wordAt_23 : decode cX12_wordAt 23 = .ok (.iadd, 1) := by decide +kernel
theorem dX12_wordAt_24 : decode cX12_wordAt 24 = .ok (.iload_n 2, 1) := by decide +kernel
theorem dX12_wordAt_25 : decode cX12_wordAt 25 = .ok (.if_icmp .ge 36, 3) := by decide +kernel
theorem dX12_wordAt_28 : decode cX12_wordAt 28 = .ok (.aload_n 0, 1) := by decide +kernel
theorem dX12_wordAt_29 : decode cX12_wordAt 29 = .ok (.getfield 34, 3) := by decide +kernel
theorem dX12_wordAt_32 : decode cX12_wordAt 32 = .ok (.iload 4, 2) := by decide +kernel
theorem dX12_wordAt_34 : decode cX12_wordAt 34 = .ok (.iconst 1, 1) := by decide +kernel
theorem dX12_wordAt_35 : decode cX12_wordAt 35 = .ok (.iadd, 1) := by decide +kernel
theorem dX12_wordAt_36 : decode cX12_wordAt 36 = .ok (.iload 5, 2) := by decide +kernel
theorem dX12_wordAt_38 : decode cX12_wordAt 38 = .ok (.iadd, 1) := by decide +kernel
theorem dX12_wordAt_39 : decode cX12_wordAt 39 = .ok (.iaload, 1) := by decide +kernel
theorem dX12_wordAt_40 : decode cX12_wordAt 40 = .ok (.aload_n 0, 1) := by decide +kernel
theorem dX12_wordAt_41 : decode cX12_wordAt 41 = .ok (.getfield 31, 3) := by decide +kernel
theorem dX12_wordAt_44 : decode cX12_wordAt 44 = .ok (.iload_n 1, 1) := by decide +kernel
theorem dX12_wordAt_45 : decode cX12_wordAt 45 = .ok (.iload 5, 2) := by decide +kernel
theorem dX12_wordAt_47 : decode cX12_wordAt 47 = .ok (.iadd, 1) := by decide +kernel
theorem dX12_wordAt_48 : decode cX12_wordAt 48 = .ok (.iaload, 1) := by decide +kernel
theorem dX12_wordAt_49 : decode cX12_wordAt 49 = .ok (.if_icmp .ne 12, 3) := by decide +kernel
theorem dX12_wordAt_52 : decode cX12_wordAt 52 = .ok (.iload 5, 2) := by decide +kernel
theorem dX12_wordAt_54 : decode cX12_wordAt 54 = .ok (.iconst 1, 1) := by decide +kernel
theorem dX12_wordAt_55 : decode cX12_wordAt 55 = .ok (.iadd, 1) := by decide +kernel
theorem dX12_wordAt_56 : decode cX12_wordAt 56 = .ok (.istore 5, 2) := by decide +kernel
theorem dX12_wordAt_58 : decode cX12_wordAt 58 = .ok (.goto (-38), 3) := by decide +kernel
theorem dX12_wordAt_61 : decode cX12_wordAt 61 = .ok (.iload_n 1, 1) := by decide +kernel
theorem dX12_wordAt_62 : decode cX12_wordAt 62 = .ok (.iload 5, 2) := by decide +kernel
theorem dX12_wordAt_64 : decode cX12_wordAt 64 = .ok (.iadd, 1) := by decide +kernel
theorem dX12_wordAt_65 : decode cX12_wordAt 65 = .ok (.iload_n 2, 1) := by decide +kernel
theorem dX12_wordAt_66 : decode cX12_wordAt 66 = .ok (.if_icmp .ne 22, 3) := by decide +kernel
theorem dX12_wordAt_69 : decode cX12_wordAt 69 = .ok (.aload_n 0, 1) := by decide +kernel
theorem dX12_wordAt_70 : decode cX12_wordAt 70 = .ok (.getfield 34, 3) := by decide +kernel
theorem dX12_wordAt_73 : decode cX12_wordAt 73 = .ok (.iload 4, 2) := by decide +kernel
theorem dX12_wordAt_75 : decode cX12_wordAt 75 = .ok (.iconst 1, 1) := by decide +kernel
theorem dX12_wordAt_76 : decode cX12_wordAt 76 = .ok (.iadd, 1) := by decide +kernel
theorem dX12_wordAt_77 : decode cX12_wordAt 77 = .ok (.iload 5, 2) := by decide +kernel
theorem dX12_wordAt_79 : decode cX12_wordAt 79 = .ok (.iadd, 1) := by decide +kernel
theorem dX12_wordAt_80 : decode cX12_wordAt 80 = .ok (.iaload, 1) := by decide +kernel
theorem dX12_wordAt_81 : decode cX12_wordAt 81 = .ok (.bipush 32, 2) := by decide +kernel
theorem dX12_wordAt_83 : decode cX12_wordAt 83 = .ok (.if_icmp .ne 5, 3) := by decide +kernel
theorem dX12_wordAt_86 : decode cX12_wordAt 86 = .ok (.iload_n 3, 1) := by decide +kernel
theorem dX12_wordAt_87 : decode cX12_wordAt 87 = .ok (.ireturn, 1) := by decide +kernel
theorem dX12_wordAt_88 : decode cX12_wordAt 88 = .ok (.iload 4, 2) := by decide +kernel
theorem dX12_wordAt_90 : decode cX12_wordAt 90 = .ok (.iconst 1, 1) := by decide +kernel
theorem dX12_wordAt_91 : decode cX12_wordAt 91 = .ok (.iadd, 1) := by decide +kernel
theorem dX12_wordAt_92 : decode cX12_wordAt 92 = .ok (.istore 4, 2) := by decide +kernel
theorem dX12_wordAt_94 : decode cX12_wordAt 94 = .ok (.aload_n 0, 1) := by decide +kernel
theorem dX12_wordAt_95 : decode cX12_wordAt 95 = .ok (.getfield 34, 3) := by decide +kernel
theorem dX12_wordAt_98 : decode cX12_wordAt 98 = .ok (.iload 4, 2) := by decide +kernel
theorem dX12_wordAt_100 : decode cX12_wordAt 100 = .ok (.iaload, 1) := by decide +kernel
theorem dX12_wordAt_101 : decode cX12_wordAt 101 = .ok (.bipush 32, 2) := by decide +kernel
theorem dX12_wordAt_103 : decode cX12_wordAt 103 = .ok (.if_icmp .eq 12, 3) := by decide +kernel
theorem dX12_wordAt_106 : decode cX12_wordAt 106 = .ok (.iload 4, 2) := by decide +kernel
theorem dX12_wordAt_108 : decode cX12_wordAt 108 = .ok (.iconst 1, 1) := by decide +kernel
theorem dX12_wordAt_109 : decode cX12_wordAt 109 = .ok (.iadd, 1) := by decide +kernel
theorem dX12_wordAt_110 : decode cX12_wordAt 110 = .ok (.istore 4, 2) := by decide +kernel
theorem dX12_wordAt_112 : decode cX12_wordAt 112 = .ok (.goto (-18), 3) := by decide +kernel
theorem dX12_wordAt_115 : decode cX12_wordAt 115 = .ok (.goto (-110), 3) := by decide +kernel
theorem dX12_wordAt_118 : decode cX12_wordAt 118 = .ok (.iconst (-1), 1) := by decide +kernel
theorem dX12_wordAt_119 : decode cX12_wordAt 119 = .ok (.ireturn, 1) := by decide +kernel
theorem dX12_reads_0 : decode cX12_reads 0 = .ok (.aload_n 0, 1) := by decide +kernel
theorem dX12_reads_1 : decode cX12_reads 1 = .ok (.aload_n 0, 1) := by decide +kernel
theorem dX12_reads_2 : decode cX12_reads 2 = .ok (.getfield 227, 3) := by decide +kernel
theorem dX12_reads_5 : decode cX12_reads 5 = .ok (.invokevirtual 230, 3) := by decide +kernel
theorem dX12_reads_8 : decode cX12_reads 8 = .ok (.bipush 32, 2) := by decide +kernel
theorem dX12_reads_10 : decode cX12_reads 10 = .ok (.if_icmp .eq 16, 3) := by decide +kernel
theorem dX12_reads_13 : decode cX12_reads 13 = .ok (.aload_n 0, 1) := by decide +kernel
theorem dX12_reads_14 : decode cX12_reads 14 = .ok (.aload_n 0, 1) := by decide +kernel
theorem dX12_reads_15 : decode cX12_reads 15 = .ok (.getfield 227, 3) := by decide +kernel
theorem dX12_reads_18 : decode cX12_reads 18 = .ok (.invokevirtual 230, 3) := by decide +kernel
theorem dX12_reads_21 : decode cX12_reads 21 = .ok (.bipush 10, 2) := by decide +kernel
theorem dX12_reads_23 : decode cX12_reads 23 = .ok (.if_icmp .ne 16, 3) := by decide +kernel
theorem dX12_reads_26 : decode cX12_reads 26 = .ok (.aload_n 0, 1) := by decide +kernel
theorem dX12_reads_27 : decode cX12_reads 27 = .ok (.aload_n 0, 1) := by decide +kernel
theorem dX12_reads_28 : decode cX12_reads 28 = .ok (.getfield 227, 3) := by decide +kernel
theorem dX12_reads_31 : decode cX12_reads 31 = .ok (.iconst 1, 1) := by decide +kernel
theorem dX12_reads_32 : decode cX12_reads 32 = .ok (.iadd, 1) := by decide +kernel
theorem dX12_reads_33 : decode cX12_reads 33 = .ok (.putfield 227, 3) := by decide +kernel
theorem dX12_reads_36 : decode cX12_reads 36 = .ok (.goto (-36), 3) := by decide +kernel
theorem dX12_reads_39 : decode cX12_reads 39 = .ok (.aload_n 0, 1) := by decide +kernel
theorem dX12_reads_40 : decode cX12_reads 40 = .ok (.aload_n 0, 1) := by decide +kernel
theorem dX12_reads_41 : decode cX12_reads 41 = .ok (.getfield 227, 3) := by decide +kernel
theorem dX12_reads_44 : decode cX12_reads 44 = .ok (.putfield 233, 3) := by decide +kernel
theorem dX12_reads_47 : decode cX12_reads 47 = .ok (.aload_n 0, 1) := by decide +kernel
theorem dX12_reads_48 : decode cX12_reads 48 = .ok (.iconst 1, 1) := by decide +kernel
theorem dX12_reads_49 : decode cX12_reads 49 = .ok (.putfield 236, 3) := by decide +kernel
theorem dX12_reads_52 : decode cX12_reads 52 = .ok (.aload_n 0, 1) := by decide +kernel
theorem dX12_reads_53 : decode cX12_reads 53 = .ok (.aload_n 0, 1) := by decide +kernel
theorem dX12_reads_54 : decode cX12_reads 54 = .ok (.getfield 227, 3) := by decide +kernel
theorem dX12_reads_57 : decode cX12_reads 57 = .ok (.invokevirtual 230, 3) := by decide +kernel
theorem dX12_reads_60 : decode cX12_reads 60 = .ok (.istore_n 1, 1) := by decide +kernel
theorem dX12_reads_61 : decode cX12_reads 61 = .ok (.iload_n 1, 1) := by decide +kernel
theorem dX12_reads_62 : decode cX12_reads 62 = .ok (.iconst (-1), 1) := by decide +kernel
theorem dX12_reads_63 : decode cX12_reads 63 = .ok (.if_icmp .ne 9, 3) := by decide +kernel
theorem dX12_reads_66 : decode cX12_reads 66 = .ok (.aload_n 0, 1) := by decide +kernel
theorem dX12_reads_67 : decode cX12_reads 67 = .ok (.iconst 0, 1) := by decide +kernel
theorem dX12_reads_68 : decode cX12_reads 68 = .ok (.putfield 236, 3) := by decide +kernel
theorem dX12_reads_71 : decode cX12_reads 71 = .ok (.return_, 1) := by decide +kernel
theorem dX12_reads_72 : decode cX12_reads 72 = .ok (.aload_n 0, 1) := by decide +kernel
theorem dX12_reads_73 : decode cX12_reads 73 = .ok (.aload_n 0, 1) := by decide +kernel
theorem dX12_reads_74 : decode cX12_reads 74 = .ok (.getfield 227, 3) := by decide +kernel
theorem dX12_reads_77 : decode cX12_reads 77 = .ok (.iconst 1, 1) := by decide +kernel
theorem dX12_reads_78 : decode cX12_reads 78 = .ok (.iadd, 1) := by decide +kernel
theorem dX12_reads_79 : decode cX12_reads 79 = .ok (.putfield 227, 3) := by decide +kernel
theorem dX12_reads_82 : decode cX12_reads 82 = .ok (.aload_n 0, 1) := by decide +kernel
theorem dX12_reads_83 : decode cX12_reads 83 = .ok (.iload_n 1, 1) := by decide +kernel
theorem dX12_reads_84 : decode cX12_reads 84 = .ok (.putfield 239, 3) := by decide +kernel
theorem dX12_reads_87 : decode cX12_reads 87 = .ok (.aload_n 0, 1) := by decide +kernel
theorem dX12_reads_88 : decode cX12_reads 88 = .ok (.iload_n 1, 1) := by decide +kernel
theorem dX12_reads_89 : decode cX12_reads 89 = .ok (.invokevirtual 242, 3) := by decide +kernel
theorem dX12_reads_92 : decode cX12_reads 92 = .ok (.ifCond .eq 63, 3) := by decide +kernel
theorem dX12_reads_95 : decode cX12_reads 95 = .ok (.aload_n 0, 1) := by decide +kernel
theorem dX12_reads_96 : decode cX12_reads 96 = .ok (.aload_n 0, 1) := by decide +kernel
theorem dX12_reads_97 : decode cX12_reads 97 = .ok (.aload_n 0, 1) := by decide +kernel
theorem dX12_reads_98 : decode cX12_reads 98 = .ok (.getfield 227, 3) := by decide +kernel
theorem dX12_reads_101 : decode cX12_reads 101 = .ok (.invokevirtual 230, 3) := by decide +kernel
theorem dX12_reads_104 : decode cX12_reads 104 = .ok (.invokevirtual 242, 3) := by decide +kernel
theorem dX12_reads_107 : decode cX12_reads 107 = .ok (.ifCond .eq 16, 3) := by decide +kernel
theorem dX12_reads_110 : decode cX12_reads 110 = .ok (.aload_n 0, 1) := by decide +kernel
theorem dX12_reads_111 : decode cX12_reads 111 = .ok (.aload_n 0, 1) := by decide +kernel
theorem dX12_reads_112 : decode cX12_reads 112 = .ok (.getfield 227, 3) := by decide +kernel
theorem dX12_reads_115 : decode cX12_reads 115 = .ok (.iconst 1, 1) := by decide +kernel
theorem dX12_reads_116 : decode cX12_reads 116 = .ok (.iadd, 1) := by decide +kernel
theorem dX12_reads_117 : decode cX12_reads 117 = .ok (.putfield 227, 3) := by decide +kernel
theorem dX12_reads_120 : decode cX12_reads 120 = .ok (.goto (-25), 3) := by decide +kernel
theorem dX12_reads_123 : decode cX12_reads 123 = .ok (.aload_n 0, 1) := by decide +kernel
theorem dX12_reads_124 : decode cX12_reads 124 = .ok (.aload_n 0, 1) := by decide +kernel
theorem dX12_reads_125 : decode cX12_reads 125 = .ok (.aload_n 0, 1) := by decide +kernel
theorem dX12_reads_126 : decode cX12_reads 126 = .ok (.getfield 233, 3) := by decide +kernel
theorem dX12_reads_129 : decode cX12_reads 129 = .ok (.aload_n 0, 1) := by decide +kernel
theorem dX12_reads_130 : decode cX12_reads 130 = .ok (.getfield 227, 3) := by decide +kernel
theorem dX12_reads_133 : decode cX12_reads 133 = .ok (.invokevirtual 245, 3) := by decide +kernel
theorem dX12_reads_136 : decode cX12_reads 136 = .ok (.putfield 239, 3) := by decide +kernel
theorem dX12_reads_139 : decode cX12_reads 139 = .ok (.aload_n 0, 1) := by decide +kernel
theorem dX12_reads_140 : decode cX12_reads 140 = .ok (.getfield 239, 3) := by decide +kernel
theorem dX12_reads_143 : decode cX12_reads 143 = .ok (.iconst (-1), 1) := by decide +kernel
theorem dX12_reads_144 : decode cX12_reads 144 = .ok (.if_icmp .eq 129, 3) := by decide +kernel
theorem dX12_reads_147 : decode cX12_reads 147 = .ok (.aload_n 0, 1) := by decide +kernel
theorem dX12_reads_148 : decode cX12_reads 148 = .ok (.iconst 2, 1) := by decide +kernel
theorem dX12_reads_149 : decode cX12_reads 149 = .ok (.putfield 236, 3) := by decide +kernel
theorem dX12_reads_152 : decode cX12_reads 152 = .ok (.goto 121, 3) := by decide +kernel
theorem dX12_reads_155 : decode cX12_reads 155 = .ok (.aload_n 0, 1) := by decide +kernel
theorem dX12_reads_156 : decode cX12_reads 156 = .ok (.iload_n 1, 1) := by decide +kernel
theorem dX12_reads_157 : decode cX12_reads 157 = .ok (.invokevirtual 249, 3) := by decide +kernel
theorem dX12_reads_160 : decode cX12_reads 160 = .ok (.ifCond .eq 100, 3) := by decide +kernel
theorem dX12_reads_163 : decode cX12_reads 163 = .ok (.aload_n 0, 1) := by decide +kernel
theorem dX12_reads_164 : decode cX12_reads 164 = .ok (.iload_n 1, 1) := by decide +kernel
theorem dX12_reads_165 : decode cX12_reads 165 = .ok (.bipush 48, 2) := by decide +kernel
theorem dX12_reads_167 : decode cX12_reads 167 = .ok (.isub, 1) := by decide +kernel
theorem dX12_reads_168 : decode cX12_reads 168 = .ok (.putfield 239, 3) := by decide +kernel
theorem dX12_reads_171 : decode cX12_reads 171 = .ok (.aload_n 0, 1) := by decide +kernel
theorem dX12_reads_172 : decode cX12_reads 172 = .ok (.aload_n 0, 1) := by decide +kernel
theorem dX12_reads_173 : decode cX12_reads 173 = .ok (.aload_n 0, 1) := by decide +kernel
theorem dX12_reads_174 : decode cX12_reads 174 = .ok (.getfield 227, 3) := by decide +kernel
theorem dX12_reads_177 : decode cX12_reads 177 = .ok (.invokevirtual 230, 3) := by decide +kernel
theorem dX12_reads_180 : decode cX12_reads 180 = .ok (.invokevirtual 249, 3) := by decide +kernel
theorem dX12_reads_183 : decode cX12_reads 183 = .ok (.ifCond .eq 56, 3) := by decide +kernel
theorem dX12_reads_186 : decode cX12_reads 186 = .ok (.aload_n 0, 1) := by decide +kernel
theorem dX12_reads_187 : decode cX12_reads 187 = .ok (.aload_n 0, 1) := by decide +kernel
theorem dX12_reads_188 : decode cX12_reads 188 = .ok (.getfield 239, 3) := by decide +kernel
theorem dX12_reads_191 : decode cX12_reads 191 = .ok (.sipush 10000, 3) := by decide +kernel
theorem dX12_reads_194 : decode cX12_reads 194 = .ok (.if_icmp .ge 25, 3) := by decide +kernel
theorem dX12_reads_197 : decode cX12_reads 197 = .ok (.bipush 10, 2) := by decide +kernel
theorem dX12_reads_199 : decode cX12_reads 199 = .ok (.aload_n 0, 1) := by decide +kernel
theorem dX12_reads_200 : decode cX12_reads 200 = .ok (.getfield 239, 3) := by decide +kernel
theorem dX12_reads_203 : decode cX12_reads 203 = .ok (.imul, 1) := by decide +kernel
theorem dX12_reads_204 : decode cX12_reads 204 = .ok (.aload_n 0, 1) := by decide +kernel
theorem dX12_reads_205 : decode cX12_reads 205 = .ok (.aload_n 0, 1) := by decide +kernel
theorem dX12_reads_206 : decode cX12_reads 206 = .ok (.getfield 227, 3) := by decide +kernel
theorem dX12_reads_209 : decode cX12_reads 209 = .ok (.invokevirtual 230, 3) := by decide +kernel
theorem dX12_reads_212 : decode cX12_reads 212 = .ok (.iadd, 1) := by decide +kernel
theorem dX12_reads_213 : decode cX12_reads 213 = .ok (.bipush 48, 2) := by decide +kernel
theorem dX12_reads_215 : decode cX12_reads 215 = .ok (.isub, 1) := by decide +kernel
theorem dX12_reads_216 : decode cX12_reads 216 = .ok (.goto 7, 3) := by decide +kernel
theorem dX12_reads_219 : decode cX12_reads 219 = .ok (.aload_n 0, 1) := by decide +kernel
theorem dX12_reads_220 : decode cX12_reads 220 = .ok (.getfield 239, 3) := by decide +kernel
theorem dX12_reads_223 : decode cX12_reads 223 = .ok (.putfield 239, 3) := by decide +kernel
theorem dX12_reads_226 : decode cX12_reads 226 = .ok (.aload_n 0, 1) := by decide +kernel
theorem dX12_reads_227 : decode cX12_reads 227 = .ok (.aload_n 0, 1) := by decide +kernel
theorem dX12_reads_228 : decode cX12_reads 228 = .ok (.getfield 227, 3) := by decide +kernel
theorem dX12_reads_231 : decode cX12_reads 231 = .ok (.iconst 1, 1) := by decide +kernel
theorem dX12_reads_232 : decode cX12_reads 232 = .ok (.iadd, 1) := by decide +kernel
theorem dX12_reads_233 : decode cX12_reads 233 = .ok (.putfield 227, 3) := by decide +kernel
theorem dX12_reads_236 : decode cX12_reads 236 = .ok (.goto (-65), 3) := by decide +kernel
theorem dX12_reads_239 : decode cX12_reads 239 = .ok (.aload_n 0, 1) := by decide +kernel
theorem dX12_reads_240 : decode cX12_reads 240 = .ok (.getfield 227, 3) := by decide +kernel
theorem dX12_reads_243 : decode cX12_reads 243 = .ok (.aload_n 0, 1) := by decide +kernel
theorem dX12_reads_244 : decode cX12_reads 244 = .ok (.getfield 233, 3) := by decide +kernel
theorem dX12_reads_247 : decode cX12_reads 247 = .ok (.isub, 1) := by decide +kernel
theorem dX12_reads_248 : decode cX12_reads 248 = .ok (.iconst 5, 1) := by decide +kernel
theorem dX12_reads_249 : decode cX12_reads 249 = .ok (.if_icmp .ge 24, 3) := by decide +kernel
theorem dX12_reads_252 : decode cX12_reads 252 = .ok (.aload_n 0, 1) := by decide +kernel
theorem dX12_reads_253 : decode cX12_reads 253 = .ok (.iconst 3, 1) := by decide +kernel
theorem dX12_reads_254 : decode cX12_reads 254 = .ok (.putfield 236, 3) := by decide +kernel
theorem dX12_reads_257 : decode cX12_reads 257 = .ok (.goto 16, 3) := by decide +kernel
theorem dX12_reads_260 : decode cX12_reads 260 = .ok (.aload_n 0, 1) := by decide +kernel
theorem dX12_reads_261 : decode cX12_reads 261 = .ok (.iload_n 1, 1) := by decide +kernel
theorem dX12_reads_262 : decode cX12_reads 262 = .ok (.invokevirtual 252, 3) := by decide +kernel
theorem dX12_reads_265 : decode cX12_reads 265 = .ok (.ifCond .eq 8, 3) := by decide +kernel
theorem dX12_reads_268 : decode cX12_reads 268 = .ok (.aload_n 0, 1) := by decide +kernel
theorem dX12_reads_269 : decode cX12_reads 269 = .ok (.iconst 4, 1) := by decide +kernel
theorem dX12_reads_270 : decode cX12_reads 270 = .ok (.putfield 236, 3) := by decide +kernel
theorem dX12_reads_273 : decode cX12_reads 273 = .ok (.return_, 1) := by decide +kernel
theorem dX12_errs_0 : decode cX12_errs 0 = .ok (.aload_n 0, 1) := by decide +kernel
theorem dX12_errs_1 : decode cX12_errs 1 = .ok (.iload_n 1, 1) := by decide +kernel
theorem dX12_errs_2 : decode cX12_errs 2 = .ok (.putfield 255, 3) := by decide +kernel
theorem dX12_errs_5 : decode cX12_errs 5 = .ok (.aload_n 0, 1) := by decide +kernel
theorem dX12_errs_6 : decode cX12_errs 6 = .ok (.aload_n 0, 1) := by decide +kernel
theorem dX12_errs_7 : decode cX12_errs 7 = .ok (.getfield 233, 3) := by decide +kernel
theorem dX12_errs_10 : decode cX12_errs 10 = .ok (.putfield 258, 3) := by decide +kernel
theorem dX12_errs_13 : decode cX12_errs 13 = .ok (.iconst (-1), 1) := by decide +kernel
theorem dX12_errs_14 : decode cX12_errs 14 = .ok (.ireturn, 1) := by decide +kernel
theorem dX12_isWord_0 : decode cX12_isWord 0 = .ok (.aload_n 0, 1) := by decide +kernel
theorem dX12_isWord_1 : decode cX12_isWord 1 = .ok (.getfield 236, 3) := by decide +kernel
theorem dX12_isWord_4 : decode cX12_isWord 4 = .ok (.iconst 2, 1) := by decide +kernel
theorem dX12_isWord_5 : decode cX12_isWord 5 = .ok (.if_icmp .ne 15, 3) := by decide +kernel
theorem dX12_isWord_8 : decode cX12_isWord 8 = .ok (.aload_n 0, 1) := by decide +kernel
theorem dX12_isWord_9 : decode cX12_isWord 9 = .ok (.getfield 239, 3) := by decide +kernel
theorem dX12_isWord_12 : decode cX12_isWord 12 = .ok (.iload_n 1, 1) := by decide +kernel
theorem dX12_isWord_13 : decode cX12_isWord 13 = .ok (.if_icmp .ne 7, 3) := by decide +kernel
theorem dX12_isWord_16 : decode cX12_isWord 16 = .ok (.iconst 1, 1) := by decide +kernel
theorem dX12_isWord_17 : decode cX12_isWord 17 = .ok (.goto 4, 3) := by decide +kernel
theorem dX12_isWord_20 : decode cX12_isWord 20 = .ok (.iconst 0, 1) := by decide +kernel
theorem dX12_isWord_21 : decode cX12_isWord 21 = .ok (.ireturn, 1) := by decide +kernel
theorem dX12_isSign_0 : decode cX12_isSign 0 = .ok (.aload_n 0, 1) := by decide +kernel
theorem dX12_isSign_1 : decode cX12_isSign 1 = .ok (.getfield 236, 3) := by decide +kernel
theorem dX12_isSign_4 : decode cX12_isSign 4 = .ok (.iconst 4, 1) := by decide +kernel
theorem dX12_isSign_5 : decode cX12_isSign 5 = .ok (.if_icmp .ne 15, 3) := by decide +kernel
theorem dX12_isSign_8 : decode cX12_isSign 8 = .ok (.aload_n 0, 1) := by decide +kernel
theorem dX12_isSign_9 : decode cX12_isSign 9 = .ok (.getfield 239, 3) := by decide +kernel
theorem dX12_isSign_12 : decode cX12_isSign 12 = .ok (.iload_n 1, 1) := by decide +kernel
theorem dX12_isSign_13 : decode cX12_isSign 13 = .ok (.if_icmp .ne 7, 3) := by decide +kernel
theorem dX12_isSign_16 : decode cX12_isSign 16 = .ok (.iconst 1, 1) := by decide +kernel
theorem dX12_isSign_17 : decode cX12_isSign 17 = .ok (.goto 4, 3) := by decide +kernel
theorem dX12_isSign_20 : decode cX12_isSign 20 = .ok (.iconst 0, 1) := by decide +kernel
theorem dX12_isSign_21 : decode cX12_isSign 21 = .ok (.ireturn, 1) := by decide +kernel
theorem dX12_emits_0 : decode cX12_emits 0 = .ok (.aload_n 0, 1) := by decide +kernel
theorem dX12_emits_1 : decode cX12_emits 1 = .ok (.getfield 52, 3) := by decide +kernel
theorem dX12_emits_4 : decode cX12_emits 4 = .ok (.sipush 800, 3) := by decide +kernel
theorem dX12_emits_7 : decode cX12_emits 7 = .ok (.aload_n 0, 1) := by decide +kernel
theorem dX12_emits_8 : decode cX12_emits 8 = .ok (.getfield 261, 3) := by decide +kernel
theorem dX12_emits_11 : decode cX12_emits 11 = .ok (.iadd, 1) := by decide +kernel
theorem dX12_emits_12 : decode cX12_emits 12 = .ok (.iload_n 1, 1) := by decide +kernel
theorem dX12_emits_13 : decode cX12_emits 13 = .ok (.iastore, 1) := by decide +kernel
theorem dX12_emits_14 : decode cX12_emits 14 = .ok (.aload_n 0, 1) := by decide +kernel
theorem dX12_emits_15 : decode cX12_emits 15 = .ok (.getfield 55, 3) := by decide +kernel
theorem dX12_emits_18 : decode cX12_emits 18 = .ok (.sipush 800, 3) := by decide +kernel
theorem dX12_emits_21 : decode cX12_emits 21 = .ok (.aload_n 0, 1) := by decide +kernel
theorem dX12_emits_22 : decode cX12_emits 22 = .ok (.getfield 261, 3) := by decide +kernel
theorem dX12_emits_25 : decode cX12_emits 25 = .ok (.iadd, 1) := by decide +kernel
theorem dX12_emits_26 : decode cX12_emits 26 = .ok (.iload_n 2, 1) := by decide +kernel
theorem dX12_emits_27 : decode cX12_emits 27 = .ok (.iastore, 1) := by decide +kernel
theorem dX12_emits_28 : decode cX12_emits 28 = .ok (.aload_n 0, 1) := by decide +kernel
theorem dX12_emits_29 : decode cX12_emits 29 = .ok (.aload_n 0, 1) := by decide +kernel
theorem dX12_emits_30 : decode cX12_emits 30 = .ok (.getfield 261, 3) := by decide +kernel
theorem dX12_emits_33 : decode cX12_emits 33 = .ok (.iconst 1, 1) := by decide +kernel
theorem dX12_emits_34 : decode cX12_emits 34 = .ok (.iadd, 1) := by decide +kernel
theorem dX12_emits_35 : decode cX12_emits 35 = .ok (.putfield 261, 3) := by decide +kernel
theorem dX12_emits_38 : decode cX12_emits 38 = .ok (.return_, 1) := by decide +kernel
theorem dX12_canAsk_0 : decode cX12_canAsk 0 = .ok (.aload_n 0, 1) := by decide +kernel
theorem dX12_canAsk_1 : decode cX12_canAsk 1 = .ok (.iload_n 1, 1) := by decide +kernel
theorem dX12_canAsk_2 : decode cX12_canAsk 2 = .ok (.bipush 7, 2) := by decide +kernel
theorem dX12_canAsk_4 : decode cX12_canAsk 4 = .ok (.bipush 16, 2) := by decide +kernel
theorem dX12_canAsk_6 : decode cX12_canAsk 6 = .ok (.invokevirtual 206, 3) := by decide +kernel
theorem dX12_canAsk_9 : decode cX12_canAsk 9 = .ok (.ireturn, 1) := by decide +kernel
theorem dX12_readUnit_0 : decode cX12_readUnit 0 = .ok (.aload_n 0, 1) := by decide +kernel
theorem dX12_readUnit_1 : decode cX12_readUnit 1 = .ok (.getfield 236, 3) := by decide +kernel
theorem dX12_readUnit_4 : decode cX12_readUnit 4 = .ok (.iconst 2, 1) := by decide +kernel
theorem dX12_readUnit_5 : decode cX12_readUnit 5 = .ok (.if_icmp .ne 18, 3) := by decide +kernel
theorem dX12_readUnit_8 : decode cX12_readUnit 8 = .ok (.aload_n 0, 1) := by decide +kernel
theorem dX12_readUnit_9 : decode cX12_readUnit 9 = .ok (.aload_n 0, 1) := by decide +kernel
theorem dX12_readUnit_10 : decode cX12_readUnit 10 = .ok (.getfield 239, 3) := by decide +kernel
theorem dX12_readUnit_13 : decode cX12_readUnit 13 = .ok (.invokevirtual 264, 3) := by decide +kernel
theorem dX12_readUnit_16 : decode cX12_readUnit 16 = .ok (.ifCond .eq 7, 3) := by decide +kernel
theorem dX12_readUnit_19 : decode cX12_readUnit 19 = .ok (.iconst 1, 1) := by decide +kernel
theorem dX12_readUnit_20 : decode cX12_readUnit 20 = .ok (.goto 4, 3) := by decide +kernel
theorem dX12_readUnit_23 : decode cX12_readUnit 23 = .ok (.iconst 0, 1) := by decide +kernel
theorem dX12_readUnit_24 : decode cX12_readUnit 24 = .ok (.istore_n 1, 1) := by decide +kernel
theorem dX12_readUnit_25 : decode cX12_readUnit 25 = .ok (.iload_n 1, 1) := by decide +kernel
theorem dX12_readUnit_26 : decode cX12_readUnit 26 = .ok (.ifCond .ne 17, 3) := by decide +kernel
theorem dX12_readUnit_29 : decode cX12_readUnit 29 = .ok (.aload_n 0, 1) := by decide +kernel
theorem dX12_readUnit_30 : decode cX12_readUnit 30 = .ok (.getfield 236, 3) := by decide +kernel
theorem dX12_readUnit_33 : decode cX12_readUnit 33 = .ok (.iconst 3, 1) := by decide +kernel
theorem dX12_readUnit_34 : decode cX12_readUnit 34 = .ok (.if_icmp .eq 9, 3) := by decide +kernel
theorem dX12_readUnit_37 : decode cX12_readUnit 37 = .ok (.aload_n 0, 1) := by decide +kernel
theorem dX12_readUnit_38 : decode cX12_readUnit 38 = .ok (.iconst 1, 1) := by decide +kernel
theorem dX12_readUnit_39 : decode cX12_readUnit 39 = .ok (.invokevirtual 267, 3) := by decide +kernel
theorem dX12_readUnit_42 : decode cX12_readUnit 42 = .ok (.ireturn, 1) := by decide +kernel
theorem dX12_readUnit_43 : decode cX12_readUnit 43 = .ok (.aload_n 0, 1) := by decide +kernel
theorem dX12_readUnit_44 : decode cX12_readUnit 44 = .ok (.iload_n 1, 1) := by decide +kernel
theorem dX12_readUnit_45 : decode cX12_readUnit 45 = .ok (.ifCond .eq 7, 3) := by decide +kernel
theorem dX12_readUnit_48 : decode cX12_readUnit 48 = .ok (.iconst 1, 1) := by decide +kernel
theorem dX12_readUnit_49 : decode cX12_readUnit 49 = .ok (.goto 4, 3) := by decide +kernel
theorem dX12_readUnit_52 : decode cX12_readUnit 52 = .ok (.iconst 0, 1) := by decide +kernel
theorem dX12_readUnit_53 : decode cX12_readUnit 53 = .ok (.iload_n 1, 1) := by decide +kernel
theorem dX12_readUnit_54 : decode cX12_readUnit 54 = .ok (.ifCond .eq 13, 3) := by decide +kernel
theorem dX12_readUnit_57 : decode cX12_readUnit 57 = .ok (.aload_n 0, 1) := by decide +kernel
theorem dX12_readUnit_58 : decode cX12_readUnit 58 = .ok (.getfield 239, 3) := by decide +kernel
theorem dX12_readUnit_61 : decode cX12_readUnit 61 = .ok (.bipush 7, 2) := by decide +kernel
theorem dX12_readUnit_63 : decode cX12_readUnit 63 = .ok (.isub, 1) := by decide +kernel
theorem dX12_readUnit_64 : decode cX12_readUnit 64 = .ok (.goto 7, 3) := by decide +kernel
theorem dX12_readUnit_67 : decode cX12_readUnit 67 = .ok (.aload_n 0, 1) := by decide +kernel
theorem dX12_readUnit_68 : decode cX12_readUnit 68 = .ok (.getfield 239, 3) := by decide +kernel
theorem dX12_readUnit_71 : decode cX12_readUnit 71 = .ok (.invokevirtual 270, 3) := by decide +kernel
theorem dX12_readUnit_74 : decode cX12_readUnit 74 = .ok (.aload_n 0, 1) := by decide +kernel
theorem dX12_readUnit_75 : decode cX12_readUnit 75 = .ok (.invokevirtual 274, 3) := by decide +kernel
theorem dX12_readUnit_78 : decode cX12_readUnit 78 = .ok (.iconst 0, 1) := by decide +kernel
theorem dX12_readUnit_79 : decode cX12_readUnit 79 = .ok (.ireturn, 1) := by decide +kernel
theorem dX12_readProduct_0 : decode cX12_readProduct 0 = .ok (.aload_n 0, 1) := by decide +kernel
theorem dX12_readProduct_1 : decode cX12_readProduct 1 = .ok (.invokevirtual 277, 3) := by decide +kernel
theorem dX12_readProduct_4 : decode cX12_readProduct 4 = .ok (.iconst (-1), 1) := by decide +kernel
theorem dX12_readProduct_5 : decode cX12_readProduct 5 = .ok (.if_icmp .ne 5, 3) := by decide +kernel
theorem dX12_readProduct_8 : decode cX12_readProduct 8 = .ok (.iconst (-1), 1) := by decide +kernel
theorem dX12_readProduct_9 : decode cX12_readProduct 9 = .ok (.ireturn, 1) := by decide +kernel
theorem dX12_readProduct_10 : decode cX12_readProduct 10 = .ok (.aload_n 0, 1) := by decide +kernel
theorem dX12_readProduct_11 : decode cX12_readProduct 11 = .ok (.bipush 42, 2) := by decide +kernel
theorem dX12_readProduct_13 : decode cX12_readProduct 13 = .ok (.invokevirtual 281, 3) := by decide +kernel
theorem dX12_readProduct_16 : decode cX12_readProduct 16 = .ok (.ifCond .ne 12, 3) := by decide +kernel
theorem dX12_readProduct_19 : decode cX12_readProduct 19 = .ok (.aload_n 0, 1) := by decide +kernel
theorem dX12_readProduct_20 : decode cX12_readProduct 20 = .ok (.bipush 47, 2) := by decide +kernel
theorem dX12_readProduct_22 : decode cX12_readProduct 22 = .ok (.invokevirtual 281, 3) := by decide +kernel
theorem dX12_readProduct_25 : decode cX12_readProduct 25 = .ok (.ifCond .eq 76, 3) := by decide +kernel
theorem dX12_readProduct_28 : decode cX12_readProduct 28 = .ok (.aload_n 0, 1) := by decide +kernel
theorem dX12_readProduct_29 : decode cX12_readProduct 29 = .ok (.bipush 42, 2) := by decide +kernel
theorem dX12_readProduct_31 : decode cX12_readProduct 31 = .ok (.invokevirtual 281, 3) := by decide +kernel
theorem dX12_readProduct_34 : decode cX12_readProduct 34 = .ok (.istore_n 1, 1) := by decide +kernel
theorem dX12_readProduct_35 : decode cX12_readProduct 35 = .ok (.aload_n 0, 1) := by decide +kernel
theorem dX12_readProduct_36 : decode cX12_readProduct 36 = .ok (.invokevirtual 274, 3) := by decide +kernel
theorem dX12_readProduct_39 : decode cX12_readProduct 39 = .ok (.iload_n 1, 1) := by decide +kernel
theorem dX12_readProduct_40 : decode cX12_readProduct 40 = .ok (.ifCond .ne 17, 3) := by decide +kernel
theorem dX12_readProduct_43 : decode cX12_readProduct 43 = .ok (.aload_n 0, 1) := by decide +kernel
theorem dX12_readProduct_44 : decode cX12_readProduct 44 = .ok (.getfield 236, 3) := by decide +kernel
theorem dX12_readProduct_47 : decode cX12_readProduct 47 = .ok (.iconst 3, 1) := by decide +kernel
theorem dX12_readProduct_48 : decode cX12_readProduct 48 = .ok (.if_icmp .eq 9, 3) := by decide +kernel
theorem dX12_readProduct_51 : decode cX12_readProduct 51 = .ok (.aload_n 0, 1) := by decide +kernel
theorem dX12_readProduct_52 : decode cX12_readProduct 52 = .ok (.iconst 1, 1) := by decide +kernel
theorem dX12_readProduct_53 : decode cX12_readProduct 53 = .ok (.invokevirtual 267, 3) := by decide +kernel
theorem dX12_readProduct_56 : decode cX12_readProduct 56 = .ok (.ireturn, 1) := by decide +kernel
theorem dX12_readProduct_57 : decode cX12_readProduct 57 = .ok (.iload_n 1, 1) := by decide +kernel
theorem dX12_readProduct_58 : decode cX12_readProduct 58 = .ok (.ifCond .ne 16, 3) := by decide +kernel
theorem dX12_readProduct_61 : decode cX12_readProduct 61 = .ok (.aload_n 0, 1) := by decide +kernel
theorem dX12_readProduct_62 : decode cX12_readProduct 62 = .ok (.getfield 239, 3) := by decide +kernel
theorem dX12_readProduct_65 : decode cX12_readProduct 65 = .ok (.ifCond .ne 9, 3) := by decide +kernel
theorem dX12_readProduct_68 : decode cX12_readProduct 68 = .ok (.aload_n 0, 1) := by decide +kernel
theorem dX12_readProduct_69 : decode cX12_readProduct 69 = .ok (.iconst 2, 1) := by decide +kernel
theorem dX12_readProduct_70 : decode cX12_readProduct 70 = .ok (.invokevirtual 267, 3) := by decide +kernel
theorem dX12_readProduct_73 : decode cX12_readProduct 73 = .ok (.ireturn, 1) := by decide +kernel
theorem dX12_readProduct_74 : decode cX12_readProduct 74 = .ok (.aload_n 0, 1) := by decide +kernel
theorem dX12_readProduct_75 : decode cX12_readProduct 75 = .ok (.invokevirtual 277, 3) := by decide +kernel
theorem dX12_readProduct_78 : decode cX12_readProduct 78 = .ok (.iconst (-1), 1) := by decide +kernel
theorem dX12_readProduct_79 : decode cX12_readProduct 79 = .ok (.if_icmp .ne 5, 3) := by decide +kernel
theorem dX12_readProduct_82 : decode cX12_readProduct 82 = .ok (.iconst (-1), 1) := by decide +kernel
theorem dX12_readProduct_83 : decode cX12_readProduct 83 = .ok (.ireturn, 1) := by decide +kernel
theorem dX12_readProduct_84 : decode cX12_readProduct 84 = .ok (.aload_n 0, 1) := by decide +kernel
theorem dX12_readProduct_85 : decode cX12_readProduct 85 = .ok (.iload_n 1, 1) := by decide +kernel
theorem dX12_readProduct_86 : decode cX12_readProduct 86 = .ok (.ifCond .eq 7, 3) := by decide +kernel
theorem dX12_readProduct_89 : decode cX12_readProduct 89 = .ok (.iconst 4, 1) := by decide +kernel
theorem dX12_readProduct_90 : decode cX12_readProduct 90 = .ok (.goto 4, 3) := by decide +kernel
theorem dX12_readProduct_93 : decode cX12_readProduct 93 = .ok (.iconst 5, 1) := by decide +kernel
theorem dX12_readProduct_94 : decode cX12_readProduct 94 = .ok (.iconst 0, 1) := by decide +kernel
theorem dX12_readProduct_95 : decode cX12_readProduct 95 = .ok (.invokevirtual 270, 3) := by decide +kernel
theorem dX12_readProduct_98 : decode cX12_readProduct 98 = .ok (.goto (-88), 3) := by decide +kernel
theorem dX12_readProduct_101 : decode cX12_readProduct 101 = .ok (.iconst 0, 1) := by decide +kernel
theorem dX12_readProduct_102 : decode cX12_readProduct 102 = .ok (.ireturn, 1) := by decide +kernel
theorem dX12_readSum_0 : decode cX12_readSum 0 = .ok (.aload_n 0, 1) := by decide +kernel
theorem dX12_readSum_1 : decode cX12_readSum 1 = .ok (.invokevirtual 284, 3) := by decide +kernel
theorem dX12_readSum_4 : decode cX12_readSum 4 = .ok (.iconst (-1), 1) := by decide +kernel
theorem dX12_readSum_5 : decode cX12_readSum 5 = .ok (.if_icmp .ne 5, 3) := by decide +kernel
theorem dX12_readSum_8 : decode cX12_readSum 8 = .ok (.iconst (-1), 1) := by decide +kernel
theorem dX12_readSum_9 : decode cX12_readSum 9 = .ok (.ireturn, 1) := by decide +kernel
theorem dX12_readSum_10 : decode cX12_readSum 10 = .ok (.aload_n 0, 1) := by decide +kernel
theorem dX12_readSum_11 : decode cX12_readSum 11 = .ok (.bipush 43, 2) := by decide +kernel
theorem dX12_readSum_13 : decode cX12_readSum 13 = .ok (.invokevirtual 281, 3) := by decide +kernel
theorem dX12_readSum_16 : decode cX12_readSum 16 = .ok (.ifCond .ne 12, 3) := by decide +kernel
theorem dX12_readSum_19 : decode cX12_readSum 19 = .ok (.aload_n 0, 1) := by decide +kernel
theorem dX12_readSum_20 : decode cX12_readSum 20 = .ok (.bipush 45, 2) := by decide +kernel
theorem dX12_readSum_22 : decode cX12_readSum 22 = .ok (.invokevirtual 281, 3) := by decide +kernel
theorem dX12_readSum_25 : decode cX12_readSum 25 = .ok (.ifCond .eq 41, 3) := by decide +kernel
theorem dX12_readSum_28 : decode cX12_readSum 28 = .ok (.aload_n 0, 1) := by decide +kernel
theorem dX12_readSum_29 : decode cX12_readSum 29 = .ok (.getfield 239, 3) := by decide +kernel
theorem dX12_readSum_32 : decode cX12_readSum 32 = .ok (.bipush 43, 2) := by decide +kernel
theorem dX12_readSum_34 : decode cX12_readSum 34 = .ok (.if_icmp .ne 7, 3) := by decide +kernel
theorem dX12_readSum_37 : decode cX12_readSum 37 = .ok (.iconst 2, 1) := by decide +kernel
theorem dX12_readSum_38 : decode cX12_readSum 38 = .ok (.goto 4, 3) := by decide +kernel
theorem dX12_readSum_41 : decode cX12_readSum 41 = .ok (.iconst 3, 1) := by decide +kernel
theorem dX12_readSum_42 : decode cX12_readSum 42 = .ok (.istore_n 1, 1) := by decide +kernel
theorem dX12_readSum_43 : decode cX12_readSum 43 = .ok (.aload_n 0, 1) := by decide +kernel
theorem dX12_readSum_44 : decode cX12_readSum 44 = .ok (.invokevirtual 274, 3) := by decide +kernel
theorem dX12_readSum_47 : decode cX12_readSum 47 = .ok (.aload_n 0, 1) := by decide +kernel
theorem dX12_readSum_48 : decode cX12_readSum 48 = .ok (.invokevirtual 284, 3) := by decide +kernel
theorem dX12_readSum_51 : decode cX12_readSum 51 = .ok (.iconst (-1), 1) := by decide +kernel
theorem dX12_readSum_52 : decode cX12_readSum 52 = .ok (.if_icmp .ne 5, 3) := by decide +kernel
theorem dX12_readSum_55 : decode cX12_readSum 55 = .ok (.iconst (-1), 1) := by decide +kernel
theorem dX12_readSum_56 : decode cX12_readSum 56 = .ok (.ireturn, 1) := by decide +kernel
theorem dX12_readSum_57 : decode cX12_readSum 57 = .ok (.aload_n 0, 1) := by decide +kernel
theorem dX12_readSum_58 : decode cX12_readSum 58 = .ok (.iload_n 1, 1) := by decide +kernel
theorem dX12_readSum_59 : decode cX12_readSum 59 = .ok (.iconst 0, 1) := by decide +kernel
theorem dX12_readSum_60 : decode cX12_readSum 60 = .ok (.invokevirtual 270, 3) := by decide +kernel
theorem dX12_readSum_63 : decode cX12_readSum 63 = .ok (.goto (-53), 3) := by decide +kernel
theorem dX12_readSum_66 : decode cX12_readSum 66 = .ok (.iconst 0, 1) := by decide +kernel
theorem dX12_readSum_67 : decode cX12_readSum 67 = .ok (.ireturn, 1) := by decide +kernel
theorem dX12_readCompared_0 : decode cX12_readCompared 0 = .ok (.aload_n 0, 1) := by decide +kernel
theorem dX12_readCompared_1 : decode cX12_readCompared 1 = .ok (.invokevirtual 287, 3) := by decide +kernel
theorem dX12_readCompared_4 : decode cX12_readCompared 4 = .ok (.iconst (-1), 1) := by decide +kernel
theorem dX12_readCompared_5 : decode cX12_readCompared 5 = .ok (.if_icmp .ne 5, 3) := by decide +kernel
theorem dX12_readCompared_8 : decode cX12_readCompared 8 = .ok (.iconst (-1), 1) := by decide +kernel
theorem dX12_readCompared_9 : decode cX12_readCompared 9 = .ok (.ireturn, 1) := by decide +kernel
theorem dX12_readCompared_10 : decode cX12_readCompared 10 = .ok (.aload_n 0, 1) := by decide +kernel
theorem dX12_readCompared_11 : decode cX12_readCompared 11 = .ok (.bipush 60, 2) := by decide +kernel
theorem dX12_readCompared_13 : decode cX12_readCompared 13 = .ok (.invokevirtual 281, 3) := by decide +kernel
theorem dX12_readCompared_16 : decode cX12_readCompared 16 = .ok (.ifCond .ne 27, 3) := by decide +kernel
theorem dX12_readCompared_19 : decode cX12_readCompared 19 = .ok (.aload_n 0, 1) := by decide +kernel
theorem dX12_readCompared_20 : decode cX12_readCompared 20 = .ok (.bipush 61, 2) := by decide +kernel
theorem dX12_readCompared_22 : decode cX12_readCompared 22 = .ok (.invokevirtual 281, 3) := by decide +kernel
theorem dX12_readCompared_25 : decode cX12_readCompared 25 = .ok (.ifCond .ne 18, 3) := by decide +kernel
theorem dX12_readCompared_28 : decode cX12_readCompared 28 = .ok (.aload_n 0, 1) := by decide +kernel
theorem dX12_readCompared_29 : decode cX12_readCompared 29 = .ok (.bipush 62, 2) := by decide +kernel
theorem dX12_readCompared_31 : decode cX12_readCompared 31 = .ok (.invokevirtual 281, 3) := by decide +kernel
theorem dX12_readCompared_34 : decode cX12_readCompared 34 = .ok (.ifCond .ne 9, 3) := by decide +kernel
theorem dX12_readCompared_37 : decode cX12_readCompared 37 = .ok (.aload_n 0, 1) := by decide +kernel
theorem dX12_readCompared_38 : decode cX12_readCompared 38 = .ok (.iconst 1, 1) := by decide +kernel
theorem dX12_readCompared_39 : decode cX12_readCompared 39 = .ok (.invokevirtual 267, 3) := by decide +kernel
theorem dX12_readCompared_42 : decode cX12_readCompared 42 = .ok (.ireturn, 1) := by decide +kernel
theorem dX12_readCompared_43 : decode cX12_readCompared 43 = .ok (.aload_n 0, 1) := by decide +kernel
theorem dX12_readCompared_44 : decode cX12_readCompared 44 = .ok (.getfield 239, 3) := by decide +kernel
theorem dX12_readCompared_47 : decode cX12_readCompared 47 = .ok (.bipush 60, 2) := by decide +kernel
theorem dX12_readCompared_49 : decode cX12_readCompared 49 = .ok (.if_icmp .ne 8, 3) := by decide +kernel
theorem dX12_readCompared_52 : decode cX12_readCompared 52 = .ok (.bipush 6, 2) := by decide +kernel
theorem dX12_readCompared_54 : decode cX12_readCompared 54 = .ok (.goto 19, 3) := by decide +kernel
theorem dX12_readCompared_57 : decode cX12_readCompared 57 = .ok (.aload_n 0, 1) := by decide +kernel
theorem dX12_readCompared_58 : decode cX12_readCompared 58 = .ok (.getfield 239, 3) := by decide +kernel
theorem dX12_readCompared_61 : decode cX12_readCompared 61 = .ok (.bipush 61, 2) := by decide +kernel
theorem dX12_readCompared_63 : decode cX12_readCompared 63 = .ok (.if_icmp .ne 8, 3) := by decide +kernel
theorem dX12_readCompared_66 : decode cX12_readCompared 66 = .ok (.bipush 7, 2) := by decide +kernel
theorem dX12_readCompared_68 : decode cX12_readCompared 68 = .ok (.goto 5, 3) := by decide +kernel
theorem dX12_readCompared_71 : decode cX12_readCompared 71 = .ok (.bipush 8, 2) := by decide +kernel
theorem dX12_readCompared_73 : decode cX12_readCompared 73 = .ok (.istore_n 1, 1) := by decide +kernel
theorem dX12_readCompared_74 : decode cX12_readCompared 74 = .ok (.aload_n 0, 1) := by decide +kernel
theorem dX12_readCompared_75 : decode cX12_readCompared 75 = .ok (.invokevirtual 274, 3) := by decide +kernel
theorem dX12_readCompared_78 : decode cX12_readCompared 78 = .ok (.aload_n 0, 1) := by decide +kernel
theorem dX12_readCompared_79 : decode cX12_readCompared 79 = .ok (.invokevirtual 287, 3) := by decide +kernel
theorem dX12_readCompared_82 : decode cX12_readCompared 82 = .ok (.iconst (-1), 1) := by decide +kernel
theorem dX12_readCompared_83 : decode cX12_readCompared 83 = .ok (.if_icmp .ne 5, 3) := by decide +kernel
theorem dX12_readCompared_86 : decode cX12_readCompared 86 = .ok (.iconst (-1), 1) := by decide +kernel
theorem dX12_readCompared_87 : decode cX12_readCompared 87 = .ok (.ireturn, 1) := by decide +kernel
theorem dX12_readCompared_88 : decode cX12_readCompared 88 = .ok (.aload_n 0, 1) := by decide +kernel
theorem dX12_readCompared_89 : decode cX12_readCompared 89 = .ok (.iload_n 1, 1) := by decide +kernel
theorem dX12_readCompared_90 : decode cX12_readCompared 90 = .ok (.iconst 0, 1) := by decide +kernel
theorem dX12_readCompared_91 : decode cX12_readCompared 91 = .ok (.invokevirtual 270, 3) := by decide +kernel
theorem dX12_readCompared_94 : decode cX12_readCompared 94 = .ok (.iconst 0, 1) := by decide +kernel
theorem dX12_readCompared_95 : decode cX12_readCompared 95 = .ok (.ireturn, 1) := by decide +kernel
theorem dX12_waits_0 : decode cX12_waits 0 = .ok (.aload_n 0, 1) := by decide +kernel
theorem dX12_waits_1 : decode cX12_waits 1 = .ok (.getfield 58, 3) := by decide +kernel
theorem dX12_waits_4 : decode cX12_waits 4 = .ok (.aload_n 0, 1) := by decide +kernel
theorem dX12_waits_5 : decode cX12_waits 5 = .ok (.getfield 290, 3) := by decide +kernel
theorem dX12_waits_8 : decode cX12_waits 8 = .ok (.iload_n 1, 1) := by decide +kernel
theorem dX12_waits_9 : decode cX12_waits 9 = .ok (.iastore, 1) := by decide +kernel
theorem dX12_waits_10 : decode cX12_waits 10 = .ok (.aload_n 0, 1) := by decide +kernel
theorem dX12_waits_11 : decode cX12_waits 11 = .ok (.aload_n 0, 1) := by decide +kernel
theorem dX12_waits_12 : decode cX12_waits 12 = .ok (.getfield 290, 3) := by decide +kernel
theorem dX12_waits_15 : decode cX12_waits 15 = .ok (.iconst 1, 1) := by decide +kernel
theorem dX12_waits_16 : decode cX12_waits 16 = .ok (.iadd, 1) := by decide +kernel
theorem dX12_waits_17 : decode cX12_waits 17 = .ok (.putfield 290, 3) := by decide +kernel
theorem dX12_waits_20 : decode cX12_waits 20 = .ok (.return_, 1) := by decide +kernel
theorem dX12_settles_0 : decode cX12_settles 0 = .ok (.aload_n 0, 1) := by decide +kernel
theorem dX12_settles_1 : decode cX12_settles 1 = .ok (.getfield 290, 3) := by decide +kernel
theorem dX12_settles_4 : decode cX12_settles 4 = .ok (.ifCond .le 53, 3) := by decide +kernel
theorem dX12_settles_7 : decode cX12_settles 7 = .ok (.aload_n 0, 1) := by decide +kernel
theorem dX12_settles_8 : decode cX12_settles 8 = .ok (.getfield 58, 3) := by decide +kernel
theorem dX12_settles_11 : decode cX12_settles 11 = .ok (.aload_n 0, 1) := by decide +kernel
theorem dX12_settles_12 : decode cX12_settles 12 = .ok (.getfield 290, 3) := by decide +kernel
theorem dX12_settles_15 : decode cX12_settles 15 = .ok (.iconst 1, 1) := by decide +kernel
theorem dX12_settles_16 : decode cX12_settles 16 = .ok (.isub, 1) := by decide +kernel
theorem dX12_settles_17 : decode cX12_settles 17 = .ok (.iaload, 1) := by decide +kernel
theorem dX12_settles_18 : decode cX12_settles 18 = .ok (.iload_n 1, 1) := by decide +kernel
theorem dX12_settles_19 : decode cX12_settles 19 = .ok (.if_icmp .ne 38, 3) := by decide +kernel
theorem dX12_settles_22 : decode cX12_settles 22 = .ok (.aload_n 0, 1) := by decide +kernel
theorem dX12_settles_23 : decode cX12_settles 23 = .ok (.aload_n 0, 1) := by decide +kernel
theorem dX12_settles_24 : decode cX12_settles 24 = .ok (.getfield 290, 3) := by decide +kernel
theorem dX12_settles_27 : decode cX12_settles 27 = .ok (.iconst 1, 1) := by decide +kernel
theorem dX12_settles_28 : decode cX12_settles 28 = .ok (.isub, 1) := by decide +kernel
theorem dX12_settles_29 : decode cX12_settles 29 = .ok (.putfield 290, 3) := by decide +kernel
theorem dX12_settles_32 : decode cX12_settles 32 = .ok (.aload_n 0, 1) := by decide +kernel
theorem dX12_settles_33 : decode cX12_settles 33 = .ok (.iload_n 1, 1) := by decide +kernel
theorem dX12_settles_34 : decode cX12_settles 34 = .ok (.iconst 0, 1) := by decide +kernel
theorem dX12_settles_35 : decode cX12_settles 35 = .ok (.invokevirtual 270, 3) := by decide +kernel
theorem dX12_settles_38 : decode cX12_settles 38 = .ok (.iload_n 1, 1) := by decide +kernel
theorem dX12_settles_39 : decode cX12_settles 39 = .ok (.bipush 9, 2) := by decide +kernel
theorem dX12_settles_41 : decode cX12_settles 41 = .ok (.if_icmp .ne (-41), 3) := by decide +kernel
theorem dX12_settles_44 : decode cX12_settles 44 = .ok (.aload_n 0, 1) := by decide +kernel
theorem dX12_settles_45 : decode cX12_settles 45 = .ok (.aload_n 0, 1) := by decide +kernel
theorem dX12_settles_46 : decode cX12_settles 46 = .ok (.getfield 293, 3) := by decide +kernel
theorem dX12_settles_49 : decode cX12_settles 49 = .ok (.iconst 1, 1) := by decide +kernel
theorem dX12_settles_50 : decode cX12_settles 50 = .ok (.isub, 1) := by decide +kernel
theorem dX12_settles_51 : decode cX12_settles 51 = .ok (.putfield 293, 3) := by decide +kernel
theorem dX12_settles_54 : decode cX12_settles 54 = .ok (.goto (-54), 3) := by decide +kernel
theorem dX12_settles_57 : decode cX12_settles 57 = .ok (.return_, 1) := by decide +kernel
theorem dX12_readAny_0 : decode cX12_readAny 0 = .ok (.iconst 0, 1) := by decide +kernel
theorem dX12_readAny_1 : decode cX12_readAny 1 = .ok (.istore_n 1, 1) := by decide +kernel
theorem dX12_readAny_2 : decode cX12_readAny 2 = .ok (.aload_n 0, 1) := by decide +kernel
theorem dX12_readAny_3 : decode cX12_readAny 3 = .ok (.iconst 0, 1) := by decide +kernel
theorem dX12_readAny_4 : decode cX12_readAny 4 = .ok (.putfield 290, 3) := by decide +kernel
theorem dX12_readAny_7 : decode cX12_readAny 7 = .ok (.iconst 1, 1) := by decide +kernel
theorem dX12_readAny_8 : decode cX12_readAny 8 = .ok (.istore_n 2, 1) := by decide +kernel
theorem dX12_readAny_9 : decode cX12_readAny 9 = .ok (.iload_n 2, 1) := by decide +kernel
theorem dX12_readAny_10 : decode cX12_readAny 10 = .ok (.ifCond .eq 99, 3) := by decide +kernel
theorem dX12_readAny_13 : decode cX12_readAny 13 = .ok (.aload_n 0, 1) := by decide +kernel
theorem dX12_readAny_14 : decode cX12_readAny 14 = .ok (.bipush 6, 2) := by decide +kernel
theorem dX12_readAny_16 : decode cX12_readAny 16 = .ok (.invokevirtual 296, 3) := by decide +kernel
theorem dX12_readAny_19 : decode cX12_readAny 19 = .ok (.istore_n 3, 1) := by decide +kernel
theorem dX12_readAny_20 : decode cX12_readAny 20 = .ok (.iload_n 3, 1) := by decide +kernel
theorem dX12_readAny_21 : decode cX12_readAny 21 = .ok (.ifCond .ne 12, 3) := by decide +kernel
theorem dX12_readAny_24 : decode cX12_readAny 24 = .ok (.aload_n 0, 1) := by decide +kernel
theorem dX12_readAny_25 : decode cX12_readAny 25 = .ok (.bipush 40, 2) := by decide +kernel
theorem dX12_readAny_27 : decode cX12_readAny 27 = .ok (.invokevirtual 281, 3) := by decide +kernel
theorem dX12_readAny_30 : decode cX12_readAny 30 = .ok (.ifCond .eq 58, 3) := by decide +kernel
theorem dX12_readAny_33 : decode cX12_readAny 33 = .ok (.aload_n 0, 1) := by decide +kernel
theorem dX12_readAny_34 : decode cX12_readAny 34 = .ok (.getfield 293, 3) := by decide +kernel
theorem dX12_readAny_37 : decode cX12_readAny 37 = .ok (.bipush 8, 2) := by decide +kernel
theorem dX12_readAny_39 : decode cX12_readAny 39 = .ok (.if_icmp .ne 9, 3) := by decide +kernel
theorem dX12_readAny_42 : decode cX12_readAny 42 = .ok (.aload_n 0, 1) := by decide +kernel
theorem dX12_readAny_43 : decode cX12_readAny 43 = .ok (.iconst 3, 1) := by decide +kernel
theorem dX12_readAny_44 : decode cX12_readAny 44 = .ok (.invokevirtual 267, 3) := by decide +kernel
theorem dX12_readAny_47 : decode cX12_readAny 47 = .ok (.ireturn, 1) := by decide +kernel
theorem dX12_readAny_48 : decode cX12_readAny 48 = .ok (.aload_n 0, 1) := by decide +kernel
theorem dX12_readAny_49 : decode cX12_readAny 49 = .ok (.aload_n 0, 1) := by decide +kernel
theorem dX12_readAny_50 : decode cX12_readAny 50 = .ok (.getfield 293, 3) := by decide +kernel
theorem dX12_readAny_53 : decode cX12_readAny 53 = .ok (.iconst 1, 1) := by decide +kernel
theorem dX12_readAny_54 : decode cX12_readAny 54 = .ok (.iadd, 1) := by decide +kernel
theorem dX12_readAny_55 : decode cX12_readAny 55 = .ok (.putfield 293, 3) := by decide +kernel
theorem dX12_readAny_58 : decode cX12_readAny 58 = .ok (.iload_n 3, 1) := by decide +kernel
theorem dX12_readAny_59 : decode cX12_readAny 59 = .ok (.ifCond .ne 7, 3) := by decide +kernel
theorem dX12_readAny_62 : decode cX12_readAny 62 = .ok (.iload_n 1, 1) := by decide +kernel
theorem dX12_readAny_63 : decode cX12_readAny 63 = .ok (.iconst 1, 1) := by decide +kernel
theorem dX12_readAny_64 : decode cX12_readAny 64 = .ok (.iadd, 1) := by decide +kernel
theorem dX12_readAny_65 : decode cX12_readAny 65 = .ok (.istore_n 1, 1) := by decide +kernel
theorem dX12_readAny_66 : decode cX12_readAny 66 = .ok (.aload_n 0, 1) := by decide +kernel
theorem dX12_readAny_67 : decode cX12_readAny 67 = .ok (.iload_n 3, 1) := by decide +kernel
theorem dX12_readAny_68 : decode cX12_readAny 68 = .ok (.ifCond .eq 8, 3) := by decide +kernel
theorem dX12_readAny_71 : decode cX12_readAny 71 = .ok (.bipush 9, 2) := by decide +kernel
theorem dX12_readAny_73 : decode cX12_readAny 73 = .ok (.goto 5, 3) := by decide +kernel
theorem dX12_readAny_76 : decode cX12_readAny 76 = .ok (.bipush 12, 2) := by decide +kernel
theorem dX12_readAny_78 : decode cX12_readAny 78 = .ok (.invokevirtual 299, 3) := by decide +kernel
theorem dX12_readAny_81 : decode cX12_readAny 81 = .ok (.aload_n 0, 1) := by decide +kernel
theorem dX12_readAny_82 : decode cX12_readAny 82 = .ok (.invokevirtual 274, 3) := by decide +kernel
theorem dX12_readAny_85 : decode cX12_readAny 85 = .ok (.goto (-76), 3) := by decide +kernel
theorem dX12_readAny_88 : decode cX12_readAny 88 = .ok (.aload_n 0, 1) := by decide +kernel
theorem dX12_readAny_89 : decode cX12_readAny 89 = .ok (.invokevirtual 302, 3) := by decide +kernel
theorem dX12_readAny_92 : decode cX12_readAny 92 = .ok (.iconst (-1), 1) := by decide +kernel
theorem dX12_readAny_93 : decode cX12_readAny 93 = .ok (.if_icmp .ne 5, 3) := by decide +kernel
theorem dX12_readAny_96 : decode cX12_readAny 96 = .ok (.iconst (-1), 1) := by decide +kernel
theorem dX12_readAny_97 : decode cX12_readAny 97 = .ok (.ireturn, 1) := by decide +kernel
theorem dX12_readAny_98 : decode cX12_readAny 98 = .ok (.aload_n 0, 1) := by decide +kernel
theorem dX12_readAny_99 : decode cX12_readAny 99 = .ok (.bipush 9, 2) := by decide +kernel
theorem dX12_readAny_101 : decode cX12_readAny 101 = .ok (.invokevirtual 305, 3) := by decide +kernel
theorem dX12_readAny_104 : decode cX12_readAny 104 = .ok (.iconst 0, 1) := by decide +kernel
theorem dX12_readAny_105 : decode cX12_readAny 105 = .ok (.istore_n 2, 1) := by decide +kernel
theorem dX12_readAny_106 : decode cX12_readAny 106 = .ok (.goto (-97), 3) := by decide +kernel
theorem dX12_readAny_109 : decode cX12_readAny 109 = .ok (.aload_n 0, 1) := by decide +kernel
theorem dX12_readAny_110 : decode cX12_readAny 110 = .ok (.iconst 5, 1) := by decide +kernel
theorem dX12_readAny_111 : decode cX12_readAny 111 = .ok (.invokevirtual 296, 3) := by decide +kernel
theorem dX12_readAny_114 : decode cX12_readAny 114 = .ok (.ifCond .eq 24, 3) := by decide +kernel
theorem dX12_readAny_117 : decode cX12_readAny 117 = .ok (.aload_n 0, 1) := by decide +kernel
theorem dX12_readAny_118 : decode cX12_readAny 118 = .ok (.bipush 10, 2) := by decide +kernel
theorem dX12_readAny_120 : decode cX12_readAny 120 = .ok (.invokevirtual 305, 3) := by decide +kernel
theorem dX12_readAny_123 : decode cX12_readAny 123 = .ok (.aload_n 0, 1) := by decide +kernel
theorem dX12_readAny_124 : decode cX12_readAny 124 = .ok (.bipush 10, 2) := by decide +kernel
theorem dX12_readAny_126 : decode cX12_readAny 126 = .ok (.invokevirtual 299, 3) := by decide +kernel
theorem dX12_readAny_129 : decode cX12_readAny 129 = .ok (.aload_n 0, 1) := by decide +kernel
theorem dX12_readAny_130 : decode cX12_readAny 130 = .ok (.invokevirtual 274, 3) := by decide +kernel
theorem dX12_readAny_133 : decode cX12_readAny 133 = .ok (.iconst 1, 1) := by decide +kernel
theorem dX12_readAny_134 : decode cX12_readAny 134 = .ok (.istore_n 2, 1) := by decide +kernel
theorem dX12_readAny_135 : decode cX12_readAny 135 = .ok (.goto (-126), 3) := by decide +kernel
theorem dX12_readAny_138 : decode cX12_readAny 138 = .ok (.aload_n 0, 1) := by decide +kernel
theorem dX12_readAny_139 : decode cX12_readAny 139 = .ok (.iconst 4, 1) := by decide +kernel
theorem dX12_readAny_140 : decode cX12_readAny 140 = .ok (.invokevirtual 296, 3) := by decide +kernel
theorem dX12_readAny_143 : decode cX12_readAny 143 = .ok (.ifCond .eq 30, 3) := by decide +kernel
theorem dX12_readAny_146 : decode cX12_readAny 146 = .ok (.aload_n 0, 1) := by decide +kernel
theorem dX12_readAny_147 : decode cX12_readAny 147 = .ok (.bipush 10, 2) := by decide +kernel
theorem dX12_readAny_149 : decode cX12_readAny 149 = .ok (.invokevirtual 305, 3) := by decide +kernel
theorem dX12_readAny_152 : decode cX12_readAny 152 = .ok (.aload_n 0, 1) := by decide +kernel
theorem dX12_readAny_153 : decode cX12_readAny 153 = .ok (.bipush 11, 2) := by decide +kernel
theorem dX12_readAny_155 : decode cX12_readAny 155 = .ok (.invokevirtual 305, 3) := by decide +kernel
theorem dX12_readAny_158 : decode cX12_readAny 158 = .ok (.aload_n 0, 1) := by decide +kernel
theorem dX12_readAny_159 : decode cX12_readAny 159 = .ok (.bipush 11, 2) := by decide +kernel
theorem dX12_readAny_161 : decode cX12_readAny 161 = .ok (.invokevirtual 299, 3) := by decide +kernel
theorem dX12_readAny_164 : decode cX12_readAny 164 = .ok (.aload_n 0, 1) := by decide +kernel
theorem dX12_readAny_165 : decode cX12_readAny 165 = .ok (.invokevirtual 274, 3) := by decide +kernel
theorem dX12_readAny_168 : decode cX12_readAny 168 = .ok (.iconst 1, 1) := by decide +kernel
theorem dX12_readAny_169 : decode cX12_readAny 169 = .ok (.istore_n 2, 1) := by decide +kernel
theorem dX12_readAny_170 : decode cX12_readAny 170 = .ok (.goto (-161), 3) := by decide +kernel
theorem dX12_readAny_173 : decode cX12_readAny 173 = .ok (.aload_n 0, 1) := by decide +kernel
theorem dX12_readAny_174 : decode cX12_readAny 174 = .ok (.bipush 10, 2) := by decide +kernel
theorem dX12_readAny_176 : decode cX12_readAny 176 = .ok (.invokevirtual 305, 3) := by decide +kernel
theorem dX12_readAny_179 : decode cX12_readAny 179 = .ok (.aload_n 0, 1) := by decide +kernel
theorem dX12_readAny_180 : decode cX12_readAny 180 = .ok (.bipush 11, 2) := by decide +kernel
theorem dX12_readAny_182 : decode cX12_readAny 182 = .ok (.invokevirtual 305, 3) := by decide +kernel
theorem dX12_readAny_185 : decode cX12_readAny 185 = .ok (.iload_n 1, 1) := by decide +kernel
theorem dX12_readAny_186 : decode cX12_readAny 186 = .ok (.ifCond .ne 5, 3) := by decide +kernel
theorem dX12_readAny_189 : decode cX12_readAny 189 = .ok (.iconst 0, 1) := by decide +kernel
theorem dX12_readAny_190 : decode cX12_readAny 190 = .ok (.ireturn, 1) := by decide +kernel
theorem dX12_readAny_191 : decode cX12_readAny 191 = .ok (.aload_n 0, 1) := by decide +kernel
theorem dX12_readAny_192 : decode cX12_readAny 192 = .ok (.bipush 41, 2) := by decide +kernel
theorem dX12_readAny_194 : decode cX12_readAny 194 = .ok (.invokevirtual 281, 3) := by decide +kernel
theorem dX12_readAny_197 : decode cX12_readAny 197 = .ok (.ifCond .ne 9, 3) := by decide +kernel
theorem dX12_readAny_200 : decode cX12_readAny 200 = .ok (.aload_n 0, 1) := by decide +kernel
theorem dX12_readAny_201 : decode cX12_readAny 201 = .ok (.iconst 1, 1) := by decide +kernel
theorem dX12_readAny_202 : decode cX12_readAny 202 = .ok (.invokevirtual 267, 3) := by decide +kernel
theorem dX12_readAny_205 : decode cX12_readAny 205 = .ok (.ireturn, 1) := by decide +kernel
theorem dX12_readAny_206 : decode cX12_readAny 206 = .ok (.aload_n 0, 1) := by decide +kernel
theorem dX12_readAny_207 : decode cX12_readAny 207 = .ok (.aload_n 0, 1) := by decide +kernel
theorem dX12_readAny_208 : decode cX12_readAny 208 = .ok (.getfield 290, 3) := by decide +kernel
theorem dX12_readAny_211 : decode cX12_readAny 211 = .ok (.iconst 1, 1) := by decide +kernel
theorem dX12_readAny_212 : decode cX12_readAny 212 = .ok (.isub, 1) := by decide +kernel
theorem dX12_readAny_213 : decode cX12_readAny 213 = .ok (.putfield 290, 3) := by decide +kernel
theorem dX12_readAny_216 : decode cX12_readAny 216 = .ok (.iload_n 1, 1) := by decide +kernel
theorem dX12_readAny_217 : decode cX12_readAny 217 = .ok (.iconst 1, 1) := by decide +kernel
theorem dX12_readAny_218 : decode cX12_readAny 218 = .ok (.isub, 1) := by decide +kernel
theorem dX12_readAny_219 : decode cX12_readAny 219 = .ok (.istore_n 1, 1) := by decide +kernel
theorem dX12_readAny_220 : decode cX12_readAny 220 = .ok (.aload_n 0, 1) := by decide +kernel
theorem dX12_readAny_221 : decode cX12_readAny 221 = .ok (.aload_n 0, 1) := by decide +kernel
theorem dX12_readAny_222 : decode cX12_readAny 222 = .ok (.getfield 293, 3) := by decide +kernel
theorem dX12_readAny_225 : decode cX12_readAny 225 = .ok (.iconst 1, 1) := by decide +kernel
theorem dX12_readAny_226 : decode cX12_readAny 226 = .ok (.isub, 1) := by decide +kernel
theorem dX12_readAny_227 : decode cX12_readAny 227 = .ok (.putfield 293, 3) := by decide +kernel
theorem dX12_readAny_230 : decode cX12_readAny 230 = .ok (.aload_n 0, 1) := by decide +kernel
theorem dX12_readAny_231 : decode cX12_readAny 231 = .ok (.bipush 9, 2) := by decide +kernel
theorem dX12_readAny_233 : decode cX12_readAny 233 = .ok (.invokevirtual 305, 3) := by decide +kernel
theorem dX12_readAny_236 : decode cX12_readAny 236 = .ok (.aload_n 0, 1) := by decide +kernel
theorem dX12_readAny_237 : decode cX12_readAny 237 = .ok (.invokevirtual 274, 3) := by decide +kernel
theorem dX12_readAny_240 : decode cX12_readAny 240 = .ok (.goto (-231), 3) := by decide +kernel
theorem dX12_isLineWord_0 : decode cX12_isLineWord 0 = .ok (.aload_n 0, 1) := by decide +kernel
theorem dX12_isLineWord_1 : decode cX12_isLineWord 1 = .ok (.getfield 236, 3) := by decide +kernel
theorem dX12_isLineWord_4 : decode cX12_isLineWord 4 = .ok (.iconst 2, 1) := by decide +kernel
theorem dX12_isLineWord_5 : decode cX12_isLineWord 5 = .ok (.if_icmp .ne 20, 3) := by decide +kernel
theorem dX12_isLineWord_8 : decode cX12_isLineWord 8 = .ok (.aload_n 0, 1) := by decide +kernel
theorem dX12_isLineWord_9 : decode cX12_isLineWord 9 = .ok (.aload_n 0, 1) := by decide +kernel
theorem dX12_isLineWord_10 : decode cX12_isLineWord 10 = .ok (.getfield 239, 3) := by decide +kernel
theorem dX12_isLineWord_13 : decode cX12_isLineWord 13 = .ok (.iconst 0, 1) := by decide +kernel
theorem dX12_isLineWord_14 : decode cX12_isLineWord 14 = .ok (.iconst 2, 1) := by decide +kernel
theorem dX12_isLineWord_15 : decode cX12_isLineWord 15 = .ok (.invokevirtual 206, 3) := by decide +kernel
theorem dX12_isLineWord_18 : decode cX12_isLineWord 18 = .ok (.ifCond .eq 7, 3) := by decide +kernel
theorem dX12_isLineWord_21 : decode cX12_isLineWord 21 = .ok (.iconst 1, 1) := by decide +kernel
theorem dX12_isLineWord_22 : decode cX12_isLineWord 22 = .ok (.goto 4, 3) := by decide +kernel
theorem dX12_isLineWord_25 : decode cX12_isLineWord 25 = .ok (.iconst 0, 1) := by decide +kernel
theorem dX12_isLineWord_26 : decode cX12_isLineWord 26 = .ok (.ireturn, 1) := by decide +kernel
theorem dX12_readLaw_0 : decode cX12_readLaw 0 = .ok (.iconst 0, 1) := by decide +kernel
theorem dX12_readLaw_1 : decode cX12_readLaw 1 = .ok (.istore_n 1, 1) := by decide +kernel
theorem dX12_readLaw_2 : decode cX12_readLaw 2 = .ok (.aload_n 0, 1) := by decide +kernel
theorem dX12_readLaw_3 : decode cX12_readLaw 3 = .ok (.invokevirtual 308, 3) := by decide +kernel
theorem dX12_readLaw_6 : decode cX12_readLaw 6 = .ok (.ifCond .eq 122, 3) := by decide +kernel
theorem dX12_readLaw_9 : decode cX12_readLaw 9 = .ok (.iload_n 1, 1) := by decide +kernel
theorem dX12_readLaw_10 : decode cX12_readLaw 10 = .ok (.bipush 16, 2) := by decide +kernel
theorem dX12_readLaw_12 : decode cX12_readLaw 12 = .ok (.if_icmp .ne 9, 3) := by decide +kernel
theorem dX12_readLaw_15 : decode cX12_readLaw 15 = .ok (.aload_n 0, 1) := by decide +kernel
theorem dX12_readLaw_16 : decode cX12_readLaw 16 = .ok (.iconst 3, 1) := by decide +kernel
theorem dX12_readLaw_17 : decode cX12_readLaw 17 = .ok (.invokevirtual 267, 3) := by decide +kernel
theorem dX12_readLaw_20 : decode cX12_readLaw 20 = .ok (.ireturn, 1) := by decide +kernel
theorem dX12_readLaw_21 : decode cX12_readLaw 21 = .ok (.bipush 32, 2) := by decide +kernel
theorem dX12_readLaw_23 : decode cX12_readLaw 23 = .ok (.iload_n 1, 1) := by decide +kernel
theorem dX12_readLaw_24 : decode cX12_readLaw 24 = .ok (.iadd, 1) := by decide +kernel
theorem dX12_readLaw_25 : decode cX12_readLaw 25 = .ok (.istore_n 2, 1) := by decide +kernel
theorem dX12_readLaw_26 : decode cX12_readLaw 26 = .ok (.aload_n 0, 1) := by decide +kernel
theorem dX12_readLaw_27 : decode cX12_readLaw 27 = .ok (.getfield 40, 3) := by decide +kernel
theorem dX12_readLaw_30 : decode cX12_readLaw 30 = .ok (.iload_n 2, 1) := by decide +kernel
theorem dX12_readLaw_31 : decode cX12_readLaw 31 = .ok (.aload_n 0, 1) := by decide +kernel
theorem dX12_readLaw_32 : decode cX12_readLaw 32 = .ok (.getfield 239, 3) := by decide +kernel
theorem dX12_readLaw_35 : decode cX12_readLaw 35 = .ok (.iastore, 1) := by decide +kernel
theorem dX12_readLaw_36 : decode cX12_readLaw 36 = .ok (.aload_n 0, 1) := by decide +kernel
theorem dX12_readLaw_37 : decode cX12_readLaw 37 = .ok (.invokevirtual 274, 3) := by decide +kernel
theorem dX12_readLaw_40 : decode cX12_readLaw 40 = .ok (.aload_n 0, 1) := by decide +kernel
theorem dX12_readLaw_41 : decode cX12_readLaw 41 = .ok (.getfield 43, 3) := by decide +kernel
theorem dX12_readLaw_44 : decode cX12_readLaw 44 = .ok (.iload_n 2, 1) := by decide +kernel
theorem dX12_readLaw_45 : decode cX12_readLaw 45 = .ok (.aload_n 0, 1) := by decide +kernel
theorem dX12_readLaw_46 : decode cX12_readLaw 46 = .ok (.getfield 261, 3) := by decide +kernel
theorem dX12_readLaw_49 : decode cX12_readLaw 49 = .ok (.iastore, 1) := by decide +kernel
theorem dX12_readLaw_50 : decode cX12_readLaw 50 = .ok (.aload_n 0, 1) := by decide +kernel
theorem dX12_readLaw_51 : decode cX12_readLaw 51 = .ok (.invokevirtual 287, 3) := by decide +kernel
theorem dX12_readLaw_54 : decode cX12_readLaw 54 = .ok (.iconst (-1), 1) := by decide +kernel
theorem dX12_readLaw_55 : decode cX12_readLaw 55 = .ok (.if_icmp .ne 5, 3) := by decide +kernel
theorem dX12_readLaw_58 : decode cX12_readLaw 58 = .ok (.iconst (-1), 1) := by decide +kernel
theorem dX12_readLaw_59 : decode cX12_readLaw 59 = .ok (.ireturn, 1) := by decide +kernel
theorem dX12_readLaw_60 : decode cX12_readLaw 60 = .ok (.aload_n 0, 1) := by decide +kernel
theorem dX12_readLaw_61 : decode cX12_readLaw 61 = .ok (.getfield 46, 3) := by decide +kernel
theorem dX12_readLaw_64 : decode cX12_readLaw 64 = .ok (.iload_n 2, 1) := by decide +kernel
theorem dX12_readLaw_65 : decode cX12_readLaw 65 = .ok (.aload_n 0, 1) := by decide +kernel
theorem dX12_readLaw_66 : decode cX12_readLaw 66 = .ok (.getfield 261, 3) := by decide +kernel
theorem dX12_readLaw_69 : decode cX12_readLaw 69 = .ok (.iastore, 1) := by decide +kernel
theorem dX12_readLaw_70 : decode cX12_readLaw 70 = .ok (.aload_n 0, 1) := by decide +kernel
theorem dX12_readLaw_71 : decode cX12_readLaw 71 = .ok (.iconst 3, 1) := by decide +kernel
theorem dX12_readLaw_72 : decode cX12_readLaw 72 = .ok (.invokevirtual 296, 3) := by decide +kernel
theorem dX12_readLaw_75 : decode cX12_readLaw 75 = .ok (.ifCond .eq 17, 3) := by decide +kernel
theorem dX12_readLaw_78 : decode cX12_readLaw 78 = .ok (.aload_n 0, 1) := by decide +kernel
theorem dX12_readLaw_79 : decode cX12_readLaw 79 = .ok (.invokevirtual 274, 3) := by decide +kernel
theorem dX12_readLaw_82 : decode cX12_readLaw 82 = .ok (.aload_n 0, 1) := by decide +kernel
theorem dX12_readLaw_83 : decode cX12_readLaw 83 = .ok (.invokevirtual 312, 3) := by decide +kernel
theorem dX12_readLaw_86 : decode cX12_readLaw 86 = .ok (.iconst (-1), 1) := by decide +kernel
theorem dX12_readLaw_87 : decode cX12_readLaw 87 = .ok (.if_icmp .ne 5, 3) := by decide +kernel
theorem dX12_readLaw_90 : decode cX12_readLaw 90 = .ok (.iconst (-1), 1) := by decide +kernel
theorem dX12_readLaw_91 : decode cX12_readLaw 91 = .ok (.ireturn, 1) := by decide +kernel
theorem dX12_readLaw_92 : decode cX12_readLaw 92 = .ok (.aload_n 0, 1) := by decide +kernel
theorem dX12_readLaw_93 : decode cX12_readLaw 93 = .ok (.getfield 49, 3) := by decide +kernel
theorem dX12_readLaw_96 : decode cX12_readLaw 96 = .ok (.iload_n 2, 1) := by decide +kernel
theorem dX12_readLaw_97 : decode cX12_readLaw 97 = .ok (.aload_n 0, 1) := by decide +kernel
theorem dX12_readLaw_98 : decode cX12_readLaw 98 = .ok (.getfield 261, 3) := by decide +kernel
theorem dX12_readLaw_101 : decode cX12_readLaw 101 = .ok (.iastore, 1) := by decide +kernel
theorem dX12_readLaw_102 : decode cX12_readLaw 102 = .ok (.aload_n 0, 1) := by decide +kernel
theorem dX12_readLaw_103 : decode cX12_readLaw 103 = .ok (.bipush 59, 2) := by decide +kernel
theorem dX12_readLaw_105 : decode cX12_readLaw 105 = .ok (.invokevirtual 281, 3) := by decide +kernel
theorem dX12_readLaw_108 : decode cX12_readLaw 108 = .ok (.ifCond .ne 9, 3) := by decide +kernel
theorem dX12_readLaw_111 : decode cX12_readLaw 111 = .ok (.aload_n 0, 1) := by decide +kernel
theorem dX12_readLaw_112 : decode cX12_readLaw 112 = .ok (.iconst 1, 1) := by decide +kernel
theorem dX12_readLaw_113 : decode cX12_readLaw 113 = .ok (.invokevirtual 267, 3) := by decide +kernel
theorem dX12_readLaw_116 : decode cX12_readLaw 116 = .ok (.ireturn, 1) := by decide +kernel
theorem dX12_readLaw_117 : decode cX12_readLaw 117 = .ok (.aload_n 0, 1) := by decide +kernel
theorem dX12_readLaw_118 : decode cX12_readLaw 118 = .ok (.invokevirtual 274, 3) := by decide +kernel
theorem dX12_readLaw_121 : decode cX12_readLaw 121 = .ok (.iload_n 1, 1) := by decide +kernel
theorem dX12_readLaw_122 : decode cX12_readLaw 122 = .ok (.iconst 1, 1) := by decide +kernel
theorem dX12_readLaw_123 : decode cX12_readLaw 123 = .ok (.iadd, 1) := by decide +kernel
theorem dX12_readLaw_124 : decode cX12_readLaw 124 = .ok (.istore_n 1, 1) := by decide +kernel
theorem dX12_readLaw_125 : decode cX12_readLaw 125 = .ok (.goto (-123), 3) := by decide +kernel
theorem dX12_readLaw_128 : decode cX12_readLaw 128 = .ok (.aload_n 0, 1) := by decide +kernel
theorem dX12_readLaw_129 : decode cX12_readLaw 129 = .ok (.getfield 236, 3) := by decide +kernel
theorem dX12_readLaw_132 : decode cX12_readLaw 132 = .ok (.ifCond .ne 7, 3) := by decide +kernel
theorem dX12_readLaw_135 : decode cX12_readLaw 135 = .ok (.iload_n 1, 1) := by decide +kernel
theorem dX12_readLaw_136 : decode cX12_readLaw 136 = .ok (.goto 8, 3) := by decide +kernel
theorem dX12_readLaw_139 : decode cX12_readLaw 139 = .ok (.aload_n 0, 1) := by decide +kernel
theorem dX12_readLaw_140 : decode cX12_readLaw 140 = .ok (.iconst 1, 1) := by decide +kernel
theorem dX12_readLaw_141 : decode cX12_readLaw 141 = .ok (.invokevirtual 267, 3) := by decide +kernel
theorem dX12_readLaw_144 : decode cX12_readLaw 144 = .ok (.ireturn, 1) := by decide +kernel
theorem dX12_takesLaw_0 : decode cX12_takesLaw 0 = .ok (.iconst 0, 1) := by decide +kernel
theorem dX12_takesLaw_1 : decode cX12_takesLaw 1 = .ok (.istore_n 2, 1) := by decide +kernel
theorem dX12_takesLaw_2 : decode cX12_takesLaw 2 = .ok (.iload_n 2, 1) := by decide +kernel
theorem dX12_takesLaw_3 : decode cX12_takesLaw 3 = .ok (.iload_n 1, 1) := by decide +kernel
theorem dX12_takesLaw_4 : decode cX12_takesLaw 4 = .ok (.if_icmp .ge 101, 3) := by decide +kernel
theorem dX12_takesLaw_7 : decode cX12_takesLaw 7 = .ok (.aload_n 0, 1) := by decide +kernel
theorem dX12_takesLaw_8 : decode cX12_takesLaw 8 = .ok (.getfield 40, 3) := by decide +kernel
theorem dX12_takesLaw_11 : decode cX12_takesLaw 11 = .ok (.bipush 16, 2) := by decide +kernel
theorem dX12_takesLaw_13 : decode cX12_takesLaw 13 = .ok (.aload_n 0, 1) := by decide +kernel
theorem dX12_takesLaw_14 : decode cX12_takesLaw 14 = .ok (.getfield 315, 3) := by decide +kernel
theorem dX12_takesLaw_17 : decode cX12_takesLaw 17 = .ok (.imul, 1) := by decide +kernel
theorem dX12_takesLaw_18 : decode cX12_takesLaw 18 = .ok (.iload_n 2, 1) := by decide +kernel
theorem dX12_takesLaw_19 : decode cX12_takesLaw 19 = .ok (.iadd, 1) := by decide +kernel
theorem dX12_takesLaw_20 : decode cX12_takesLaw 20 = .ok (.aload_n 0, 1) := by decide +kernel
theorem dX12_takesLaw_21 : decode cX12_takesLaw 21 = .ok (.getfield 40, 3) := by decide +kernel
theorem dX12_takesLaw_24 : decode cX12_takesLaw 24 = .ok (.bipush 32, 2) := by decide +kernel
theorem dX12_takesLaw_26 : decode cX12_takesLaw 26 = .ok (.iload_n 2, 1) := by decide +kernel
theorem dX12_takesLaw_27 : decode cX12_takesLaw 27 = .ok (.iadd, 1) := by decide +kernel
theorem dX12_takesLaw_28 : decode cX12_takesLaw 28 = .ok (.iaload, 1) := by decide +kernel
theorem dX12_takesLaw_29 : decode cX12_takesLaw 29 = .ok (.iastore, 1) := by decide +kernel
theorem dX12_takesLaw_30 : decode cX12_takesLaw 30 = .ok (.aload_n 0, 1) := by decide +kernel
theorem dX12_takesLaw_31 : decode cX12_takesLaw 31 = .ok (.getfield 43, 3) := by decide +kernel
theorem dX12_takesLaw_34 : decode cX12_takesLaw 34 = .ok (.bipush 16, 2) := by decide +kernel
theorem dX12_takesLaw_36 : decode cX12_takesLaw 36 = .ok (.aload_n 0, 1) := by decide +kernel
theorem dX12_takesLaw_37 : decode cX12_takesLaw 37 = .ok (.getfield 315, 3) := by decide +kernel
theorem dX12_takesLaw_40 : decode cX12_takesLaw 40 = .ok (.imul, 1) := by decide +kernel
theorem dX12_takesLaw_41 : decode cX12_takesLaw 41 = .ok (.iload_n 2, 1) := by decide +kernel
theorem dX12_takesLaw_42 : decode cX12_takesLaw 42 = .ok (.iadd, 1) := by decide +kernel
theorem dX12_takesLaw_43 : decode cX12_takesLaw 43 = .ok (.aload_n 0, 1) := by decide +kernel
theorem dX12_takesLaw_44 : decode cX12_takesLaw 44 = .ok (.getfield 43, 3) := by decide +kernel
theorem dX12_takesLaw_47 : decode cX12_takesLaw 47 = .ok (.bipush 32, 2) := by decide +kernel
theorem dX12_takesLaw_49 : decode cX12_takesLaw 49 = .ok (.iload_n 2, 1) := by decide +kernel
theorem dX12_takesLaw_50 : decode cX12_takesLaw 50 = .ok (.iadd, 1) := by decide +kernel
theorem dX12_takesLaw_51 : decode cX12_takesLaw 51 = .ok (.iaload, 1) := by decide +kernel
theorem dX12_takesLaw_52 : decode cX12_takesLaw 52 = .ok (.iastore, 1) := by decide +kernel
theorem dX12_takesLaw_53 : decode cX12_takesLaw 53 = .ok (.aload_n 0, 1) := by decide +kernel
theorem dX12_takesLaw_54 : decode cX12_takesLaw 54 = .ok (.getfield 46, 3) := by decide +kernel
theorem dX12_takesLaw_57 : decode cX12_takesLaw 57 = .ok (.bipush 16, 2) := by decide +kernel
theorem dX12_takesLaw_59 : decode cX12_takesLaw 59 = .ok (.aload_n 0, 1) := by decide +kernel
theorem dX12_takesLaw_60 : decode cX12_takesLaw 60 = .ok (.getfield 315, 3) := by decide +kernel
theorem dX12_takesLaw_63 : decode cX12_takesLaw 63 = .ok (.imul, 1) := by decide +kernel
theorem dX12_takesLaw_64 : decode cX12_takesLaw 64 = .ok (.iload_n 2, 1) := by decide +kernel
theorem dX12_takesLaw_65 : decode cX12_takesLaw 65 = .ok (.iadd, 1) := by decide +kernel
theorem dX12_takesLaw_66 : decode cX12_takesLaw 66 = .ok (.aload_n 0, 1) := by decide +kernel
theorem dX12_takesLaw_67 : decode cX12_takesLaw 67 = .ok (.getfield 46, 3) := by decide +kernel
theorem dX12_takesLaw_70 : decode cX12_takesLaw 70 = .ok (.bipush 32, 2) := by decide +kernel
theorem dX12_takesLaw_72 : decode cX12_takesLaw 72 = .ok (.iload_n 2, 1) := by decide +kernel
theorem dX12_takesLaw_73 : decode cX12_takesLaw 73 = .ok (.iadd, 1) := by decide +kernel
theorem dX12_takesLaw_74 : decode cX12_takesLaw 74 = .ok (.iaload, 1) := by decide +kernel
theorem dX12_takesLaw_75 : decode cX12_takesLaw 75 = .ok (.iastore, 1) := by decide +kernel
theorem dX12_takesLaw_76 : decode cX12_takesLaw 76 = .ok (.aload_n 0, 1) := by decide +kernel
theorem dX12_takesLaw_77 : decode cX12_takesLaw 77 = .ok (.getfield 49, 3) := by decide +kernel
theorem dX12_takesLaw_80 : decode cX12_takesLaw 80 = .ok (.bipush 16, 2) := by decide +kernel
theorem dX12_takesLaw_82 : decode cX12_takesLaw 82 = .ok (.aload_n 0, 1) := by decide +kernel
theorem dX12_takesLaw_83 : decode cX12_takesLaw 83 = .ok (.getfield 315, 3) := by decide +kernel
theorem dX12_takesLaw_86 : decode cX12_takesLaw 86 = .ok (.imul, 1) := by decide +kernel
theorem dX12_takesLaw_87 : decode cX12_takesLaw 87 = .ok (.iload_n 2, 1) := by decide +kernel
theorem dX12_takesLaw_88 : decode cX12_takesLaw 88 = .ok (.iadd, 1) := by decide +kernel
theorem dX12_takesLaw_89 : decode cX12_takesLaw 89 = .ok (.aload_n 0, 1) := by decide +kernel
theorem dX12_takesLaw_90 : decode cX12_takesLaw 90 = .ok (.getfield 49, 3) := by decide +kernel
theorem dX12_takesLaw_93 : decode cX12_takesLaw 93 = .ok (.bipush 32, 2) := by decide +kernel
theorem dX12_takesLaw_95 : decode cX12_takesLaw 95 = .ok (.iload_n 2, 1) := by decide +kernel
theorem dX12_takesLaw_96 : decode cX12_takesLaw 96 = .ok (.iadd, 1) := by decide +kernel
theorem dX12_takesLaw_97 : decode cX12_takesLaw 97 = .ok (.iaload, 1) := by decide +kernel
theorem dX12_takesLaw_98 : decode cX12_takesLaw 98 = .ok (.iastore, 1) := by decide +kernel
theorem dX12_takesLaw_99 : decode cX12_takesLaw 99 = .ok (.iinc 2 1, 3) := by decide +kernel
theorem dX12_takesLaw_102 : decode cX12_takesLaw 102 = .ok (.goto (-100), 3) := by decide +kernel
theorem dX12_takesLaw_105 : decode cX12_takesLaw 105 = .ok (.iconst 0, 1) := by decide +kernel
theorem dX12_takesLaw_106 : decode cX12_takesLaw 106 = .ok (.istore_n 2, 1) := by decide +kernel
theorem dX12_takesLaw_107 : decode cX12_takesLaw 107 = .ok (.iload_n 2, 1) := by decide +kernel
theorem dX12_takesLaw_108 : decode cX12_takesLaw 108 = .ok (.aload_n 0, 1) := by decide +kernel
theorem dX12_takesLaw_109 : decode cX12_takesLaw 109 = .ok (.getfield 261, 3) := by decide +kernel
theorem dX12_takesLaw_112 : decode cX12_takesLaw 112 = .ok (.if_icmp .ge 59, 3) := by decide +kernel
theorem dX12_takesLaw_115 : decode cX12_takesLaw 115 = .ok (.aload_n 0, 1) := by decide +kernel
theorem dX12_takesLaw_116 : decode cX12_takesLaw 116 = .ok (.getfield 52, 3) := by decide +kernel
theorem dX12_takesLaw_119 : decode cX12_takesLaw 119 = .ok (.sipush 400, 3) := by decide +kernel
theorem dX12_takesLaw_122 : decode cX12_takesLaw 122 = .ok (.aload_n 0, 1) := by decide +kernel
theorem dX12_takesLaw_123 : decode cX12_takesLaw 123 = .ok (.getfield 315, 3) := by decide +kernel
theorem dX12_takesLaw_126 : decode cX12_takesLaw 126 = .ok (.imul, 1) := by decide +kernel
theorem dX12_takesLaw_127 : decode cX12_takesLaw 127 = .ok (.iload_n 2, 1) := by decide +kernel
theorem dX12_takesLaw_128 : decode cX12_takesLaw 128 = .ok (.iadd, 1) := by decide +kernel
theorem dX12_takesLaw_129 : decode cX12_takesLaw 129 = .ok (.aload_n 0, 1) := by decide +kernel
theorem dX12_takesLaw_130 : decode cX12_takesLaw 130 = .ok (.getfield 52, 3) := by decide +kernel
theorem dX12_takesLaw_133 : decode cX12_takesLaw 133 = .ok (.sipush 800, 3) := by decide +kernel
theorem dX12_takesLaw_136 : decode cX12_takesLaw 136 = .ok (.iload_n 2, 1) := by decide +kernel
theorem dX12_takesLaw_137 : decode cX12_takesLaw 137 = .ok (.iadd, 1) := by decide +kernel
theorem dX12_takesLaw_138 : decode cX12_takesLaw 138 = .ok (.iaload, 1) := by decide +kernel
theorem dX12_takesLaw_139 : decode cX12_takesLaw 139 = .ok (.iastore, 1) := by decide +kernel
theorem dX12_takesLaw_140 : decode cX12_takesLaw 140 = .ok (.aload_n 0, 1) := by decide +kernel
theorem dX12_takesLaw_141 : decode cX12_takesLaw 141 = .ok (.getfield 55, 3) := by decide +kernel
theorem dX12_takesLaw_144 : decode cX12_takesLaw 144 = .ok (.sipush 400, 3) := by decide +kernel
theorem dX12_takesLaw_147 : decode cX12_takesLaw 147 = .ok (.aload_n 0, 1) := by decide +kernel
theorem dX12_takesLaw_148 : decode cX12_takesLaw 148 = .ok (.getfield 315, 3) := by decide +kernel
theorem dX12_takesLaw_151 : decode cX12_takesLaw 151 = .ok (.imul, 1) := by decide +kernel
theorem dX12_takesLaw_152 : decode cX12_takesLaw 152 = .ok (.iload_n 2, 1) := by decide +kernel
theorem dX12_takesLaw_153 : decode cX12_takesLaw 153 = .ok (.iadd, 1) := by decide +kernel
theorem dX12_takesLaw_154 : decode cX12_takesLaw 154 = .ok (.aload_n 0, 1) := by decide +kernel
theorem dX12_takesLaw_155 : decode cX12_takesLaw 155 = .ok (.getfield 55, 3) := by decide +kernel
theorem dX12_takesLaw_158 : decode cX12_takesLaw 158 = .ok (.sipush 800, 3) := by decide +kernel
theorem dX12_takesLaw_161 : decode cX12_takesLaw 161 = .ok (.iload_n 2, 1) := by decide +kernel
theorem dX12_takesLaw_162 : decode cX12_takesLaw 162 = .ok (.iadd, 1) := by decide +kernel
theorem dX12_takesLaw_163 : decode cX12_takesLaw 163 = .ok (.iaload, 1) := by decide +kernel
theorem dX12_takesLaw_164 : decode cX12_takesLaw 164 = .ok (.iastore, 1) := by decide +kernel
theorem dX12_takesLaw_165 : decode cX12_takesLaw 165 = .ok (.iinc 2 1, 3) := by decide +kernel
theorem dX12_takesLaw_168 : decode cX12_takesLaw 168 = .ok (.goto (-61), 3) := by decide +kernel
theorem dX12_takesLaw_171 : decode cX12_takesLaw 171 = .ok (.aload_n 0, 1) := by decide +kernel
theorem dX12_takesLaw_172 : decode cX12_takesLaw 172 = .ok (.getfield 37, 3) := by decide +kernel
theorem dX12_takesLaw_175 : decode cX12_takesLaw 175 = .ok (.aload_n 0, 1) := by decide +kernel
theorem dX12_takesLaw_176 : decode cX12_takesLaw 176 = .ok (.getfield 315, 3) := by decide +kernel
theorem dX12_takesLaw_179 : decode cX12_takesLaw 179 = .ok (.iload_n 1, 1) := by decide +kernel
theorem dX12_takesLaw_180 : decode cX12_takesLaw 180 = .ok (.iastore, 1) := by decide +kernel
theorem dX12_takesLaw_181 : decode cX12_takesLaw 181 = .ok (.return_, 1) := by decide +kernel
theorem dX12_readNumber_0 : decode cX12_readNumber 0 = .ok (.aload_n 0, 1) := by decide +kernel
theorem dX12_readNumber_1 : decode cX12_readNumber 1 = .ok (.getfield 236, 3) := by decide +kernel
theorem dX12_readNumber_4 : decode cX12_readNumber 4 = .ok (.iconst 3, 1) := by decide +kernel
theorem dX12_readNumber_5 : decode cX12_readNumber 5 = .ok (.if_icmp .eq 9, 3) := by decide +kernel
theorem dX12_readNumber_8 : decode cX12_readNumber 8 = .ok (.aload_n 0, 1) := by decide +kernel
theorem dX12_readNumber_9 : decode cX12_readNumber 9 = .ok (.iconst 1, 1) := by decide +kernel
theorem dX12_readNumber_10 : decode cX12_readNumber 10 = .ok (.invokevirtual 267, 3) := by decide +kernel
theorem dX12_readNumber_13 : decode cX12_readNumber 13 = .ok (.ireturn, 1) := by decide +kernel
theorem dX12_readNumber_14 : decode cX12_readNumber 14 = .ok (.aload_n 0, 1) := by decide +kernel
theorem dX12_readNumber_15 : decode cX12_readNumber 15 = .ok (.aload_n 0, 1) := by decide +kernel
theorem dX12_readNumber_16 : decode cX12_readNumber 16 = .ok (.getfield 239, 3) := by decide +kernel
theorem dX12_readNumber_19 : decode cX12_readNumber 19 = .ok (.iload_n 1, 1) := by decide +kernel
theorem dX12_readNumber_20 : decode cX12_readNumber 20 = .ok (.iload_n 2, 1) := by decide +kernel
theorem dX12_readNumber_21 : decode cX12_readNumber 21 = .ok (.invokevirtual 206, 3) := by decide +kernel
theorem dX12_readNumber_24 : decode cX12_readNumber 24 = .ok (.ifCond .ne 9, 3) := by decide +kernel
theorem dX12_readNumber_27 : decode cX12_readNumber 27 = .ok (.aload_n 0, 1) := by decide +kernel
theorem dX12_readNumber_28 : decode cX12_readNumber 28 = .ok (.iconst 2, 1) := by decide +kernel
theorem dX12_readNumber_29 : decode cX12_readNumber 29 = .ok (.invokevirtual 267, 3) := by decide +kernel
theorem dX12_readNumber_32 : decode cX12_readNumber 32 = .ok (.ireturn, 1) := by decide +kernel
theorem dX12_readNumber_33 : decode cX12_readNumber 33 = .ok (.aload_n 0, 1) := by decide +kernel
theorem dX12_readNumber_34 : decode cX12_readNumber 34 = .ok (.getfield 239, 3) := by decide +kernel
theorem dX12_readNumber_37 : decode cX12_readNumber 37 = .ok (.istore_n 3, 1) := by decide +kernel
theorem dX12_readNumber_38 : decode cX12_readNumber 38 = .ok (.aload_n 0, 1) := by decide +kernel
theorem dX12_readNumber_39 : decode cX12_readNumber 39 = .ok (.invokevirtual 274, 3) := by decide +kernel
theorem dX12_readNumber_42 : decode cX12_readNumber 42 = .ok (.iload_n 3, 1) := by decide +kernel
theorem dX12_readNumber_43 : decode cX12_readNumber 43 = .ok (.ireturn, 1) := by decide +kernel
theorem dX12_readMark_0 : decode cX12_readMark 0 = .ok (.aload_n 0, 1) := by decide +kernel
theorem dX12_readMark_1 : decode cX12_readMark 1 = .ok (.iload_n 1, 1) := by decide +kernel
theorem dX12_readMark_2 : decode cX12_readMark 2 = .ok (.invokevirtual 281, 3) := by decide +kernel
theorem dX12_readMark_5 : decode cX12_readMark 5 = .ok (.ifCond .ne 9, 3) := by decide +kernel
theorem dX12_readMark_8 : decode cX12_readMark 8 = .ok (.aload_n 0, 1) := by decide +kernel
theorem dX12_readMark_9 : decode cX12_readMark 9 = .ok (.iconst 1, 1) := by decide +kernel
theorem dX12_readMark_10 : decode cX12_readMark 10 = .ok (.invokevirtual 267, 3) := by decide +kernel
theorem dX12_readMark_13 : decode cX12_readMark 13 = .ok (.ireturn, 1) := by decide +kernel
theorem dX12_readMark_14 : decode cX12_readMark 14 = .ok (.aload_n 0, 1) := by decide +kernel
theorem dX12_readMark_15 : decode cX12_readMark 15 = .ok (.invokevirtual 274, 3) := by decide +kernel
theorem dX12_readMark_18 : decode cX12_readMark 18 = .ok (.iconst 0, 1) := by decide +kernel
theorem dX12_readMark_19 : decode cX12_readMark 19 = .ok (.ireturn, 1) := by decide +kernel
theorem dX12_readTold_0 : decode cX12_readTold 0 = .ok (.aload_n 0, 1) := by decide +kernel
theorem dX12_readTold_1 : decode cX12_readTold 1 = .ok (.iload_n 1, 1) := by decide +kernel
theorem dX12_readTold_2 : decode cX12_readTold 2 = .ok (.invokevirtual 296, 3) := by decide +kernel
theorem dX12_readTold_5 : decode cX12_readTold 5 = .ok (.ifCond .ne 9, 3) := by decide +kernel
theorem dX12_readTold_8 : decode cX12_readTold 8 = .ok (.aload_n 0, 1) := by decide +kernel
theorem dX12_readTold_9 : decode cX12_readTold 9 = .ok (.iconst 1, 1) := by decide +kernel
theorem dX12_readTold_10 : decode cX12_readTold 10 = .ok (.invokevirtual 267, 3) := by decide +kernel
theorem dX12_readTold_13 : decode cX12_readTold 13 = .ok (.ireturn, 1) := by decide +kernel
theorem dX12_readTold_14 : decode cX12_readTold 14 = .ok (.aload_n 0, 1) := by decide +kernel
theorem dX12_readTold_15 : decode cX12_readTold 15 = .ok (.invokevirtual 274, 3) := by decide +kernel
theorem dX12_readTold_18 : decode cX12_readTold 18 = .ok (.aload_n 0, 1) := by decide +kernel
theorem dX12_readTold_19 : decode cX12_readTold 19 = .ok (.iload_n 2, 1) := by decide +kernel
theorem dX12_readTold_20 : decode cX12_readTold 20 = .ok (.iload_n 3, 1) := by decide +kernel
theorem dX12_readTold_21 : decode cX12_readTold 21 = .ok (.invokevirtual 318, 3) := by decide +kernel
theorem dX12_readTold_24 : decode cX12_readTold 24 = .ok (.ireturn, 1) := by decide +kernel
theorem dX12_readCall_0 : decode cX12_readCall 0 = .ok (.aload_n 0, 1) := by decide +kernel
theorem dX12_readCall_1 : decode cX12_readCall 1 = .ok (.getfield 65, 3) := by decide +kernel
theorem dX12_readCall_4 : decode cX12_readCall 4 = .ok (.iload_n 1, 1) := by decide +kernel
theorem dX12_readCall_5 : decode cX12_readCall 5 = .ok (.aload_n 0, 1) := by decide +kernel
theorem dX12_readCall_6 : decode cX12_readCall 6 = .ok (.bipush 17, 2) := by decide +kernel
theorem dX12_readCall_8 : decode cX12_readCall 8 = .ok (.iconst 0, 1) := by decide +kernel
theorem dX12_readCall_9 : decode cX12_readCall 9 = .ok (.aload_n 0, 1) := by decide +kernel
theorem dX12_readCall_10 : decode cX12_readCall 10 = .ok (.getfield 199, 3) := by decide +kernel
theorem dX12_readCall_13 : decode cX12_readCall 13 = .ok (.iconst 1, 1) := by decide +kernel
theorem dX12_readCall_14 : decode cX12_readCall 14 = .ok (.isub, 1) := by decide +kernel
theorem dX12_readCall_15 : decode cX12_readCall 15 = .ok (.invokevirtual 321, 3) := by decide +kernel
theorem dX12_readCall_18 : decode cX12_readCall 18 = .ok (.iastore, 1) := by decide +kernel
theorem dX12_readCall_19 : decode cX12_readCall 19 = .ok (.aload_n 0, 1) := by decide +kernel
theorem dX12_readCall_20 : decode cX12_readCall 20 = .ok (.getfield 65, 3) := by decide +kernel
theorem dX12_readCall_23 : decode cX12_readCall 23 = .ok (.iload_n 1, 1) := by decide +kernel
theorem dX12_readCall_24 : decode cX12_readCall 24 = .ok (.iaload, 1) := by decide +kernel
theorem dX12_readCall_25 : decode cX12_readCall 25 = .ok (.iconst (-1), 1) := by decide +kernel
theorem dX12_readCall_26 : decode cX12_readCall 26 = .ok (.if_icmp .ne 5, 3) := by decide +kernel
theorem dX12_readCall_29 : decode cX12_readCall 29 = .ok (.iconst (-1), 1) := by decide +kernel
theorem dX12_readCall_30 : decode cX12_readCall 30 = .ok (.ireturn, 1) := by decide +kernel
theorem dX12_readCall_31 : decode cX12_readCall 31 = .ok (.aload_n 0, 1) := by decide +kernel
theorem dX12_readCall_32 : decode cX12_readCall 32 = .ok (.getfield 65, 3) := by decide +kernel
theorem dX12_readCall_35 : decode cX12_readCall 35 = .ok (.iload_n 1, 1) := by decide +kernel
theorem dX12_readCall_36 : decode cX12_readCall 36 = .ok (.iconst 1, 1) := by decide +kernel
theorem dX12_readCall_37 : decode cX12_readCall 37 = .ok (.iadd, 1) := by decide +kernel
theorem dX12_readCall_38 : decode cX12_readCall 38 = .ok (.aload_n 0, 1) := by decide +kernel
theorem dX12_readCall_39 : decode cX12_readCall 39 = .ok (.bipush 18, 2) := by decide +kernel
theorem dX12_readCall_41 : decode cX12_readCall 41 = .ok (.iconst 0, 1) := by decide +kernel
theorem dX12_readCall_42 : decode cX12_readCall 42 = .ok (.bipush 59, 2) := by decide +kernel
theorem dX12_readCall_44 : decode cX12_readCall 44 = .ok (.invokevirtual 321, 3) := by decide +kernel
theorem dX12_readCall_47 : decode cX12_readCall 47 = .ok (.iastore, 1) := by decide +kernel
theorem dX12_readCall_48 : decode cX12_readCall 48 = .ok (.aload_n 0, 1) := by decide +kernel
theorem dX12_readCall_49 : decode cX12_readCall 49 = .ok (.getfield 65, 3) := by decide +kernel
theorem dX12_readCall_52 : decode cX12_readCall 52 = .ok (.iload_n 1, 1) := by decide +kernel
theorem dX12_readCall_53 : decode cX12_readCall 53 = .ok (.iconst 1, 1) := by decide +kernel
theorem dX12_readCall_54 : decode cX12_readCall 54 = .ok (.iadd, 1) := by decide +kernel
theorem dX12_readCall_55 : decode cX12_readCall 55 = .ok (.iaload, 1) := by decide +kernel
theorem dX12_readCall_56 : decode cX12_readCall 56 = .ok (.iconst (-1), 1) := by decide +kernel
theorem dX12_readCall_57 : decode cX12_readCall 57 = .ok (.if_icmp .ne 5, 3) := by decide +kernel
theorem dX12_readCall_60 : decode cX12_readCall 60 = .ok (.iconst (-1), 1) := by decide +kernel
theorem dX12_readCall_61 : decode cX12_readCall 61 = .ok (.ireturn, 1) := by decide +kernel
theorem dX12_readCall_62 : decode cX12_readCall 62 = .ok (.aload_n 0, 1) := by decide +kernel
theorem dX12_readCall_63 : decode cX12_readCall 63 = .ok (.getfield 65, 3) := by decide +kernel
theorem dX12_readCall_66 : decode cX12_readCall 66 = .ok (.iload_n 1, 1) := by decide +kernel
theorem dX12_readCall_67 : decode cX12_readCall 67 = .ok (.iconst 2, 1) := by decide +kernel
theorem dX12_readCall_68 : decode cX12_readCall 68 = .ok (.iadd, 1) := by decide +kernel
theorem dX12_readCall_69 : decode cX12_readCall 69 = .ok (.aload_n 0, 1) := by decide +kernel
theorem dX12_readCall_70 : decode cX12_readCall 70 = .ok (.bipush 19, 2) := by decide +kernel
theorem dX12_readCall_72 : decode cX12_readCall 72 = .ok (.iconst 0, 1) := by decide +kernel
theorem dX12_readCall_73 : decode cX12_readCall 73 = .ok (.aload_n 0, 1) := by decide +kernel
theorem dX12_readCall_74 : decode cX12_readCall 74 = .ok (.getfield 196, 3) := by decide +kernel
theorem dX12_readCall_77 : decode cX12_readCall 77 = .ok (.iconst 1, 1) := by decide +kernel
theorem dX12_readCall_78 : decode cX12_readCall 78 = .ok (.isub, 1) := by decide +kernel
theorem dX12_readCall_79 : decode cX12_readCall 79 = .ok (.invokevirtual 321, 3) := by decide +kernel
theorem dX12_readCall_82 : decode cX12_readCall 82 = .ok (.iastore, 1) := by decide +kernel
theorem dX12_readCall_83 : decode cX12_readCall 83 = .ok (.aload_n 0, 1) := by decide +kernel
theorem dX12_readCall_84 : decode cX12_readCall 84 = .ok (.getfield 65, 3) := by decide +kernel
theorem dX12_readCall_87 : decode cX12_readCall 87 = .ok (.iload_n 1, 1) := by decide +kernel
theorem dX12_readCall_88 : decode cX12_readCall 88 = .ok (.iconst 2, 1) := by decide +kernel
theorem dX12_readCall_89 : decode cX12_readCall 89 = .ok (.iadd, 1) := by decide +kernel
theorem dX12_readCall_90 : decode cX12_readCall 90 = .ok (.iaload, 1) := by decide +kernel
theorem dX12_readCall_91 : decode cX12_readCall 91 = .ok (.iconst (-1), 1) := by decide +kernel
theorem dX12_readCall_92 : decode cX12_readCall 92 = .ok (.if_icmp .ne 5, 3) := by decide +kernel
theorem dX12_readCall_95 : decode cX12_readCall 95 = .ok (.iconst (-1), 1) := by decide +kernel
theorem dX12_readCall_96 : decode cX12_readCall 96 = .ok (.ireturn, 1) := by decide +kernel
theorem dX12_readCall_97 : decode cX12_readCall 97 = .ok (.aload_n 0, 1) := by decide +kernel
theorem dX12_readCall_98 : decode cX12_readCall 98 = .ok (.getfield 65, 3) := by decide +kernel
theorem dX12_readCall_101 : decode cX12_readCall 101 = .ok (.iload_n 1, 1) := by decide +kernel
theorem dX12_readCall_102 : decode cX12_readCall 102 = .ok (.iconst 3, 1) := by decide +kernel
theorem dX12_readCall_103 : decode cX12_readCall 103 = .ok (.iadd, 1) := by decide +kernel
theorem dX12_readCall_104 : decode cX12_readCall 104 = .ok (.aload_n 0, 1) := by decide +kernel
theorem dX12_readCall_105 : decode cX12_readCall 105 = .ok (.bipush 20, 2) := by decide +kernel
theorem dX12_readCall_107 : decode cX12_readCall 107 = .ok (.iconst 1, 1) := by decide +kernel
theorem dX12_readCall_108 : decode cX12_readCall 108 = .ok (.bipush 60, 2) := by decide +kernel
theorem dX12_readCall_110 : decode cX12_readCall 110 = .ok (.invokevirtual 321, 3) := by decide +kernel
theorem dX12_readCall_113 : decode cX12_readCall 113 = .ok (.iastore, 1) := by decide +kernel
theorem dX12_readCall_114 : decode cX12_readCall 114 = .ok (.aload_n 0, 1) := by decide +kernel
theorem dX12_readCall_115 : decode cX12_readCall 115 = .ok (.getfield 65, 3) := by decide +kernel
theorem dX12_readCall_118 : decode cX12_readCall 118 = .ok (.iload_n 1, 1) := by decide +kernel
theorem dX12_readCall_119 : decode cX12_readCall 119 = .ok (.iconst 3, 1) := by decide +kernel
theorem dX12_readCall_120 : decode cX12_readCall 120 = .ok (.iadd, 1) := by decide +kernel
theorem dX12_readCall_121 : decode cX12_readCall 121 = .ok (.iaload, 1) := by decide +kernel
theorem dX12_readCall_122 : decode cX12_readCall 122 = .ok (.iconst (-1), 1) := by decide +kernel
theorem dX12_readCall_123 : decode cX12_readCall 123 = .ok (.if_icmp .ne 7, 3) := by decide +kernel
theorem dX12_readCall_126 : decode cX12_readCall 126 = .ok (.iconst (-1), 1) := by decide +kernel
theorem dX12_readCall_127 : decode cX12_readCall 127 = .ok (.goto 9, 3) := by decide +kernel
theorem dX12_readCall_130 : decode cX12_readCall 130 = .ok (.aload_n 0, 1) := by decide +kernel
theorem dX12_readCall_131 : decode cX12_readCall 131 = .ok (.bipush 59, 2) := by decide +kernel
theorem dX12_readCall_133 : decode cX12_readCall 133 = .ok (.invokevirtual 325, 3) := by decide +kernel
theorem dX12_readCall_136 : decode cX12_readCall 136 = .ok (.ireturn, 1) := by decide +kernel
theorem dX12_readCalls_0 : decode cX12_readCalls 0 = .ok (.iconst 0, 1) := by decide +kernel
theorem dX12_readCalls_1 : decode cX12_readCalls 1 = .ok (.istore_n 1, 1) := by decide +kernel
theorem dX12_readCalls_2 : decode cX12_readCalls 2 = .ok (.aload_n 0, 1) := by decide +kernel
theorem dX12_readCalls_3 : decode cX12_readCalls 3 = .ok (.bipush 17, 2) := by decide +kernel
theorem dX12_readCalls_5 : decode cX12_readCalls 5 = .ok (.invokevirtual 296, 3) := by decide +kernel
theorem dX12_readCalls_8 : decode cX12_readCalls 8 = .ok (.ifCond .eq 38, 3) := by decide +kernel
theorem dX12_readCalls_11 : decode cX12_readCalls 11 = .ok (.iload_n 1, 1) := by decide +kernel
theorem dX12_readCalls_12 : decode cX12_readCalls 12 = .ok (.bipush 16, 2) := by decide +kernel
theorem dX12_readCalls_14 : decode cX12_readCalls 14 = .ok (.if_icmp .ne 9, 3) := by decide +kernel
theorem dX12_readCalls_17 : decode cX12_readCalls 17 = .ok (.aload_n 0, 1) := by decide +kernel
theorem dX12_readCalls_18 : decode cX12_readCalls 18 = .ok (.iconst 3, 1) := by decide +kernel
theorem dX12_readCalls_19 : decode cX12_readCalls 19 = .ok (.invokevirtual 267, 3) := by decide +kernel
theorem dX12_readCalls_22 : decode cX12_readCalls 22 = .ok (.ireturn, 1) := by decide +kernel
theorem dX12_readCalls_23 : decode cX12_readCalls 23 = .ok (.aload_n 0, 1) := by decide +kernel
theorem dX12_readCalls_24 : decode cX12_readCalls 24 = .ok (.bipush 64, 2) := by decide +kernel
theorem dX12_readCalls_26 : decode cX12_readCalls 26 = .ok (.iconst 4, 1) := by decide +kernel
theorem dX12_readCalls_27 : decode cX12_readCalls 27 = .ok (.iload_n 1, 1) := by decide +kernel
theorem dX12_readCalls_28 : decode cX12_readCalls 28 = .ok (.imul, 1) := by decide +kernel
theorem dX12_readCalls_29 : decode cX12_readCalls 29 = .ok (.iadd, 1) := by decide +kernel
theorem dX12_readCalls_30 : decode cX12_readCalls 30 = .ok (.invokevirtual 328, 3) := by decide +kernel
theorem dX12_readCalls_33 : decode cX12_readCalls 33 = .ok (.iconst (-1), 1) := by decide +kernel
theorem dX12_readCalls_34 : decode cX12_readCalls 34 = .ok (.if_icmp .ne 5, 3) := by decide +kernel
theorem dX12_readCalls_37 : decode cX12_readCalls 37 = .ok (.iconst (-1), 1) := by decide +kernel
theorem dX12_readCalls_38 : decode cX12_readCalls 38 = .ok (.ireturn, 1) := by decide +kernel
theorem dX12_readCalls_39 : decode cX12_readCalls 39 = .ok (.iload_n 1, 1) := by decide +kernel
theorem dX12_readCalls_40 : decode cX12_readCalls 40 = .ok (.iconst 1, 1) := by decide +kernel
theorem dX12_readCalls_41 : decode cX12_readCalls 41 = .ok (.iadd, 1) := by decide +kernel
theorem dX12_readCalls_42 : decode cX12_readCalls 42 = .ok (.istore_n 1, 1) := by decide +kernel
theorem dX12_readCalls_43 : decode cX12_readCalls 43 = .ok (.goto (-41), 3) := by decide +kernel
theorem dX12_readCalls_46 : decode cX12_readCalls 46 = .ok (.aload_n 0, 1) := by decide +kernel
theorem dX12_readCalls_47 : decode cX12_readCalls 47 = .ok (.getfield 236, 3) := by decide +kernel
theorem dX12_readCalls_50 : decode cX12_readCalls 50 = .ok (.ifCond .ne 7, 3) := by decide +kernel
theorem dX12_readCalls_53 : decode cX12_readCalls 53 = .ok (.iload_n 1, 1) := by decide +kernel
theorem dX12_readCalls_54 : decode cX12_readCalls 54 = .ok (.goto 8, 3) := by decide +kernel
theorem dX12_readCalls_57 : decode cX12_readCalls 57 = .ok (.aload_n 0, 1) := by decide +kernel
theorem dX12_readCalls_58 : decode cX12_readCalls 58 = .ok (.iconst 1, 1) := by decide +kernel
theorem dX12_readCalls_59 : decode cX12_readCalls 59 = .ok (.invokevirtual 267, 3) := by decide +kernel
theorem dX12_readCalls_62 : decode cX12_readCalls 62 = .ok (.ireturn, 1) := by decide +kernel
theorem dX12_readDeed_0 : decode cX12_readDeed 0 = .ok (.aload_n 0, 1) := by decide +kernel
theorem dX12_readDeed_1 : decode cX12_readDeed 1 = .ok (.getfield 68, 3) := by decide +kernel
theorem dX12_readDeed_4 : decode cX12_readDeed 4 = .ok (.iload_n 1, 1) := by decide +kernel
theorem dX12_readDeed_5 : decode cX12_readDeed 5 = .ok (.aload_n 0, 1) := by decide +kernel
theorem dX12_readDeed_6 : decode cX12_readDeed 6 = .ok (.bipush 21, 2) := by decide +kernel
theorem dX12_readDeed_8 : decode cX12_readDeed 8 = .ok (.iconst 0, 1) := by decide +kernel
theorem dX12_readDeed_9 : decode cX12_readDeed 9 = .ok (.sipush 999, 3) := by decide +kernel
theorem dX12_readDeed_12 : decode cX12_readDeed 12 = .ok (.invokevirtual 321, 3) := by decide +kernel
theorem dX12_readDeed_15 : decode cX12_readDeed 15 = .ok (.iastore, 1) := by decide +kernel
theorem dX12_readDeed_16 : decode cX12_readDeed 16 = .ok (.aload_n 0, 1) := by decide +kernel
theorem dX12_readDeed_17 : decode cX12_readDeed 17 = .ok (.getfield 68, 3) := by decide +kernel
theorem dX12_readDeed_20 : decode cX12_readDeed 20 = .ok (.iload_n 1, 1) := by decide +kernel
theorem dX12_readDeed_21 : decode cX12_readDeed 21 = .ok (.iaload, 1) := by decide +kernel
theorem dX12_readDeed_22 : decode cX12_readDeed 22 = .ok (.iconst (-1), 1) := by decide +kernel
theorem dX12_readDeed_23 : decode cX12_readDeed 23 = .ok (.if_icmp .ne 5, 3) := by decide +kernel
theorem dX12_readDeed_26 : decode cX12_readDeed 26 = .ok (.iconst (-1), 1) := by decide +kernel
theorem dX12_readDeed_27 : decode cX12_readDeed 27 = .ok (.ireturn, 1) := by decide +kernel
theorem dX12_readDeed_28 : decode cX12_readDeed 28 = .ok (.aload_n 0, 1) := by decide +kernel
theorem dX12_readDeed_29 : decode cX12_readDeed 29 = .ok (.getfield 236, 3) := by decide +kernel
theorem dX12_readDeed_32 : decode cX12_readDeed 32 = .ok (.iconst 2, 1) := by decide +kernel
theorem dX12_readDeed_33 : decode cX12_readDeed 33 = .ok (.if_icmp .ne 18, 3) := by decide +kernel
theorem dX12_readDeed_36 : decode cX12_readDeed 36 = .ok (.aload_n 0, 1) := by decide +kernel
theorem dX12_readDeed_37 : decode cX12_readDeed 37 = .ok (.aload_n 0, 1) := by decide +kernel
theorem dX12_readDeed_38 : decode cX12_readDeed 38 = .ok (.getfield 239, 3) := by decide +kernel
theorem dX12_readDeed_41 : decode cX12_readDeed 41 = .ok (.bipush 22, 2) := by decide +kernel
theorem dX12_readDeed_43 : decode cX12_readDeed 43 = .ok (.bipush 25, 2) := by decide +kernel
theorem dX12_readDeed_45 : decode cX12_readDeed 45 = .ok (.invokevirtual 206, 3) := by decide +kernel
theorem dX12_readDeed_48 : decode cX12_readDeed 48 = .ok (.ifCond .ne 9, 3) := by decide +kernel
theorem dX12_readDeed_51 : decode cX12_readDeed 51 = .ok (.aload_n 0, 1) := by decide +kernel
theorem dX12_readDeed_52 : decode cX12_readDeed 52 = .ok (.iconst 1, 1) := by decide +kernel
theorem dX12_readDeed_53 : decode cX12_readDeed 53 = .ok (.invokevirtual 267, 3) := by decide +kernel
theorem dX12_readDeed_56 : decode cX12_readDeed 56 = .ok (.ireturn, 1) := by decide +kernel
theorem dX12_readDeed_57 : decode cX12_readDeed 57 = .ok (.aload_n 0, 1) := by decide +kernel
theorem dX12_readDeed_58 : decode cX12_readDeed 58 = .ok (.getfield 239, 3) := by decide +kernel
theorem dX12_readDeed_61 : decode cX12_readDeed 61 = .ok (.bipush 22, 2) := by decide +kernel
theorem dX12_readDeed_63 : decode cX12_readDeed 63 = .ok (.isub, 1) := by decide +kernel
theorem dX12_readDeed_64 : decode cX12_readDeed 64 = .ok (.istore_n 2, 1) := by decide +kernel
theorem dX12_readDeed_65 : decode cX12_readDeed 65 = .ok (.aload_n 0, 1) := by decide +kernel
theorem dX12_readDeed_66 : decode cX12_readDeed 66 = .ok (.invokevirtual 274, 3) := by decide +kernel
theorem dX12_readDeed_69 : decode cX12_readDeed 69 = .ok (.aload_n 0, 1) := by decide +kernel
theorem dX12_readDeed_70 : decode cX12_readDeed 70 = .ok (.getfield 68, 3) := by decide +kernel
theorem dX12_readDeed_73 : decode cX12_readDeed 73 = .ok (.iload_n 1, 1) := by decide +kernel
theorem dX12_readDeed_74 : decode cX12_readDeed 74 = .ok (.iconst 1, 1) := by decide +kernel
theorem dX12_readDeed_75 : decode cX12_readDeed 75 = .ok (.iadd, 1) := by decide +kernel
theorem dX12_readDeed_76 : decode cX12_readDeed 76 = .ok (.iload_n 2, 1) := by decide +kernel
theorem dX12_readDeed_77 : decode cX12_readDeed 77 = .ok (.iastore, 1) := by decide +kernel
theorem dX12_readDeed_78 : decode cX12_readDeed 78 = .ok (.aload_n 0, 1) := by decide +kernel
theorem dX12_readDeed_79 : decode cX12_readDeed 79 = .ok (.getfield 68, 3) := by decide +kernel
theorem dX12_readDeed_82 : decode cX12_readDeed 82 = .ok (.iload_n 1, 1) := by decide +kernel
theorem dX12_readDeed_83 : decode cX12_readDeed 83 = .ok (.iconst 2, 1) := by decide +kernel
theorem dX12_readDeed_84 : decode cX12_readDeed 84 = .ok (.iadd, 1) := by decide +kernel
theorem dX12_readDeed_85 : decode cX12_readDeed 85 = .ok (.aload_n 0, 1) := by decide +kernel
theorem dX12_readDeed_86 : decode cX12_readDeed 86 = .ok (.iconst 0, 1) := by decide +kernel
theorem dX12_readDeed_87 : decode cX12_readDeed 87 = .ok (.iload_n 2, 1) := by decide +kernel
theorem dX12_readDeed_88 : decode cX12_readDeed 88 = .ok (.iconst 2, 1) := by decide +kernel
theorem dX12_readDeed_89 : decode cX12_readDeed 89 = .ok (.if_icmp .ne 8, 3) := by decide +kernel
theorem dX12_readDeed_92 : decode cX12_readDeed 92 = .ok (.bipush 59, 2) := by decide +kernel
theorem dX12_readDeed_94 : decode cX12_readDeed 94 = .ok (.goto 9, 3) := by decide +kernel
theorem dX12_readDeed_97 : decode cX12_readDeed 97 = .ok (.aload_n 0, 1) := by decide +kernel
theorem dX12_readDeed_98 : decode cX12_readDeed 98 = .ok (.getfield 196, 3) := by decide +kernel
theorem dX12_readDeed_101 : decode cX12_readDeed 101 = .ok (.iconst 1, 1) := by decide +kernel
theorem dX12_readDeed_102 : decode cX12_readDeed 102 = .ok (.isub, 1) := by decide +kernel
theorem dX12_readDeed_103 : decode cX12_readDeed 103 = .ok (.invokevirtual 318, 3) := by decide +kernel
theorem dX12_readDeed_106 : decode cX12_readDeed 106 = .ok (.iastore, 1) := by decide +kernel
theorem dX12_readDeed_107 : decode cX12_readDeed 107 = .ok (.aload_n 0, 1) := by decide +kernel
theorem dX12_readDeed_108 : decode cX12_readDeed 108 = .ok (.getfield 68, 3) := by decide +kernel
theorem dX12_readDeed_111 : decode cX12_readDeed 111 = .ok (.iload_n 1, 1) := by decide +kernel
theorem dX12_readDeed_112 : decode cX12_readDeed 112 = .ok (.iconst 2, 1) := by decide +kernel
theorem dX12_readDeed_113 : decode cX12_readDeed 113 = .ok (.iadd, 1) := by decide +kernel
theorem dX12_readDeed_114 : decode cX12_readDeed 114 = .ok (.iaload, 1) := by decide +kernel
theorem dX12_readDeed_115 : decode cX12_readDeed 115 = .ok (.iconst (-1), 1) := by decide +kernel
theorem dX12_readDeed_116 : decode cX12_readDeed 116 = .ok (.if_icmp .ne 5, 3) := by decide +kernel
theorem dX12_readDeed_119 : decode cX12_readDeed 119 = .ok (.iconst (-1), 1) := by decide +kernel
theorem dX12_readDeed_120 : decode cX12_readDeed 120 = .ok (.ireturn, 1) := by decide +kernel
theorem dX12_readDeed_121 : decode cX12_readDeed 121 = .ok (.aload_n 0, 1) := by decide +kernel
theorem dX12_readDeed_122 : decode cX12_readDeed 122 = .ok (.getfield 68, 3) := by decide +kernel
theorem dX12_readDeed_125 : decode cX12_readDeed 125 = .ok (.iload_n 1, 1) := by decide +kernel
theorem dX12_readDeed_126 : decode cX12_readDeed 126 = .ok (.iconst 3, 1) := by decide +kernel
theorem dX12_readDeed_127 : decode cX12_readDeed 127 = .ok (.iadd, 1) := by decide +kernel
theorem dX12_readDeed_128 : decode cX12_readDeed 128 = .ok (.iload_n 2, 1) := by decide +kernel
theorem dX12_readDeed_129 : decode cX12_readDeed 129 = .ok (.ifCond .ne 13, 3) := by decide +kernel
theorem dX12_readDeed_132 : decode cX12_readDeed 132 = .ok (.aload_n 0, 1) := by decide +kernel
theorem dX12_readDeed_133 : decode cX12_readDeed 133 = .ok (.iconst 0, 1) := by decide +kernel
theorem dX12_readDeed_134 : decode cX12_readDeed 134 = .ok (.bipush 99, 2) := by decide +kernel
theorem dX12_readDeed_136 : decode cX12_readDeed 136 = .ok (.invokevirtual 318, 3) := by decide +kernel
theorem dX12_readDeed_139 : decode cX12_readDeed 139 = .ok (.goto 23, 3) := by decide +kernel
theorem dX12_readDeed_142 : decode cX12_readDeed 142 = .ok (.iload_n 2, 1) := by decide +kernel
theorem dX12_readDeed_143 : decode cX12_readDeed 143 = .ok (.iconst 3, 1) := by decide +kernel
theorem dX12_readDeed_144 : decode cX12_readDeed 144 = .ok (.if_icmp .ne 17, 3) := by decide +kernel
theorem dX12_readDeed_147 : decode cX12_readDeed 147 = .ok (.aload_n 0, 1) := by decide +kernel
theorem dX12_readDeed_148 : decode cX12_readDeed 148 = .ok (.iconst 0, 1) := by decide +kernel
theorem dX12_readDeed_149 : decode cX12_readDeed 149 = .ok (.aload_n 0, 1) := by decide +kernel
theorem dX12_readDeed_150 : decode cX12_readDeed 150 = .ok (.getfield 199, 3) := by decide +kernel
theorem dX12_readDeed_153 : decode cX12_readDeed 153 = .ok (.iconst 1, 1) := by decide +kernel
theorem dX12_readDeed_154 : decode cX12_readDeed 154 = .ok (.isub, 1) := by decide +kernel
theorem dX12_readDeed_155 : decode cX12_readDeed 155 = .ok (.invokevirtual 318, 3) := by decide +kernel
theorem dX12_readDeed_158 : decode cX12_readDeed 158 = .ok (.goto 4, 3) := by decide +kernel
theorem dX12_readDeed_161 : decode cX12_readDeed 161 = .ok (.iconst 0, 1) := by decide +kernel
theorem dX12_readDeed_162 : decode cX12_readDeed 162 = .ok (.iastore, 1) := by decide +kernel
theorem dX12_readDeed_163 : decode cX12_readDeed 163 = .ok (.aload_n 0, 1) := by decide +kernel
theorem dX12_readDeed_164 : decode cX12_readDeed 164 = .ok (.getfield 68, 3) := by decide +kernel
theorem dX12_readDeed_167 : decode cX12_readDeed 167 = .ok (.iload_n 1, 1) := by decide +kernel
theorem dX12_readDeed_168 : decode cX12_readDeed 168 = .ok (.iconst 3, 1) := by decide +kernel
theorem dX12_readDeed_169 : decode cX12_readDeed 169 = .ok (.iadd, 1) := by decide +kernel
theorem dX12_readDeed_170 : decode cX12_readDeed 170 = .ok (.iaload, 1) := by decide +kernel
theorem dX12_readDeed_171 : decode cX12_readDeed 171 = .ok (.iconst (-1), 1) := by decide +kernel
theorem dX12_readDeed_172 : decode cX12_readDeed 172 = .ok (.if_icmp .ne 7, 3) := by decide +kernel
theorem dX12_readDeed_175 : decode cX12_readDeed 175 = .ok (.iconst (-1), 1) := by decide +kernel
theorem dX12_readDeed_176 : decode cX12_readDeed 176 = .ok (.goto 9, 3) := by decide +kernel
theorem dX12_readDeed_179 : decode cX12_readDeed 179 = .ok (.aload_n 0, 1) := by decide +kernel
theorem dX12_readDeed_180 : decode cX12_readDeed 180 = .ok (.bipush 59, 2) := by decide +kernel
theorem dX12_readDeed_182 : decode cX12_readDeed 182 = .ok (.invokevirtual 325, 3) := by decide +kernel
theorem dX12_readDeed_185 : decode cX12_readDeed 185 = .ok (.ireturn, 1) := by decide +kernel
theorem dX12_readEvenings_0 : decode cX12_readEvenings 0 = .ok (.iconst 0, 1) := by decide +kernel
theorem dX12_readEvenings_1 : decode cX12_readEvenings 1 = .ok (.istore_n 1, 1) := by decide +kernel
theorem dX12_readEvenings_2 : decode cX12_readEvenings 2 = .ok (.aload_n 0, 1) := by decide +kernel
theorem dX12_readEvenings_3 : decode cX12_readEvenings 3 = .ok (.bipush 21, 2) := by decide +kernel
theorem dX12_readEvenings_5 : decode cX12_readEvenings 5 = .ok (.invokevirtual 296, 3) := by decide +kernel
theorem dX12_readEvenings_8 : decode cX12_readEvenings 8 = .ok (.ifCond .eq 38, 3) := by decide +kernel
theorem dX12_readEvenings_11 : decode cX12_readEvenings 11 = .ok (.iload_n 1, 1) := by decide +kernel
theorem dX12_readEvenings_12 : decode cX12_readEvenings 12 = .ok (.bipush 16, 2) := by decide +kernel
theorem dX12_readEvenings_14 : decode cX12_readEvenings 14 = .ok (.if_icmp .ne 9, 3) := by decide +kernel
theorem dX12_readEvenings_17 : decode cX12_readEvenings 17 = .ok (.aload_n 0, 1) := by decide +kernel
theorem dX12_readEvenings_18 : decode cX12_readEvenings 18 = .ok (.iconst 3, 1) := by decide +kernel
theorem dX12_readEvenings_19 : decode cX12_readEvenings 19 = .ok (.invokevirtual 267, 3) := by decide +kernel
theorem dX12_readEvenings_22 : decode cX12_readEvenings 22 = .ok (.ireturn, 1) := by decide +kernel
theorem dX12_readEvenings_23 : decode cX12_readEvenings 23 = .ok (.aload_n 0, 1) := by decide +kernel
theorem dX12_readEvenings_24 : decode cX12_readEvenings 24 = .ok (.bipush 64, 2) := by decide +kernel
theorem dX12_readEvenings_26 : decode cX12_readEvenings 26 = .ok (.iconst 4, 1) := by decide +kernel
theorem dX12_readEvenings_27 : decode cX12_readEvenings 27 = .ok (.iload_n 1, 1) := by decide +kernel
theorem dX12_readEvenings_28 : decode cX12_readEvenings 28 = .ok (.imul, 1) := by decide +kernel
theorem dX12_readEvenings_29 : decode cX12_readEvenings 29 = .ok (.iadd, 1) := by decide +kernel
theorem dX12_readEvenings_30 : decode cX12_readEvenings 30 = .ok (.invokevirtual 331, 3) := by decide +kernel
theorem dX12_readEvenings_33 : decode cX12_readEvenings 33 = .ok (.iconst (-1), 1) := by decide +kernel
theorem dX12_readEvenings_34 : decode cX12_readEvenings 34 = .ok (.if_icmp .ne 5, 3) := by decide +kernel
theorem dX12_readEvenings_37 : decode cX12_readEvenings 37 = .ok (.iconst (-1), 1) := by decide +kernel
theorem dX12_readEvenings_38 : decode cX12_readEvenings 38 = .ok (.ireturn, 1) := by decide +kernel
theorem dX12_readEvenings_39 : decode cX12_readEvenings 39 = .ok (.iload_n 1, 1) := by decide +kernel
theorem dX12_readEvenings_40 : decode cX12_readEvenings 40 = .ok (.iconst 1, 1) := by decide +kernel
theorem dX12_readEvenings_41 : decode cX12_readEvenings 41 = .ok (.iadd, 1) := by decide +kernel
theorem dX12_readEvenings_42 : decode cX12_readEvenings 42 = .ok (.istore_n 1, 1) := by decide +kernel
theorem dX12_readEvenings_43 : decode cX12_readEvenings 43 = .ok (.goto (-41), 3) := by decide +kernel
theorem dX12_readEvenings_46 : decode cX12_readEvenings 46 = .ok (.aload_n 0, 1) := by decide +kernel
theorem dX12_readEvenings_47 : decode cX12_readEvenings 47 = .ok (.getfield 236, 3) := by decide +kernel
theorem dX12_readEvenings_50 : decode cX12_readEvenings 50 = .ok (.ifCond .ne 7, 3) := by decide +kernel
theorem dX12_readEvenings_53 : decode cX12_readEvenings 53 = .ok (.iload_n 1, 1) := by decide +kernel
theorem dX12_readEvenings_54 : decode cX12_readEvenings 54 = .ok (.goto 8, 3) := by decide +kernel
theorem dX12_readEvenings_57 : decode cX12_readEvenings 57 = .ok (.aload_n 0, 1) := by decide +kernel
theorem dX12_readEvenings_58 : decode cX12_readEvenings 58 = .ok (.iconst 1, 1) := by decide +kernel
theorem dX12_readEvenings_59 : decode cX12_readEvenings 59 = .ok (.invokevirtual 267, 3) := by decide +kernel
theorem dX12_readEvenings_62 : decode cX12_readEvenings 62 = .ok (.ireturn, 1) := by decide +kernel
theorem dX12_takesFeet_0 : decode cX12_takesFeet 0 = .ok (.aload_n 0, 1) := by decide +kernel
theorem dX12_takesFeet_1 : decode cX12_takesFeet 1 = .ok (.getfield 71, 3) := by decide +kernel
theorem dX12_takesFeet_4 : decode cX12_takesFeet 4 = .ok (.iload_n 1, 1) := by decide +kernel
theorem dX12_takesFeet_5 : decode cX12_takesFeet 5 = .ok (.iaload, 1) := by decide +kernel
theorem dX12_takesFeet_6 : decode cX12_takesFeet 6 = .ok (.ifCond .eq 13, 3) := by decide +kernel
theorem dX12_takesFeet_9 : decode cX12_takesFeet 9 = .ok (.iload_n 2, 1) := by decide +kernel
theorem dX12_takesFeet_10 : decode cX12_takesFeet 10 = .ok (.aload_n 0, 1) := by decide +kernel
theorem dX12_takesFeet_11 : decode cX12_takesFeet 11 = .ok (.getfield 71, 3) := by decide +kernel
theorem dX12_takesFeet_14 : decode cX12_takesFeet 14 = .ok (.iload_n 1, 1) := by decide +kernel
theorem dX12_takesFeet_15 : decode cX12_takesFeet 15 = .ok (.iaload, 1) := by decide +kernel
theorem dX12_takesFeet_16 : decode cX12_takesFeet 16 = .ok (.if_icmp .ge 10, 3) := by decide +kernel
theorem dX12_takesFeet_19 : decode cX12_takesFeet 19 = .ok (.aload_n 0, 1) := by decide +kernel
theorem dX12_takesFeet_20 : decode cX12_takesFeet 20 = .ok (.getfield 71, 3) := by decide +kernel
theorem dX12_takesFeet_23 : decode cX12_takesFeet 23 = .ok (.iload_n 1, 1) := by decide +kernel
theorem dX12_takesFeet_24 : decode cX12_takesFeet 24 = .ok (.iload_n 2, 1) := by decide +kernel
theorem dX12_takesFeet_25 : decode cX12_takesFeet 25 = .ok (.iastore, 1) := by decide +kernel
theorem dX12_takesFeet_26 : decode cX12_takesFeet 26 = .ok (.return_, 1) := by decide +kernel
theorem dX12_readRoad_0 : decode cX12_readRoad 0 = .ok (.aload_n 0, 1) := by decide +kernel
theorem dX12_readRoad_1 : decode cX12_readRoad 1 = .ok (.bipush 26, 2) := by decide +kernel
theorem dX12_readRoad_3 : decode cX12_readRoad 3 = .ok (.iconst 0, 1) := by decide +kernel
theorem dX12_readRoad_4 : decode cX12_readRoad 4 = .ok (.aload_n 0, 1) := by decide +kernel
theorem dX12_readRoad_5 : decode cX12_readRoad 5 = .ok (.getfield 196, 3) := by decide +kernel
theorem dX12_readRoad_8 : decode cX12_readRoad 8 = .ok (.iconst 1, 1) := by decide +kernel
theorem dX12_readRoad_9 : decode cX12_readRoad 9 = .ok (.isub, 1) := by decide +kernel
theorem dX12_readRoad_10 : decode cX12_readRoad 10 = .ok (.invokevirtual 321, 3) := by decide +kernel
theorem dX12_readRoad_13 : decode cX12_readRoad 13 = .ok (.istore_n 1, 1) := by decide +kernel
theorem dX12_readRoad_14 : decode cX12_readRoad 14 = .ok (.iload_n 1, 1) := by decide +kernel
theorem dX12_readRoad_15 : decode cX12_readRoad 15 = .ok (.iconst (-1), 1) := by decide +kernel
theorem dX12_readRoad_16 : decode cX12_readRoad 16 = .ok (.if_icmp .ne 5, 3) := by decide +kernel
theorem dX12_readRoad_19 : decode cX12_readRoad 19 = .ok (.iconst (-1), 1) := by decide +kernel
theorem dX12_readRoad_20 : decode cX12_readRoad 20 = .ok (.ireturn, 1) := by decide +kernel
theorem dX12_readRoad_21 : decode cX12_readRoad 21 = .ok (.aload_n 0, 1) := by decide +kernel
theorem dX12_readRoad_22 : decode cX12_readRoad 22 = .ok (.bipush 27, 2) := by decide +kernel
theorem dX12_readRoad_24 : decode cX12_readRoad 24 = .ok (.invokevirtual 296, 3) := by decide +kernel
theorem dX12_readRoad_27 : decode cX12_readRoad 27 = .ok (.ifCond .ne 9, 3) := by decide +kernel
theorem dX12_readRoad_30 : decode cX12_readRoad 30 = .ok (.aload_n 0, 1) := by decide +kernel
theorem dX12_readRoad_31 : decode cX12_readRoad 31 = .ok (.iconst 1, 1) := by decide +kernel
theorem dX12_readRoad_32 : decode cX12_readRoad 32 = .ok (.invokevirtual 267, 3) := by decide +kernel
theorem dX12_readRoad_35 : decode cX12_readRoad 35 = .ok (.ireturn, 1) := by decide +kernel
theorem dX12_readRoad_36 : decode cX12_readRoad 36 = .ok (.aload_n 0, 1) := by decide +kernel
theorem dX12_readRoad_37 : decode cX12_readRoad 37 = .ok (.invokevirtual 274, 3) := by decide +kernel
theorem dX12_readRoad_40 : decode cX12_readRoad 40 = .ok (.aload_n 0, 1) := by decide +kernel
theorem dX12_readRoad_41 : decode cX12_readRoad 41 = .ok (.getfield 236, 3) := by decide +kernel
theorem dX12_readRoad_44 : decode cX12_readRoad 44 = .ok (.iconst 3, 1) := by decide +kernel
theorem dX12_readRoad_45 : decode cX12_readRoad 45 = .ok (.if_icmp .ne 17, 3) := by decide +kernel
theorem dX12_readRoad_48 : decode cX12_readRoad 48 = .ok (.aload_n 0, 1) := by decide +kernel
theorem dX12_readRoad_49 : decode cX12_readRoad 49 = .ok (.getfield 239, 3) := by decide +kernel
theorem dX12_readRoad_52 : decode cX12_readRoad 52 = .ok (.iload_n 1, 1) := by decide +kernel
theorem dX12_readRoad_53 : decode cX12_readRoad 53 = .ok (.if_icmp .ne 9, 3) := by decide +kernel
theorem dX12_readRoad_56 : decode cX12_readRoad 56 = .ok (.aload_n 0, 1) := by decide +kernel
theorem dX12_readRoad_57 : decode cX12_readRoad 57 = .ok (.iconst 2, 1) := by decide +kernel
theorem dX12_readRoad_58 : decode cX12_readRoad 58 = .ok (.invokevirtual 267, 3) := by decide +kernel
theorem dX12_readRoad_61 : decode cX12_readRoad 61 = .ok (.ireturn, 1) := by decide +kernel
theorem dX12_readRoad_62 : decode cX12_readRoad 62 = .ok (.aload_n 0, 1) := by decide +kernel
theorem dX12_readRoad_63 : decode cX12_readRoad 63 = .ok (.iconst 0, 1) := by decide +kernel
theorem dX12_readRoad_64 : decode cX12_readRoad 64 = .ok (.aload_n 0, 1) := by decide +kernel
theorem dX12_readRoad_65 : decode cX12_readRoad 65 = .ok (.getfield 196, 3) := by decide +kernel
theorem dX12_readRoad_68 : decode cX12_readRoad 68 = .ok (.iconst 1, 1) := by decide +kernel
theorem dX12_readRoad_69 : decode cX12_readRoad 69 = .ok (.isub, 1) := by decide +kernel
theorem dX12_readRoad_70 : decode cX12_readRoad 70 = .ok (.invokevirtual 318, 3) := by decide +kernel
theorem dX12_readRoad_73 : decode cX12_readRoad 73 = .ok (.istore_n 2, 1) := by decide +kernel
theorem dX12_readRoad_74 : decode cX12_readRoad 74 = .ok (.iload_n 2, 1) := by decide +kernel
theorem dX12_readRoad_75 : decode cX12_readRoad 75 = .ok (.iconst (-1), 1) := by decide +kernel
theorem dX12_readRoad_76 : decode cX12_readRoad 76 = .ok (.if_icmp .ne 5, 3) := by decide +kernel
theorem dX12_readRoad_79 : decode cX12_readRoad 79 = .ok (.iconst (-1), 1) := by decide +kernel
theorem dX12_readRoad_80 : decode cX12_readRoad 80 = .ok (.ireturn, 1) := by decide +kernel
theorem dX12_readRoad_81 : decode cX12_readRoad 81 = .ok (.aload_n 0, 1) := by decide +kernel
theorem dX12_readRoad_82 : decode cX12_readRoad 82 = .ok (.iconst 1, 1) := by decide +kernel
theorem dX12_readRoad_83 : decode cX12_readRoad 83 = .ok (.bipush 99, 2) := by decide +kernel
theorem dX12_readRoad_85 : decode cX12_readRoad 85 = .ok (.invokevirtual 318, 3) := by decide +kernel
theorem dX12_readRoad_88 : decode cX12_readRoad 88 = .ok (.istore_n 3, 1) := by decide +kernel
theorem dX12_readRoad_89 : decode cX12_readRoad 89 = .ok (.iload_n 3, 1) := by decide +kernel
theorem dX12_readRoad_90 : decode cX12_readRoad 90 = .ok (.iconst (-1), 1) := by decide +kernel
theorem dX12_readRoad_91 : decode cX12_readRoad 91 = .ok (.if_icmp .ne 5, 3) := by decide +kernel
theorem dX12_readRoad_94 : decode cX12_readRoad 94 = .ok (.iconst (-1), 1) := by decide +kernel
theorem dX12_readRoad_95 : decode cX12_readRoad 95 = .ok (.ireturn, 1) := by decide +kernel
theorem dX12_readRoad_96 : decode cX12_readRoad 96 = .ok (.aload_n 0, 1) := by decide +kernel
theorem dX12_readRoad_97 : decode cX12_readRoad 97 = .ok (.sipush 144, 3) := by decide +kernel
theorem dX12_readRoad_100 : decode cX12_readRoad 100 = .ok (.bipush 12, 2) := by decide +kernel
theorem dX12_readRoad_102 : decode cX12_readRoad 102 = .ok (.iload_n 1, 1) := by decide +kernel
theorem dX12_readRoad_103 : decode cX12_readRoad 103 = .ok (.imul, 1) := by decide +kernel
theorem dX12_readRoad_104 : decode cX12_readRoad 104 = .ok (.iadd, 1) := by decide +kernel
theorem dX12_readRoad_105 : decode cX12_readRoad 105 = .ok (.iload_n 2, 1) := by decide +kernel
theorem dX12_readRoad_106 : decode cX12_readRoad 106 = .ok (.iadd, 1) := by decide +kernel
theorem dX12_readRoad_107 : decode cX12_readRoad 107 = .ok (.iload_n 3, 1) := by decide +kernel
theorem dX12_readRoad_108 : decode cX12_readRoad 108 = .ok (.invokevirtual 334, 3) := by decide +kernel
theorem dX12_readRoad_111 : decode cX12_readRoad 111 = .ok (.aload_n 0, 1) := by decide +kernel
theorem dX12_readRoad_112 : decode cX12_readRoad 112 = .ok (.sipush 144, 3) := by decide +kernel
theorem dX12_readRoad_115 : decode cX12_readRoad 115 = .ok (.bipush 12, 2) := by decide +kernel
theorem dX12_readRoad_117 : decode cX12_readRoad 117 = .ok (.iload_n 2, 1) := by decide +kernel
theorem dX12_readRoad_118 : decode cX12_readRoad 118 = .ok (.imul, 1) := by decide +kernel
theorem dX12_readRoad_119 : decode cX12_readRoad 119 = .ok (.iadd, 1) := by decide +kernel
theorem dX12_readRoad_120 : decode cX12_readRoad 120 = .ok (.iload_n 1, 1) := by decide +kernel
theorem dX12_readRoad_121 : decode cX12_readRoad 121 = .ok (.iadd, 1) := by decide +kernel
theorem dX12_readRoad_122 : decode cX12_readRoad 122 = .ok (.iload_n 3, 1) := by decide +kernel
theorem dX12_readRoad_123 : decode cX12_readRoad 123 = .ok (.invokevirtual 334, 3) := by decide +kernel
theorem dX12_readRoad_126 : decode cX12_readRoad 126 = .ok (.aload_n 0, 1) := by decide +kernel
theorem dX12_readRoad_127 : decode cX12_readRoad 127 = .ok (.bipush 59, 2) := by decide +kernel
theorem dX12_readRoad_129 : decode cX12_readRoad 129 = .ok (.invokevirtual 325, 3) := by decide +kernel
theorem dX12_readRoad_132 : decode cX12_readRoad 132 = .ok (.ireturn, 1) := by decide +kernel
theorem dX12_readStreet_0 : decode cX12_readStreet 0 = .ok (.iconst 0, 1) := by decide +kernel
theorem dX12_readStreet_1 : decode cX12_readStreet 1 = .ok (.istore_n 1, 1) := by decide +kernel
theorem dX12_readStreet_2 : decode cX12_readStreet 2 = .ok (.iload_n 1, 1) := by decide +kernel
theorem dX12_readStreet_3 : decode cX12_readStreet 3 = .ok (.sipush 144, 3) := by decide +kernel
theorem dX12_readStreet_6 : decode cX12_readStreet 6 = .ok (.if_icmp .ge 20, 3) := by decide +kernel
theorem dX12_readStreet_9 : decode cX12_readStreet 9 = .ok (.aload_n 0, 1) := by decide +kernel
theorem dX12_readStreet_10 : decode cX12_readStreet 10 = .ok (.getfield 71, 3) := by decide +kernel
theorem dX12_readStreet_13 : decode cX12_readStreet 13 = .ok (.sipush 144, 3) := by decide +kernel
theorem dX12_readStreet_16 : decode cX12_readStreet 16 = .ok (.iload_n 1, 1) := by decide +kernel
theorem dX12_readStreet_17 : decode cX12_readStreet 17 = .ok (.iadd, 1) := by decide +kernel
theorem dX12_readStreet_18 : decode cX12_readStreet 18 = .ok (.iconst 0, 1) := by decide +kernel
theorem dX12_readStreet_19 : decode cX12_readStreet 19 = .ok (.iastore, 1) := by decide +kernel
theorem dX12_readStreet_20 : decode cX12_readStreet 20 = .ok (.iinc 1 1, 3) := by decide +kernel
theorem dX12_readStreet_23 : decode cX12_readStreet 23 = .ok (.goto (-21), 3) := by decide +kernel
theorem dX12_readStreet_26 : decode cX12_readStreet 26 = .ok (.iconst 0, 1) := by decide +kernel
theorem dX12_readStreet_27 : decode cX12_readStreet 27 = .ok (.istore_n 1, 1) := by decide +kernel
theorem dX12_readStreet_28 : decode cX12_readStreet 28 = .ok (.aload_n 0, 1) := by decide +kernel
theorem dX12_readStreet_29 : decode cX12_readStreet 29 = .ok (.bipush 26, 2) := by decide +kernel
theorem dX12_readStreet_31 : decode cX12_readStreet 31 = .ok (.invokevirtual 296, 3) := by decide +kernel
theorem dX12_readStreet_34 : decode cX12_readStreet 34 = .ok (.ifCond .eq 32, 3) := by decide +kernel
theorem dX12_readStreet_37 : decode cX12_readStreet 37 = .ok (.iload_n 1, 1) := by decide +kernel
theorem dX12_readStreet_38 : decode cX12_readStreet 38 = .ok (.bipush 16, 2) := by decide +kernel
theorem dX12_readStreet_40 : decode cX12_readStreet 40 = .ok (.if_icmp .ne 9, 3) := by decide +kernel
theorem dX12_readStreet_43 : decode cX12_readStreet 43 = .ok (.aload_n 0, 1) := by decide +kernel
theorem dX12_readStreet_44 : decode cX12_readStreet 44 = .ok (.iconst 3, 1) := by decide +kernel
theorem dX12_readStreet_45 : decode cX12_readStreet 45 = .ok (.invokevirtual 267, 3) := by decide +kernel
theorem dX12_readStreet_48 : decode cX12_readStreet 48 = .ok (.ireturn, 1) := by decide +kernel
theorem dX12_readStreet_49 : decode cX12_readStreet 49 = .ok (.aload_n 0, 1) := by decide +kernel
theorem dX12_readStreet_50 : decode cX12_readStreet 50 = .ok (.invokevirtual 337, 3) := by decide +kernel
theorem dX12_readStreet_53 : decode cX12_readStreet 53 = .ok (.iconst (-1), 1) := by decide +kernel
theorem dX12_readStreet_54 : decode cX12_readStreet 54 = .ok (.if_icmp .ne 5, 3) := by decide +kernel
theorem dX12_readStreet_57 : decode cX12_readStreet 57 = .ok (.iconst (-1), 1) := by decide +kernel
theorem dX12_readStreet_58 : decode cX12_readStreet 58 = .ok (.ireturn, 1) := by decide +kernel
theorem dX12_readStreet_59 : decode cX12_readStreet 59 = .ok (.iload_n 1, 1) := by decide +kernel
theorem dX12_readStreet_60 : decode cX12_readStreet 60 = .ok (.iconst 1, 1) := by decide +kernel
theorem dX12_readStreet_61 : decode cX12_readStreet 61 = .ok (.iadd, 1) := by decide +kernel
theorem dX12_readStreet_62 : decode cX12_readStreet 62 = .ok (.istore_n 1, 1) := by decide +kernel
theorem dX12_readStreet_63 : decode cX12_readStreet 63 = .ok (.goto (-35), 3) := by decide +kernel
theorem dX12_readStreet_66 : decode cX12_readStreet 66 = .ok (.aload_n 0, 1) := by decide +kernel
theorem dX12_readStreet_67 : decode cX12_readStreet 67 = .ok (.getfield 236, 3) := by decide +kernel
theorem dX12_readStreet_70 : decode cX12_readStreet 70 = .ok (.ifCond .ne 7, 3) := by decide +kernel
theorem dX12_readStreet_73 : decode cX12_readStreet 73 = .ok (.iload_n 1, 1) := by decide +kernel
theorem dX12_readStreet_74 : decode cX12_readStreet 74 = .ok (.goto 8, 3) := by decide +kernel
theorem dX12_readStreet_77 : decode cX12_readStreet 77 = .ok (.aload_n 0, 1) := by decide +kernel
theorem dX12_readStreet_78 : decode cX12_readStreet 78 = .ok (.iconst 1, 1) := by decide +kernel
theorem dX12_readStreet_79 : decode cX12_readStreet 79 = .ok (.invokevirtual 267, 3) := by decide +kernel
theorem dX12_readStreet_82 : decode cX12_readStreet 82 = .ok (.ireturn, 1) := by decide +kernel
theorem dX12_readsText_0 : decode cX12_readsText 0 = .ok (.aload_n 0, 1) := by decide +kernel
theorem dX12_readsText_1 : decode cX12_readsText 1 = .ok (.iconst 0, 1) := by decide +kernel
theorem dX12_readsText_2 : decode cX12_readsText 2 = .ok (.putfield 315, 3) := by decide +kernel
theorem dX12_readsText_5 : decode cX12_readsText 5 = .ok (.aload_n 0, 1) := by decide +kernel
theorem dX12_readsText_6 : decode cX12_readsText 6 = .ok (.invokevirtual 274, 3) := by decide +kernel
theorem dX12_readsText_9 : decode cX12_readsText 9 = .ok (.iload_n 1, 1) := by decide +kernel
theorem dX12_readsText_10 : decode cX12_readsText 10 = .ok (.iconst 1, 1) := by decide +kernel
theorem dX12_readsText_11 : decode cX12_readsText 11 = .ok (.if_icmp .ne 8, 3) := by decide +kernel
theorem dX12_readsText_14 : decode cX12_readsText 14 = .ok (.aload_n 0, 1) := by decide +kernel
theorem dX12_readsText_15 : decode cX12_readsText 15 = .ok (.invokevirtual 340, 3) := by decide +kernel
theorem dX12_readsText_18 : decode cX12_readsText 18 = .ok (.ireturn, 1) := by decide +kernel
theorem dX12_readsText_19 : decode cX12_readsText 19 = .ok (.iload_n 1, 1) := by decide +kernel
theorem dX12_readsText_20 : decode cX12_readsText 20 = .ok (.iconst 2, 1) := by decide +kernel
theorem dX12_readsText_21 : decode cX12_readsText 21 = .ok (.if_icmp .ne 8, 3) := by decide +kernel
theorem dX12_readsText_24 : decode cX12_readsText 24 = .ok (.aload_n 0, 1) := by decide +kernel
theorem dX12_readsText_25 : decode cX12_readsText 25 = .ok (.invokevirtual 343, 3) := by decide +kernel
theorem dX12_readsText_28 : decode cX12_readsText 28 = .ok (.ireturn, 1) := by decide +kernel
theorem dX12_readsText_29 : decode cX12_readsText 29 = .ok (.iload_n 1, 1) := by decide +kernel
theorem dX12_readsText_30 : decode cX12_readsText 30 = .ok (.iconst 3, 1) := by decide +kernel
theorem dX12_readsText_31 : decode cX12_readsText 31 = .ok (.if_icmp .ne 10, 3) := by decide +kernel
theorem dX12_readsText_34 : decode cX12_readsText 34 = .ok (.aload_n 0, 1) := by decide +kernel
theorem dX12_readsText_35 : decode cX12_readsText 35 = .ok (.invokevirtual 346, 3) := by decide +kernel
theorem dX12_readsText_38 : decode cX12_readsText 38 = .ok (.goto 7, 3) := by decide +kernel
theorem dX12_readsText_41 : decode cX12_readsText 41 = .ok (.aload_n 0, 1) := by decide +kernel
theorem dX12_readsText_42 : decode cX12_readsText 42 = .ok (.invokevirtual 349, 3) := by decide +kernel
theorem dX12_readsText_45 : decode cX12_readsText 45 = .ok (.ireturn, 1) := by decide +kernel
theorem dX12_takesOther_0 : decode cX12_takesOther 0 = .ok (.iload_n 1, 1) := by decide +kernel
theorem dX12_takesOther_1 : decode cX12_takesOther 1 = .ok (.iconst 3, 1) := by decide +kernel
theorem dX12_takesOther_2 : decode cX12_takesOther 2 = .ok (.if_icmp .ne 40, 3) := by decide +kernel
theorem dX12_takesOther_5 : decode cX12_takesOther 5 = .ok (.iconst 0, 1) := by decide +kernel
theorem dX12_takesOther_6 : decode cX12_takesOther 6 = .ok (.istore_n 3, 1) := by decide +kernel
theorem dX12_takesOther_7 : decode cX12_takesOther 7 = .ok (.iload_n 3, 1) := by decide +kernel
theorem dX12_takesOther_8 : decode cX12_takesOther 8 = .ok (.sipush 144, 3) := by decide +kernel
theorem dX12_takesOther_11 : decode cX12_takesOther 11 = .ok (.if_icmp .ge 25, 3) := by decide +kernel
theorem dX12_takesOther_14 : decode cX12_takesOther 14 = .ok (.aload_n 0, 1) := by decide +kernel
theorem dX12_takesOther_15 : decode cX12_takesOther 15 = .ok (.getfield 71, 3) := by decide +kernel
theorem dX12_takesOther_18 : decode cX12_takesOther 18 = .ok (.iload_n 3, 1) := by decide +kernel
theorem dX12_takesOther_19 : decode cX12_takesOther 19 = .ok (.aload_n 0, 1) := by decide +kernel
theorem dX12_takesOther_20 : decode cX12_takesOther 20 = .ok (.getfield 71, 3) := by decide +kernel
theorem dX12_takesOther_23 : decode cX12_takesOther 23 = .ok (.sipush 144, 3) := by decide +kernel
theorem dX12_takesOther_26 : decode cX12_takesOther 26 = .ok (.iload_n 3, 1) := by decide +kernel
theorem dX12_takesOther_27 : decode cX12_takesOther 27 = .ok (.iadd, 1) := by decide +kernel
theorem dX12_takesOther_28 : decode cX12_takesOther 28 = .ok (.iaload, 1) := by decide +kernel
theorem dX12_takesOther_29 : decode cX12_takesOther 29 = .ok (.iastore, 1) := by decide +kernel
theorem dX12_takesOther_30 : decode cX12_takesOther 30 = .ok (.iinc 3 1, 3) := by decide +kernel
theorem dX12_takesOther_33 : decode cX12_takesOther 33 = .ok (.goto (-26), 3) := by decide +kernel
theorem dX12_takesOther_36 : decode cX12_takesOther 36 = .ok (.aload_n 0, 1) := by decide +kernel
theorem dX12_takesOther_37 : decode cX12_takesOther 37 = .ok (.iload_n 2, 1) := by decide +kernel
theorem dX12_takesOther_38 : decode cX12_takesOther 38 = .ok (.putfield 352, 3) := by decide +kernel
theorem dX12_takesOther_41 : decode cX12_takesOther 41 = .ok (.return_, 1) := by decide +kernel
theorem dX12_takesOther_42 : decode cX12_takesOther 42 = .ok (.iload_n 1, 1) := by decide +kernel
theorem dX12_takesOther_43 : decode cX12_takesOther 43 = .ok (.iconst 1, 1) := by decide +kernel
theorem dX12_takesOther_44 : decode cX12_takesOther 44 = .ok (.if_icmp .ne 41, 3) := by decide +kernel
theorem dX12_takesOther_47 : decode cX12_takesOther 47 = .ok (.iconst 0, 1) := by decide +kernel
theorem dX12_takesOther_48 : decode cX12_takesOther 48 = .ok (.istore_n 3, 1) := by decide +kernel
theorem dX12_takesOther_49 : decode cX12_takesOther 49 = .ok (.iload_n 3, 1) := by decide +kernel
theorem dX12_takesOther_50 : decode cX12_takesOther 50 = .ok (.iconst 4, 1) := by decide +kernel
theorem dX12_takesOther_51 : decode cX12_takesOther 51 = .ok (.iload_n 2, 1) := by decide +kernel
theorem dX12_takesOther_52 : decode cX12_takesOther 52 = .ok (.imul, 1) := by decide +kernel
theorem dX12_takesOther_53 : decode cX12_takesOther 53 = .ok (.if_icmp .ge 24, 3) := by decide +kernel
theorem dX12_takesOther_56 : decode cX12_takesOther 56 = .ok (.aload_n 0, 1) := by decide +kernel
theorem dX12_takesOther_57 : decode cX12_takesOther 57 = .ok (.getfield 65, 3) := by decide +kernel
theorem dX12_takesOther_60 : decode cX12_takesOther 60 = .ok (.iload_n 3, 1) := by decide +kernel
theorem dX12_takesOther_61 : decode cX12_takesOther 61 = .ok (.aload_n 0, 1) := by decide +kernel
theorem dX12_takesOther_62 : decode cX12_takesOther 62 = .ok (.getfield 65, 3) := by decide +kernel
theorem dX12_takesOther_65 : decode cX12_takesOther 65 = .ok (.bipush 64, 2) := by decide +kernel
theorem dX12_takesOther_67 : decode cX12_takesOther 67 = .ok (.iload_n 3, 1) := by decide +kernel
theorem dX12_takesOther_68 : decode cX12_takesOther 68 = .ok (.iadd, 1) := by decide +kernel
theorem dX12_takesOther_69 : decode cX12_takesOther 69 = .ok (.iaload, 1) := by decide +kernel
theorem dX12_takesOther_70 : decode cX12_takesOther 70 = .ok (.iastore, 1) := by decide +kernel
theorem dX12_takesOther_71 : decode cX12_takesOther 71 = .ok (.iinc 3 1, 3) := by decide +kernel
theorem dX12_takesOther_74 : decode cX12_takesOther 74 = .ok (.goto (-25), 3) := by decide +kernel
theorem dX12_takesOther_77 : decode cX12_takesOther 77 = .ok (.aload_n 0, 1) := by decide +kernel
theorem dX12_takesOther_78 : decode cX12_takesOther 78 = .ok (.iload_n 2, 1) := by decide +kernel
theorem dX12_takesOther_79 : decode cX12_takesOther 79 = .ok (.putfield 355, 3) := by decide +kernel
theorem dX12_takesOther_82 : decode cX12_takesOther 82 = .ok (.goto 38, 3) := by decide +kernel
theorem dX12_takesOther_85 : decode cX12_takesOther 85 = .ok (.iconst 0, 1) := by decide +kernel
theorem dX12_takesOther_86 : decode cX12_takesOther 86 = .ok (.istore_n 3, 1) := by decide +kernel
theorem dX12_takesOther_87 : decode cX12_takesOther 87 = .ok (.iload_n 3, 1) := by decide +kernel
theorem dX12_takesOther_88 : decode cX12_takesOther 88 = .ok (.iconst 4, 1) := by decide +kernel
theorem dX12_takesOther_89 : decode cX12_takesOther 89 = .ok (.iload_n 2, 1) := by decide +kernel
theorem dX12_takesOther_90 : decode cX12_takesOther 90 = .ok (.imul, 1) := by decide +kernel
theorem dX12_takesOther_91 : decode cX12_takesOther 91 = .ok (.if_icmp .ge 24, 3) := by decide +kernel
theorem dX12_takesOther_94 : decode cX12_takesOther 94 = .ok (.aload_n 0, 1) := by decide +kernel
theorem dX12_takesOther_95 : decode cX12_takesOther 95 = .ok (.getfield 68, 3) := by decide +kernel
theorem dX12_takesOther_98 : decode cX12_takesOther 98 = .ok (.iload_n 3, 1) := by decide +kernel
theorem dX12_takesOther_99 : decode cX12_takesOther 99 = .ok (.aload_n 0, 1) := by decide +kernel
theorem dX12_takesOther_100 : decode cX12_takesOther 100 = .ok (.getfield 68, 3) := by decide +kernel
theorem dX12_takesOther_103 : decode cX12_takesOther 103 = .ok (.bipush 64, 2) := by decide +kernel
theorem dX12_takesOther_105 : decode cX12_takesOther 105 = .ok (.iload_n 3, 1) := by decide +kernel
theorem dX12_takesOther_106 : decode cX12_takesOther 106 = .ok (.iadd, 1) := by decide +kernel
theorem dX12_takesOther_107 : decode cX12_takesOther 107 = .ok (.iaload, 1) := by decide +kernel
theorem dX12_takesOther_108 : decode cX12_takesOther 108 = .ok (.iastore, 1) := by decide +kernel
theorem dX12_takesOther_109 : decode cX12_takesOther 109 = .ok (.iinc 3 1, 3) := by decide +kernel
theorem dX12_takesOther_112 : decode cX12_takesOther 112 = .ok (.goto (-25), 3) := by decide +kernel
theorem dX12_takesOther_115 : decode cX12_takesOther 115 = .ok (.aload_n 0, 1) := by decide +kernel
theorem dX12_takesOther_116 : decode cX12_takesOther 116 = .ok (.iload_n 2, 1) := by decide +kernel
theorem dX12_takesOther_117 : decode cX12_takesOther 117 = .ok (.putfield 358, 3) := by decide +kernel
theorem dX12_takesOther_120 : decode cX12_takesOther 120 = .ok (.aload_n 0, 1) := by decide +kernel
theorem dX12_takesOther_121 : decode cX12_takesOther 121 = .ok (.iconst 0, 1) := by decide +kernel
theorem dX12_takesOther_122 : decode cX12_takesOther 122 = .ok (.putfield 187, 3) := by decide +kernel
theorem dX12_takesOther_125 : decode cX12_takesOther 125 = .ok (.return_, 1) := by decide +kernel
theorem dX12_text_0 : decode cX12_text 0 = .ok (.aload_n 0, 1) := by decide +kernel
theorem dX12_text_1 : decode cX12_text 1 = .ok (.iconst 0, 1) := by decide +kernel
theorem dX12_text_2 : decode cX12_text 2 = .ok (.putfield 183, 3) := by decide +kernel
theorem dX12_text_5 : decode cX12_text 5 = .ok (.aload_n 0, 1) := by decide +kernel
theorem dX12_text_6 : decode cX12_text 6 = .ok (.iconst 0, 1) := by decide +kernel
theorem dX12_text_7 : decode cX12_text 7 = .ok (.putfield 361, 3) := by decide +kernel
theorem dX12_text_10 : decode cX12_text 10 = .ok (.aload_n 0, 1) := by decide +kernel
theorem dX12_text_11 : decode cX12_text 11 = .ok (.iconst (-1), 1) := by decide +kernel
theorem dX12_text_12 : decode cX12_text 12 = .ok (.putfield 61, 3) := by decide +kernel
theorem dX12_text_15 : decode cX12_text 15 = .ok (.aload_n 0, 1) := by decide +kernel
theorem dX12_text_16 : decode cX12_text 16 = .ok (.iconst 0, 1) := by decide +kernel
theorem dX12_text_17 : decode cX12_text 17 = .ok (.putfield 227, 3) := by decide +kernel
theorem dX12_text_20 : decode cX12_text 20 = .ok (.aload_n 0, 1) := by decide +kernel
theorem dX12_text_21 : decode cX12_text 21 = .ok (.iconst 0, 1) := by decide +kernel
theorem dX12_text_22 : decode cX12_text 22 = .ok (.putfield 261, 3) := by decide +kernel
theorem dX12_text_25 : decode cX12_text 25 = .ok (.aload_n 0, 1) := by decide +kernel
theorem dX12_text_26 : decode cX12_text 26 = .ok (.iconst 0, 1) := by decide +kernel
theorem dX12_text_27 : decode cX12_text 27 = .ok (.putfield 293, 3) := by decide +kernel
theorem dX12_text_30 : decode cX12_text 30 = .ok (.iconst (-1), 1) := by decide +kernel
theorem dX12_text_31 : decode cX12_text 31 = .ok (.istore_n 2, 1) := by decide +kernel
theorem dX12_text_32 : decode cX12_text 32 = .ok (.aload_n 0, 1) := by decide +kernel
theorem dX12_text_33 : decode cX12_text 33 = .ok (.iload_n 1, 1) := by decide +kernel
theorem dX12_text_34 : decode cX12_text 34 = .ok (.iconst 0, 1) := by decide +kernel
theorem dX12_text_35 : decode cX12_text 35 = .ok (.iconst 3, 1) := by decide +kernel
theorem dX12_text_36 : decode cX12_text 36 = .ok (.invokevirtual 206, 3) := by decide +kernel
theorem dX12_text_39 : decode cX12_text 39 = .ok (.ifCond .eq 30, 3) := by decide +kernel
theorem dX12_text_42 : decode cX12_text 42 = .ok (.aload_n 0, 1) := by decide +kernel
theorem dX12_text_43 : decode cX12_text 43 = .ok (.iload_n 1, 1) := by decide +kernel
theorem dX12_text_44 : decode cX12_text 44 = .ok (.invokevirtual 364, 3) := by decide +kernel
theorem dX12_text_47 : decode cX12_text 47 = .ok (.istore_n 2, 1) := by decide +kernel
theorem dX12_text_48 : decode cX12_text 48 = .ok (.iload_n 2, 1) := by decide +kernel
theorem dX12_text_49 : decode cX12_text 49 = .ok (.iconst (-1), 1) := by decide +kernel
theorem dX12_text_50 : decode cX12_text 50 = .ok (.if_icmp .ne 19, 3) := by decide +kernel
theorem dX12_text_53 : decode cX12_text 53 = .ok (.aload_n 0, 1) := by decide +kernel
theorem dX12_text_54 : decode cX12_text 54 = .ok (.aload_n 0, 1) := by decide +kernel
theorem dX12_text_55 : decode cX12_text 55 = .ok (.getfield 255, 3) := by decide +kernel
theorem dX12_text_58 : decode cX12_text 58 = .ok (.putfield 361, 3) := by decide +kernel
theorem dX12_text_61 : decode cX12_text 61 = .ok (.aload_n 0, 1) := by decide +kernel
theorem dX12_text_62 : decode cX12_text 62 = .ok (.aload_n 0, 1) := by decide +kernel
theorem dX12_text_63 : decode cX12_text 63 = .ok (.getfield 258, 3) := by decide +kernel
theorem dX12_text_66 : decode cX12_text 66 = .ok (.putfield 61, 3) := by decide +kernel
theorem dX12_text_69 : decode cX12_text 69 = .ok (.aload_n 0, 1) := by decide +kernel
theorem dX12_text_70 : decode cX12_text 70 = .ok (.iconst 0, 1) := by decide +kernel
theorem dX12_text_71 : decode cX12_text 71 = .ok (.putfield 220, 3) := by decide +kernel
theorem dX12_text_74 : decode cX12_text 74 = .ok (.iload_n 2, 1) := by decide +kernel
theorem dX12_text_75 : decode cX12_text 75 = .ok (.iconst (-1), 1) := by decide +kernel
theorem dX12_text_76 : decode cX12_text 76 = .ok (.if_icmp .ne 5, 3) := by decide +kernel
theorem dX12_text_79 : decode cX12_text 79 = .ok (.iconst (-1), 1) := by decide +kernel
theorem dX12_text_80 : decode cX12_text 80 = .ok (.ireturn, 1) := by decide +kernel
theorem dX12_text_81 : decode cX12_text 81 = .ok (.iload_n 1, 1) := by decide +kernel
theorem dX12_text_82 : decode cX12_text 82 = .ok (.ifCond .ne 11, 3) := by decide +kernel
theorem dX12_text_85 : decode cX12_text 85 = .ok (.aload_n 0, 1) := by decide +kernel
theorem dX12_text_86 : decode cX12_text 86 = .ok (.iload_n 2, 1) := by decide +kernel
theorem dX12_text_87 : decode cX12_text 87 = .ok (.invokevirtual 367, 3) := by decide +kernel
theorem dX12_text_90 : decode cX12_text 90 = .ok (.goto 9, 3) := by decide +kernel
theorem dX12_text_93 : decode cX12_text 93 = .ok (.aload_n 0, 1) := by decide +kernel
theorem dX12_text_94 : decode cX12_text 94 = .ok (.iload_n 1, 1) := by decide +kernel
theorem dX12_text_95 : decode cX12_text 95 = .ok (.iload_n 2, 1) := by decide +kernel
theorem dX12_text_96 : decode cX12_text 96 = .ok (.invokevirtual 370, 3) := by decide +kernel
theorem dX12_text_99 : decode cX12_text 99 = .ok (.iload_n 2, 1) := by decide +kernel
theorem dX12_text_100 : decode cX12_text 100 = .ok (.ireturn, 1) := by decide +kernel
theorem dX12_fault_0 : decode cX12_fault 0 = .ok (.aload_n 0, 1) := by decide +kernel
theorem dX12_fault_1 : decode cX12_fault 1 = .ok (.iconst 0, 1) := by decide +kernel
theorem dX12_fault_2 : decode cX12_fault 2 = .ok (.putfield 183, 3) := by decide +kernel
theorem dX12_fault_5 : decode cX12_fault 5 = .ok (.iload_n 1, 1) := by decide +kernel
theorem dX12_fault_6 : decode cX12_fault 6 = .ok (.ifCond .ne 10, 3) := by decide +kernel
theorem dX12_fault_9 : decode cX12_fault 9 = .ok (.aload_n 0, 1) := by decide +kernel
theorem dX12_fault_10 : decode cX12_fault 10 = .ok (.getfield 361, 3) := by decide +kernel
theorem dX12_fault_13 : decode cX12_fault 13 = .ok (.goto 16, 3) := by decide +kernel
theorem dX12_fault_16 : decode cX12_fault 16 = .ok (.iload_n 1, 1) := by decide +kernel
theorem dX12_fault_17 : decode cX12_fault 17 = .ok (.iconst 1, 1) := by decide +kernel
theorem dX12_fault_18 : decode cX12_fault 18 = .ok (.if_icmp .ne 10, 3) := by decide +kernel
theorem dX12_fault_21 : decode cX12_fault 21 = .ok (.aload_n 0, 1) := by decide +kernel
theorem dX12_fault_22 : decode cX12_fault 22 = .ok (.getfield 61, 3) := by decide +kernel
theorem dX12_fault_25 : decode cX12_fault 25 = .ok (.goto 4, 3) := by decide +kernel
theorem dX12_fault_28 : decode cX12_fault 28 = .ok (.iconst (-1), 1) := by decide +kernel
theorem dX12_fault_29 : decode cX12_fault 29 = .ok (.ireturn, 1) := by decide +kernel
theorem dX12_twoOf_0 : decode cX12_twoOf 0 = .ok (.iload_n 1, 1) := by decide +kernel
theorem dX12_twoOf_1 : decode cX12_twoOf 1 = .ok (.iconst 2, 1) := by decide +kernel
theorem dX12_twoOf_2 : decode cX12_twoOf 2 = .ok (.if_icmp .ne 7, 3) := by decide +kernel
theorem dX12_twoOf_5 : decode cX12_twoOf 5 = .ok (.iload_n 2, 1) := by decide +kernel
theorem dX12_twoOf_6 : decode cX12_twoOf 6 = .ok (.iload_n 3, 1) := by decide +kernel
theorem dX12_twoOf_7 : decode cX12_twoOf 7 = .ok (.iadd, 1) := by decide +kernel
theorem dX12_twoOf_8 : decode cX12_twoOf 8 = .ok (.ireturn, 1) := by decide +kernel
theorem dX12_twoOf_9 : decode cX12_twoOf 9 = .ok (.iload_n 1, 1) := by decide +kernel
theorem dX12_twoOf_10 : decode cX12_twoOf 10 = .ok (.iconst 3, 1) := by decide +kernel
theorem dX12_twoOf_11 : decode cX12_twoOf 11 = .ok (.if_icmp .ne 7, 3) := by decide +kernel
theorem dX12_twoOf_14 : decode cX12_twoOf 14 = .ok (.iload_n 2, 1) := by decide +kernel
theorem dX12_twoOf_15 : decode cX12_twoOf 15 = .ok (.iload_n 3, 1) := by decide +kernel
theorem dX12_twoOf_16 : decode cX12_twoOf 16 = .ok (.isub, 1) := by decide +kernel
theorem dX12_twoOf_17 : decode cX12_twoOf 17 = .ok (.ireturn, 1) := by decide +kernel
theorem dX12_twoOf_18 : decode cX12_twoOf 18 = .ok (.iload_n 1, 1) := by decide +kernel
theorem dX12_twoOf_19 : decode cX12_twoOf 19 = .ok (.iconst 4, 1) := by decide +kernel
theorem dX12_twoOf_20 : decode cX12_twoOf 20 = .ok (.if_icmp .ne 7, 3) := by decide +kernel
theorem dX12_twoOf_23 : decode cX12_twoOf 23 = .ok (.iload_n 2, 1) := by decide +kernel
theorem dX12_twoOf_24 : decode cX12_twoOf 24 = .ok (.iload_n 3, 1) := by decide +kernel
theorem dX12_twoOf_25 : decode cX12_twoOf 25 = .ok (.imul, 1) := by decide +kernel
theorem dX12_twoOf_26 : decode cX12_twoOf 26 = .ok (.ireturn, 1) := by decide +kernel
theorem dX12_twoOf_27 : decode cX12_twoOf 27 = .ok (.iload_n 1, 1) := by decide +kernel
theorem dX12_twoOf_28 : decode cX12_twoOf 28 = .ok (.iconst 5, 1) := by decide +kernel
theorem dX12_twoOf_29 : decode cX12_twoOf 29 = .ok (.if_icmp .ne 7, 3) := by decide +kernel
theorem dX12_twoOf_32 : decode cX12_twoOf 32 = .ok (.iload_n 2, 1) := by decide +kernel
theorem dX12_twoOf_33 : decode cX12_twoOf 33 = .ok (.iload_n 3, 1) := by decide +kernel
theorem dX12_twoOf_34 : decode cX12_twoOf 34 = .ok (.idiv, 1) := by decide +kernel
theorem dX12_twoOf_35 : decode cX12_twoOf 35 = .ok (.ireturn, 1) := by decide +kernel
theorem dX12_twoOf_36 : decode cX12_twoOf 36 = .ok (.iload_n 1, 1) := by decide +kernel
theorem dX12_twoOf_37 : decode cX12_twoOf 37 = .ok (.bipush 6, 2) := by decide +kernel
theorem dX12_twoOf_39 : decode cX12_twoOf 39 = .ok (.if_icmp .ne 14, 3) := by decide +kernel
theorem dX12_twoOf_42 : decode cX12_twoOf 42 = .ok (.iload_n 2, 1) := by decide +kernel
theorem dX12_twoOf_43 : decode cX12_twoOf 43 = .ok (.iload_n 3, 1) := by decide +kernel
theorem dX12_twoOf_44 : decode cX12_twoOf 44 = .ok (.if_icmp .ge 7, 3) := by decide +kernel
theorem dX12_twoOf_47 : decode cX12_twoOf 47 = .ok (.iconst 1, 1) := by decide +kernel
theorem dX12_twoOf_48 : decode cX12_twoOf 48 = .ok (.goto 4, 3) := by decide +kernel
theorem dX12_twoOf_51 : decode cX12_twoOf 51 = .ok (.iconst 0, 1) := by decide +kernel
theorem dX12_twoOf_52 : decode cX12_twoOf 52 = .ok (.ireturn, 1) := by decide +kernel
theorem dX12_twoOf_53 : decode cX12_twoOf 53 = .ok (.iload_n 1, 1) := by decide +kernel
theorem dX12_twoOf_54 : decode cX12_twoOf 54 = .ok (.bipush 7, 2) := by decide +kernel
theorem dX12_twoOf_56 : decode cX12_twoOf 56 = .ok (.if_icmp .ne 14, 3) := by decide +kernel
theorem dX12_twoOf_59 : decode cX12_twoOf 59 = .ok (.iload_n 2, 1) := by decide +kernel
theorem dX12_twoOf_60 : decode cX12_twoOf 60 = .ok (.iload_n 3, 1) := by decide +kernel
theorem dX12_twoOf_61 : decode cX12_twoOf 61 = .ok (.if_icmp .ne 7, 3) := by decide +kernel
theorem dX12_twoOf_64 : decode cX12_twoOf 64 = .ok (.iconst 1, 1) := by decide +kernel
theorem dX12_twoOf_65 : decode cX12_twoOf 65 = .ok (.goto 4, 3) := by decide +kernel
theorem dX12_twoOf_68 : decode cX12_twoOf 68 = .ok (.iconst 0, 1) := by decide +kernel
theorem dX12_twoOf_69 : decode cX12_twoOf 69 = .ok (.ireturn, 1) := by decide +kernel
theorem dX12_twoOf_70 : decode cX12_twoOf 70 = .ok (.iload_n 1, 1) := by decide +kernel
theorem dX12_twoOf_71 : decode cX12_twoOf 71 = .ok (.bipush 8, 2) := by decide +kernel
theorem dX12_twoOf_73 : decode cX12_twoOf 73 = .ok (.if_icmp .ne 14, 3) := by decide +kernel
theorem dX12_twoOf_76 : decode cX12_twoOf 76 = .ok (.iload_n 2, 1) := by decide +kernel
theorem dX12_twoOf_77 : decode cX12_twoOf 77 = .ok (.iload_n 3, 1) := by decide +kernel
theorem dX12_twoOf_78 : decode cX12_twoOf 78 = .ok (.if_icmp .le 7, 3) := by decide +kernel
theorem dX12_twoOf_81 : decode cX12_twoOf 81 = .ok (.iconst 1, 1) := by decide +kernel
theorem dX12_twoOf_82 : decode cX12_twoOf 82 = .ok (.goto 4, 3) := by decide +kernel
theorem dX12_twoOf_85 : decode cX12_twoOf 85 = .ok (.iconst 0, 1) := by decide +kernel
theorem dX12_twoOf_86 : decode cX12_twoOf 86 = .ok (.ireturn, 1) := by decide +kernel
theorem dX12_twoOf_87 : decode cX12_twoOf 87 = .ok (.iload_n 1, 1) := by decide +kernel
theorem dX12_twoOf_88 : decode cX12_twoOf 88 = .ok (.bipush 10, 2) := by decide +kernel
theorem dX12_twoOf_90 : decode cX12_twoOf 90 = .ok (.if_icmp .ne 9, 3) := by decide +kernel
theorem dX12_twoOf_93 : decode cX12_twoOf 93 = .ok (.iload_n 2, 1) := by decide +kernel
theorem dX12_twoOf_94 : decode cX12_twoOf 94 = .ok (.iload_n 3, 1) := by decide +kernel
theorem dX12_twoOf_95 : decode cX12_twoOf 95 = .ok (.imul, 1) := by decide +kernel
theorem dX12_twoOf_96 : decode cX12_twoOf 96 = .ok (.goto 14, 3) := by decide +kernel
theorem dX12_twoOf_99 : decode cX12_twoOf 99 = .ok (.iload_n 2, 1) := by decide +kernel
theorem dX12_twoOf_100 : decode cX12_twoOf 100 = .ok (.iload_n 3, 1) := by decide +kernel
theorem dX12_twoOf_101 : decode cX12_twoOf 101 = .ok (.iadd, 1) := by decide +kernel
theorem dX12_twoOf_102 : decode cX12_twoOf 102 = .ok (.ifCond .le 7, 3) := by decide +kernel
theorem dX12_twoOf_105 : decode cX12_twoOf 105 = .ok (.iconst 1, 1) := by decide +kernel
theorem dX12_twoOf_106 : decode cX12_twoOf 106 = .ok (.goto 4, 3) := by decide +kernel
theorem dX12_twoOf_109 : decode cX12_twoOf 109 = .ok (.iconst 0, 1) := by decide +kernel
theorem dX12_twoOf_110 : decode cX12_twoOf 110 = .ok (.ireturn, 1) := by decide +kernel
theorem dX12_runs_0 : decode cX12_runs 0 = .ok (.iconst 0, 1) := by decide +kernel
theorem dX12_runs_1 : decode cX12_runs 1 = .ok (.istore 4, 2) := by decide +kernel
theorem dX12_runs_3 : decode cX12_runs 3 = .ok (.sipush 400, 3) := by decide +kernel
theorem dX12_runs_6 : decode cX12_runs 6 = .ok (.iload_n 1, 1) := by decide +kernel
theorem dX12_runs_7 : decode cX12_runs 7 = .ok (.imul, 1) := by decide +kernel
theorem dX12_runs_8 : decode cX12_runs 8 = .ok (.iload_n 2, 1) := by decide +kernel
theorem dX12_runs_9 : decode cX12_runs 9 = .ok (.iadd, 1) := by decide +kernel
theorem dX12_runs_10 : decode cX12_runs 10 = .ok (.istore 5, 2) := by decide +kernel
theorem dX12_runs_12 : decode cX12_runs 12 = .ok (.iload 5, 2) := by decide +kernel
theorem dX12_runs_14 : decode cX12_runs 14 = .ok (.sipush 400, 3) := by decide +kernel
theorem dX12_runs_17 : decode cX12_runs 17 = .ok (.iload_n 1, 1) := by decide +kernel
theorem dX12_runs_18 : decode cX12_runs 18 = .ok (.imul, 1) := by decide +kernel
theorem dX12_runs_19 : decode cX12_runs 19 = .ok (.iload_n 3, 1) := by decide +kernel
theorem dX12_runs_20 : decode cX12_runs 20 = .ok (.iadd, 1) := by decide +kernel
theorem dX12_runs_21 : decode cX12_runs 21 = .ok (.if_icmp .ge 155, 3) := by decide +kernel
theorem dX12_runs_24 : decode cX12_runs 24 = .ok (.aload_n 0, 1) := by decide +kernel
theorem dX12_runs_25 : decode cX12_runs 25 = .ok (.getfield 52, 3) := by decide +kernel
theorem dX12_runs_28 : decode cX12_runs 28 = .ok (.iload 5, 2) := by decide +kernel
theorem dX12_runs_30 : decode cX12_runs 30 = .ok (.iaload, 1) := by decide +kernel
theorem dX12_runs_31 : decode cX12_runs 31 = .ok (.ifCond .eq 14, 3) := by decide +kernel
theorem dX12_runs_34 : decode cX12_runs 34 = .ok (.aload_n 0, 1) := by decide +kernel
theorem dX12_runs_35 : decode cX12_runs 35 = .ok (.getfield 52, 3) := by decide +kernel
theorem dX12_runs_38 : decode cX12_runs 38 = .ok (.iload 5, 2) := by decide +kernel
theorem dX12_runs_40 : decode cX12_runs 40 = .ok (.iaload, 1) := by decide +kernel
theorem dX12_runs_41 : decode cX12_runs 41 = .ok (.iconst 1, 1) := by decide +kernel
theorem dX12_runs_42 : decode cX12_runs 42 = .ok (.if_icmp .ne 51, 3) := by decide +kernel
theorem dX12_runs_45 : decode cX12_runs 45 = .ok (.aload_n 0, 1) := by decide +kernel
theorem dX12_runs_46 : decode cX12_runs 46 = .ok (.getfield 77, 3) := by decide +kernel
theorem dX12_runs_49 : decode cX12_runs 49 = .ok (.iload 4, 2) := by decide +kernel
theorem dX12_runs_51 : decode cX12_runs 51 = .ok (.aload_n 0, 1) := by decide +kernel
theorem dX12_runs_52 : decode cX12_runs 52 = .ok (.getfield 52, 3) := by decide +kernel
theorem dX12_runs_55 : decode cX12_runs 55 = .ok (.iload 5, 2) := by decide +kernel
theorem dX12_runs_57 : decode cX12_runs 57 = .ok (.iaload, 1) := by decide +kernel
theorem dX12_runs_58 : decode cX12_runs 58 = .ok (.ifCond .ne 13, 3) := by decide +kernel
theorem dX12_runs_61 : decode cX12_runs 61 = .ok (.aload_n 0, 1) := by decide +kernel
theorem dX12_runs_62 : decode cX12_runs 62 = .ok (.getfield 55, 3) := by decide +kernel
theorem dX12_runs_65 : decode cX12_runs 65 = .ok (.iload 5, 2) := by decide +kernel
theorem dX12_runs_67 : decode cX12_runs 67 = .ok (.iaload, 1) := by decide +kernel
theorem dX12_runs_68 : decode cX12_runs 68 = .ok (.goto 15, 3) := by decide +kernel
theorem dX12_runs_71 : decode cX12_runs 71 = .ok (.aload_n 0, 1) := by decide +kernel
theorem dX12_runs_72 : decode cX12_runs 72 = .ok (.getfield 74, 3) := by decide +kernel
theorem dX12_runs_75 : decode cX12_runs 75 = .ok (.aload_n 0, 1) := by decide +kernel
theorem dX12_runs_76 : decode cX12_runs 76 = .ok (.getfield 55, 3) := by decide +kernel
theorem dX12_runs_79 : decode cX12_runs 79 = .ok (.iload 5, 2) := by decide +kernel
theorem dX12_runs_81 : decode cX12_runs 81 = .ok (.iaload, 1) := by decide +kernel
theorem dX12_runs_82 : decode cX12_runs 82 = .ok (.iaload, 1) := by decide +kernel
theorem dX12_runs_83 : decode cX12_runs 83 = .ok (.iastore, 1) := by decide +kernel
theorem dX12_runs_84 : decode cX12_runs 84 = .ok (.iload 4, 2) := by decide +kernel
theorem dX12_runs_86 : decode cX12_runs 86 = .ok (.iconst 1, 1) := by decide +kernel
theorem dX12_runs_87 : decode cX12_runs 87 = .ok (.iadd, 1) := by decide +kernel
theorem dX12_runs_88 : decode cX12_runs 88 = .ok (.istore 4, 2) := by decide +kernel
theorem dX12_runs_90 : decode cX12_runs 90 = .ok (.goto 80, 3) := by decide +kernel
theorem dX12_runs_93 : decode cX12_runs 93 = .ok (.aload_n 0, 1) := by decide +kernel
theorem dX12_runs_94 : decode cX12_runs 94 = .ok (.getfield 52, 3) := by decide +kernel
theorem dX12_runs_97 : decode cX12_runs 97 = .ok (.iload 5, 2) := by decide +kernel
theorem dX12_runs_99 : decode cX12_runs 99 = .ok (.iaload, 1) := by decide +kernel
theorem dX12_runs_100 : decode cX12_runs 100 = .ok (.bipush 9, 2) := by decide +kernel
theorem dX12_runs_102 : decode cX12_runs 102 = .ok (.if_icmp .ne 26, 3) := by decide +kernel
theorem dX12_runs_105 : decode cX12_runs 105 = .ok (.aload_n 0, 1) := by decide +kernel
theorem dX12_runs_106 : decode cX12_runs 106 = .ok (.getfield 77, 3) := by decide +kernel
theorem dX12_runs_109 : decode cX12_runs 109 = .ok (.iload 4, 2) := by decide +kernel
theorem dX12_runs_111 : decode cX12_runs 111 = .ok (.iconst 1, 1) := by decide +kernel
theorem dX12_runs_112 : decode cX12_runs 112 = .ok (.isub, 1) := by decide +kernel
theorem dX12_runs_113 : decode cX12_runs 113 = .ok (.iconst 1, 1) := by decide +kernel
theorem dX12_runs_114 : decode cX12_runs 114 = .ok (.aload_n 0, 1) := by decide +kernel
theorem dX12_runs_115 : decode cX12_runs 115 = .ok (.getfield 77, 3) := by decide +kernel
theorem dX12_runs_118 : decode cX12_runs 118 = .ok (.iload 4, 2) := by decide +kernel
theorem dX12_runs_120 : decode cX12_runs 120 = .ok (.iconst 1, 1) := by decide +kernel
theorem dX12_runs_121 : decode cX12_runs 121 = .ok (.isub, 1) := by decide +kernel
theorem dX12_runs_122 : decode cX12_runs 122 = .ok (.iaload, 1) := by decide +kernel
theorem dX12_runs_123 : decode cX12_runs 123 = .ok (.isub, 1) := by decide +kernel
theorem dX12_runs_124 : decode cX12_runs 124 = .ok (.iastore, 1) := by decide +kernel
theorem dX12_runs_125 : decode cX12_runs 125 = .ok (.goto 45, 3) := by decide +kernel
theorem dX12_runs_128 : decode cX12_runs 128 = .ok (.iload 4, 2) := by decide +kernel
theorem dX12_runs_130 : decode cX12_runs 130 = .ok (.iconst 1, 1) := by decide +kernel
theorem dX12_runs_131 : decode cX12_runs 131 = .ok (.isub, 1) := by decide +kernel
theorem dX12_runs_132 : decode cX12_runs 132 = .ok (.istore 4, 2) := by decide +kernel
theorem dX12_runs_134 : decode cX12_runs 134 = .ok (.aload_n 0, 1) := by decide +kernel
theorem dX12_runs_135 : decode cX12_runs 135 = .ok (.getfield 77, 3) := by decide +kernel
theorem dX12_runs_138 : decode cX12_runs 138 = .ok (.iload 4, 2) := by decide +kernel
theorem dX12_runs_140 : decode cX12_runs 140 = .ok (.iconst 1, 1) := by decide +kernel
theorem dX12_runs_141 : decode cX12_runs 141 = .ok (.isub, 1) := by decide +kernel
theorem dX12_runs_142 : decode cX12_runs 142 = .ok (.aload_n 0, 1) := by decide +kernel
theorem dX12_runs_143 : decode cX12_runs 143 = .ok (.aload_n 0, 1) := by decide +kernel
theorem dX12_runs_144 : decode cX12_runs 144 = .ok (.getfield 52, 3) := by decide +kernel
theorem dX12_runs_147 : decode cX12_runs 147 = .ok (.iload 5, 2) := by decide +kernel
theorem dX12_runs_149 : decode cX12_runs 149 = .ok (.iaload, 1) := by decide +kernel
theorem dX12_runs_150 : decode cX12_runs 150 = .ok (.aload_n 0, 1) := by decide +kernel
theorem dX12_runs_151 : decode cX12_runs 151 = .ok (.getfield 77, 3) := by decide +kernel
theorem dX12_runs_154 : decode cX12_runs 154 = .ok (.iload 4, 2) := by decide +kernel
theorem dX12_runs_156 : decode cX12_runs 156 = .ok (.iconst 1, 1) := by decide +kernel
theorem dX12_runs_157 : decode cX12_runs 157 = .ok (.isub, 1) := by decide +kernel
theorem dX12_runs_158 : decode cX12_runs 158 = .ok (.iaload, 1) := by decide +kernel
theorem dX12_runs_159 : decode cX12_runs 159 = .ok (.aload_n 0, 1) := by decide +kernel
theorem dX12_runs_160 : decode cX12_runs 160 = .ok (.getfield 77, 3) := by decide +kernel
theorem dX12_runs_163 : decode cX12_runs 163 = .ok (.iload 4, 2) := by decide +kernel
theorem dX12_runs_165 : decode cX12_runs 165 = .ok (.iaload, 1) := by decide +kernel
theorem dX12_runs_166 : decode cX12_runs 166 = .ok (.invokevirtual 373, 3) := by decide +kernel
theorem dX12_runs_169 : decode cX12_runs 169 = .ok (.iastore, 1) := by decide +kernel
theorem dX12_runs_170 : decode cX12_runs 170 = .ok (.iinc 5 1, 3) := by decide +kernel
theorem dX12_runs_173 : decode cX12_runs 173 = .ok (.goto (-161), 3) := by decide +kernel
theorem dX12_runs_176 : decode cX12_runs 176 = .ok (.aload_n 0, 1) := by decide +kernel
theorem dX12_runs_177 : decode cX12_runs 177 = .ok (.getfield 77, 3) := by decide +kernel
theorem dX12_runs_180 : decode cX12_runs 180 = .ok (.iconst 0, 1) := by decide +kernel
theorem dX12_runs_181 : decode cX12_runs 181 = .ok (.iaload, 1) := by decide +kernel
theorem dX12_runs_182 : decode cX12_runs 182 = .ok (.ireturn, 1) := by decide +kernel
theorem dX12_lineOf_0 : decode cX12_lineOf 0 = .ok (.iconst 0, 1) := by decide +kernel
theorem dX12_lineOf_1 : decode cX12_lineOf 1 = .ok (.istore_n 2, 1) := by decide +kernel
theorem dX12_lineOf_2 : decode cX12_lineOf 2 = .ok (.iload_n 2, 1) := by decide +kernel
theorem dX12_lineOf_3 : decode cX12_lineOf 3 = .ok (.aload_n 0, 1) := by decide +kernel
theorem dX12_lineOf_4 : decode cX12_lineOf 4 = .ok (.getfield 37, 3) := by decide +kernel
theorem dX12_lineOf_7 : decode cX12_lineOf 7 = .ok (.iconst 0, 1) := by decide +kernel
theorem dX12_lineOf_8 : decode cX12_lineOf 8 = .ok (.iaload, 1) := by decide +kernel
theorem dX12_lineOf_9 : decode cX12_lineOf 9 = .ok (.if_icmp .ge 56, 3) := by decide +kernel
theorem dX12_lineOf_12 : decode cX12_lineOf 12 = .ok (.aload_n 0, 1) := by decide +kernel
theorem dX12_lineOf_13 : decode cX12_lineOf 13 = .ok (.getfield 40, 3) := by decide +kernel
theorem dX12_lineOf_16 : decode cX12_lineOf 16 = .ok (.iload_n 2, 1) := by decide +kernel
theorem dX12_lineOf_17 : decode cX12_lineOf 17 = .ok (.iaload, 1) := by decide +kernel
theorem dX12_lineOf_18 : decode cX12_lineOf 18 = .ok (.iload_n 1, 1) := by decide +kernel
theorem dX12_lineOf_19 : decode cX12_lineOf 19 = .ok (.if_icmp .ne 40, 3) := by decide +kernel
theorem dX12_lineOf_22 : decode cX12_lineOf 22 = .ok (.aload_n 0, 1) := by decide +kernel
theorem dX12_lineOf_23 : decode cX12_lineOf 23 = .ok (.getfield 46, 3) := by decide +kernel
theorem dX12_lineOf_26 : decode cX12_lineOf 26 = .ok (.iload_n 2, 1) := by decide +kernel
theorem dX12_lineOf_27 : decode cX12_lineOf 27 = .ok (.iaload, 1) := by decide +kernel
theorem dX12_lineOf_28 : decode cX12_lineOf 28 = .ok (.aload_n 0, 1) := by decide +kernel
theorem dX12_lineOf_29 : decode cX12_lineOf 29 = .ok (.getfield 49, 3) := by decide +kernel
theorem dX12_lineOf_32 : decode cX12_lineOf 32 = .ok (.iload_n 2, 1) := by decide +kernel
theorem dX12_lineOf_33 : decode cX12_lineOf 33 = .ok (.iaload, 1) := by decide +kernel
theorem dX12_lineOf_34 : decode cX12_lineOf 34 = .ok (.if_icmp .eq 23, 3) := by decide +kernel
theorem dX12_lineOf_37 : decode cX12_lineOf 37 = .ok (.aload_n 0, 1) := by decide +kernel
theorem dX12_lineOf_38 : decode cX12_lineOf 38 = .ok (.iconst 0, 1) := by decide +kernel
theorem dX12_lineOf_39 : decode cX12_lineOf 39 = .ok (.aload_n 0, 1) := by decide +kernel
theorem dX12_lineOf_40 : decode cX12_lineOf 40 = .ok (.getfield 46, 3) := by decide +kernel
theorem dX12_lineOf_43 : decode cX12_lineOf 43 = .ok (.iload_n 2, 1) := by decide +kernel
theorem dX12_lineOf_44 : decode cX12_lineOf 44 = .ok (.iaload, 1) := by decide +kernel
theorem dX12_lineOf_45 : decode cX12_lineOf 45 = .ok (.aload_n 0, 1) := by decide +kernel
theorem dX12_lineOf_46 : decode cX12_lineOf 46 = .ok (.getfield 49, 3) := by decide +kernel
theorem dX12_lineOf_49 : decode cX12_lineOf 49 = .ok (.iload_n 2, 1) := by decide +kernel
theorem dX12_lineOf_50 : decode cX12_lineOf 50 = .ok (.iaload, 1) := by decide +kernel
theorem dX12_lineOf_51 : decode cX12_lineOf 51 = .ok (.invokevirtual 376, 3) := by decide +kernel
theorem dX12_lineOf_54 : decode cX12_lineOf 54 = .ok (.ifCond .eq 5, 3) := by decide +kernel
theorem dX12_lineOf_57 : decode cX12_lineOf 57 = .ok (.iload_n 2, 1) := by decide +kernel
theorem dX12_lineOf_58 : decode cX12_lineOf 58 = .ok (.ireturn, 1) := by decide +kernel
theorem dX12_lineOf_59 : decode cX12_lineOf 59 = .ok (.iinc 2 1, 3) := by decide +kernel
theorem dX12_lineOf_62 : decode cX12_lineOf 62 = .ok (.goto (-60), 3) := by decide +kernel
theorem dX12_lineOf_65 : decode cX12_lineOf 65 = .ok (.iconst (-1), 1) := by decide +kernel
theorem dX12_lineOf_66 : decode cX12_lineOf 66 = .ok (.ireturn, 1) := by decide +kernel
theorem dX12_asks_0 : decode cX12_asks 0 = .ok (.aload_n 0, 1) := by decide +kernel
theorem dX12_asks_1 : decode cX12_asks 1 = .ok (.getfield 74, 3) := by decide +kernel
theorem dX12_asks_4 : decode cX12_asks 4 = .ok (.iconst 0, 1) := by decide +kernel
theorem dX12_asks_5 : decode cX12_asks 5 = .ok (.iload_n 1, 1) := by decide +kernel
theorem dX12_asks_6 : decode cX12_asks 6 = .ok (.iconst (-1), 1) := by decide +kernel
theorem dX12_asks_7 : decode cX12_asks 7 = .ok (.if_icmp .ne 7, 3) := by decide +kernel
theorem dX12_asks_10 : decode cX12_asks 10 = .ok (.iconst 0, 1) := by decide +kernel
theorem dX12_asks_11 : decode cX12_asks 11 = .ok (.goto 9, 3) := by decide +kernel
theorem dX12_asks_14 : decode cX12_asks 14 = .ok (.aload_n 0, 1) := by decide +kernel
theorem dX12_asks_15 : decode cX12_asks 15 = .ok (.getfield 22, 3) := by decide +kernel
theorem dX12_asks_18 : decode cX12_asks 18 = .ok (.iload_n 1, 1) := by decide +kernel
theorem dX12_asks_19 : decode cX12_asks 19 = .ok (.iaload, 1) := by decide +kernel
theorem dX12_asks_20 : decode cX12_asks 20 = .ok (.iastore, 1) := by decide +kernel
theorem dX12_asks_21 : decode cX12_asks 21 = .ok (.aload_n 0, 1) := by decide +kernel
theorem dX12_asks_22 : decode cX12_asks 22 = .ok (.getfield 74, 3) := by decide +kernel
theorem dX12_asks_25 : decode cX12_asks 25 = .ok (.iconst 1, 1) := by decide +kernel
theorem dX12_asks_26 : decode cX12_asks 26 = .ok (.iload_n 1, 1) := by decide +kernel
theorem dX12_asks_27 : decode cX12_asks 27 = .ok (.iconst (-1), 1) := by decide +kernel
theorem dX12_asks_28 : decode cX12_asks 28 = .ok (.if_icmp .ne 7, 3) := by decide +kernel
theorem dX12_asks_31 : decode cX12_asks 31 = .ok (.iconst 0, 1) := by decide +kernel
theorem dX12_asks_32 : decode cX12_asks 32 = .ok (.goto 9, 3) := by decide +kernel
theorem dX12_asks_35 : decode cX12_asks 35 = .ok (.aload_n 0, 1) := by decide +kernel
theorem dX12_asks_36 : decode cX12_asks 36 = .ok (.getfield 25, 3) := by decide +kernel
theorem dX12_asks_39 : decode cX12_asks 39 = .ok (.iload_n 1, 1) := by decide +kernel
theorem dX12_asks_40 : decode cX12_asks 40 = .ok (.iaload, 1) := by decide +kernel
theorem dX12_asks_41 : decode cX12_asks 41 = .ok (.iastore, 1) := by decide +kernel
theorem dX12_asks_42 : decode cX12_asks 42 = .ok (.aload_n 0, 1) := by decide +kernel
theorem dX12_asks_43 : decode cX12_asks 43 = .ok (.getfield 74, 3) := by decide +kernel
theorem dX12_asks_46 : decode cX12_asks 46 = .ok (.iconst 2, 1) := by decide +kernel
theorem dX12_asks_47 : decode cX12_asks 47 = .ok (.aload_n 0, 1) := by decide +kernel
theorem dX12_asks_48 : decode cX12_asks 48 = .ok (.aload_n 0, 1) := by decide +kernel
theorem dX12_asks_49 : decode cX12_asks 49 = .ok (.iload_n 2, 1) := by decide +kernel
theorem dX12_asks_50 : decode cX12_asks 50 = .ok (.invokevirtual 379, 3) := by decide +kernel
theorem dX12_asks_53 : decode cX12_asks 53 = .ok (.invokevirtual 382, 3) := by decide +kernel
theorem dX12_asks_56 : decode cX12_asks 56 = .ok (.iastore, 1) := by decide +kernel
theorem dX12_asks_57 : decode cX12_asks 57 = .ok (.aload_n 0, 1) := by decide +kernel
theorem dX12_asks_58 : decode cX12_asks 58 = .ok (.getfield 74, 3) := by decide +kernel
theorem dX12_asks_61 : decode cX12_asks 61 = .ok (.iconst 3, 1) := by decide +kernel
theorem dX12_asks_62 : decode cX12_asks 62 = .ok (.iload_n 1, 1) := by decide +kernel
theorem dX12_asks_63 : decode cX12_asks 63 = .ok (.iconst (-1), 1) := by decide +kernel
theorem dX12_asks_64 : decode cX12_asks 64 = .ok (.if_icmp .ne 7, 3) := by decide +kernel
theorem dX12_asks_67 : decode cX12_asks 67 = .ok (.iconst 0, 1) := by decide +kernel
theorem dX12_asks_68 : decode cX12_asks 68 = .ok (.goto 12, 3) := by decide +kernel
theorem dX12_asks_71 : decode cX12_asks 71 = .ok (.aload_n 0, 1) := by decide +kernel
theorem dX12_asks_72 : decode cX12_asks 72 = .ok (.getfield 7, 3) := by decide +kernel
theorem dX12_asks_75 : decode cX12_asks 75 = .ok (.bipush 61, 2) := by decide +kernel
theorem dX12_asks_77 : decode cX12_asks 77 = .ok (.iload_n 1, 1) := by decide +kernel
theorem dX12_asks_78 : decode cX12_asks 78 = .ok (.iadd, 1) := by decide +kernel
theorem dX12_asks_79 : decode cX12_asks 79 = .ok (.iaload, 1) := by decide +kernel
theorem dX12_asks_80 : decode cX12_asks 80 = .ok (.iastore, 1) := by decide +kernel
theorem dX12_asks_81 : decode cX12_asks 81 = .ok (.aload_n 0, 1) := by decide +kernel
theorem dX12_asks_82 : decode cX12_asks 82 = .ok (.getfield 74, 3) := by decide +kernel
theorem dX12_asks_85 : decode cX12_asks 85 = .ok (.iconst 4, 1) := by decide +kernel
theorem dX12_asks_86 : decode cX12_asks 86 = .ok (.aload_n 0, 1) := by decide +kernel
theorem dX12_asks_87 : decode cX12_asks 87 = .ok (.getfield 7, 3) := by decide +kernel
theorem dX12_asks_90 : decode cX12_asks 90 = .ok (.iconst 5, 1) := by decide +kernel
theorem dX12_asks_91 : decode cX12_asks 91 = .ok (.iload_n 2, 1) := by decide +kernel
theorem dX12_asks_92 : decode cX12_asks 92 = .ok (.iadd, 1) := by decide +kernel
theorem dX12_asks_93 : decode cX12_asks 93 = .ok (.iaload, 1) := by decide +kernel
theorem dX12_asks_94 : decode cX12_asks 94 = .ok (.iastore, 1) := by decide +kernel
theorem dX12_asks_95 : decode cX12_asks 95 = .ok (.aload_n 0, 1) := by decide +kernel
theorem dX12_asks_96 : decode cX12_asks 96 = .ok (.getfield 74, 3) := by decide +kernel
theorem dX12_asks_99 : decode cX12_asks 99 = .ok (.iconst 5, 1) := by decide +kernel
theorem dX12_asks_100 : decode cX12_asks 100 = .ok (.aload_n 0, 1) := by decide +kernel
theorem dX12_asks_101 : decode cX12_asks 101 = .ok (.getfield 7, 3) := by decide +kernel
theorem dX12_asks_104 : decode cX12_asks 104 = .ok (.bipush 17, 2) := by decide +kernel
theorem dX12_asks_106 : decode cX12_asks 106 = .ok (.iload_n 2, 1) := by decide +kernel
theorem dX12_asks_107 : decode cX12_asks 107 = .ok (.iadd, 1) := by decide +kernel
theorem dX12_asks_108 : decode cX12_asks 108 = .ok (.iaload, 1) := by decide +kernel
theorem dX12_asks_109 : decode cX12_asks 109 = .ok (.iastore, 1) := by decide +kernel
theorem dX12_asks_110 : decode cX12_asks 110 = .ok (.aload_n 0, 1) := by decide +kernel
theorem dX12_asks_111 : decode cX12_asks 111 = .ok (.getfield 74, 3) := by decide +kernel
theorem dX12_asks_114 : decode cX12_asks 114 = .ok (.bipush 6, 2) := by decide +kernel
theorem dX12_asks_116 : decode cX12_asks 116 = .ok (.aload_n 0, 1) := by decide +kernel
theorem dX12_asks_117 : decode cX12_asks 117 = .ok (.getfield 7, 3) := by decide +kernel
theorem dX12_asks_120 : decode cX12_asks 120 = .ok (.iconst 1, 1) := by decide +kernel
theorem dX12_asks_121 : decode cX12_asks 121 = .ok (.iaload, 1) := by decide +kernel
theorem dX12_asks_122 : decode cX12_asks 122 = .ok (.iastore, 1) := by decide +kernel
theorem dX12_asks_123 : decode cX12_asks 123 = .ok (.aload_n 0, 1) := by decide +kernel
theorem dX12_asks_124 : decode cX12_asks 124 = .ok (.getfield 74, 3) := by decide +kernel
theorem dX12_asks_127 : decode cX12_asks 127 = .ok (.bipush 7, 2) := by decide +kernel
theorem dX12_asks_129 : decode cX12_asks 129 = .ok (.iload_n 1, 1) := by decide +kernel
theorem dX12_asks_130 : decode cX12_asks 130 = .ok (.iconst (-1), 1) := by decide +kernel
theorem dX12_asks_131 : decode cX12_asks 131 = .ok (.if_icmp .ne 7, 3) := by decide +kernel
theorem dX12_asks_134 : decode cX12_asks 134 = .ok (.iconst 0, 1) := by decide +kernel
theorem dX12_asks_135 : decode cX12_asks 135 = .ok (.goto 12, 3) := by decide +kernel
theorem dX12_asks_138 : decode cX12_asks 138 = .ok (.aload_n 0, 1) := by decide +kernel
theorem dX12_asks_139 : decode cX12_asks 139 = .ok (.getfield 7, 3) := by decide +kernel
theorem dX12_asks_142 : decode cX12_asks 142 = .ok (.bipush 101, 2) := by decide +kernel
theorem dX12_asks_144 : decode cX12_asks 144 = .ok (.iload_n 1, 1) := by decide +kernel
theorem dX12_asks_145 : decode cX12_asks 145 = .ok (.iadd, 1) := by decide +kernel
theorem dX12_asks_146 : decode cX12_asks 146 = .ok (.iaload, 1) := by decide +kernel
theorem dX12_asks_147 : decode cX12_asks 147 = .ok (.iastore, 1) := by decide +kernel
theorem dX12_asks_148 : decode cX12_asks 148 = .ok (.aload_n 0, 1) := by decide +kernel
theorem dX12_asks_149 : decode cX12_asks 149 = .ok (.getfield 74, 3) := by decide +kernel
theorem dX12_asks_152 : decode cX12_asks 152 = .ok (.bipush 8, 2) := by decide +kernel
theorem dX12_asks_154 : decode cX12_asks 154 = .ok (.iload_n 1, 1) := by decide +kernel
theorem dX12_asks_155 : decode cX12_asks 155 = .ok (.iconst (-1), 1) := by decide +kernel
theorem dX12_asks_156 : decode cX12_asks 156 = .ok (.if_icmp .ne 7, 3) := by decide +kernel
theorem dX12_asks_159 : decode cX12_asks 159 = .ok (.iconst 0, 1) := by decide +kernel
theorem dX12_asks_160 : decode cX12_asks 160 = .ok (.goto 12, 3) := by decide +kernel
theorem dX12_asks_163 : decode cX12_asks 163 = .ok (.aload_n 0, 1) := by decide +kernel
theorem dX12_asks_164 : decode cX12_asks 164 = .ok (.getfield 7, 3) := by decide +kernel
theorem dX12_asks_167 : decode cX12_asks 167 = .ok (.bipush 121, 2) := by decide +kernel
theorem dX12_asks_169 : decode cX12_asks 169 = .ok (.iload_n 1, 1) := by decide +kernel
theorem dX12_asks_170 : decode cX12_asks 170 = .ok (.iadd, 1) := by decide +kernel
theorem dX12_asks_171 : decode cX12_asks 171 = .ok (.iaload, 1) := by decide +kernel
theorem dX12_asks_172 : decode cX12_asks 172 = .ok (.iastore, 1) := by decide +kernel
theorem dX12_asks_173 : decode cX12_asks 173 = .ok (.aload_n 0, 1) := by decide +kernel
theorem dX12_asks_174 : decode cX12_asks 174 = .ok (.getfield 74, 3) := by decide +kernel
theorem dX12_asks_177 : decode cX12_asks 177 = .ok (.bipush 9, 2) := by decide +kernel
theorem dX12_asks_179 : decode cX12_asks 179 = .ok (.aload_n 0, 1) := by decide +kernel
theorem dX12_asks_180 : decode cX12_asks 180 = .ok (.getfield 7, 3) := by decide +kernel
theorem dX12_asks_183 : decode cX12_asks 183 = .ok (.iconst 0, 1) := by decide +kernel
theorem dX12_asks_184 : decode cX12_asks 184 = .ok (.iaload, 1) := by decide +kernel
theorem dX12_asks_185 : decode cX12_asks 185 = .ok (.iastore, 1) := by decide +kernel
theorem dX12_asks_186 : decode cX12_asks 186 = .ok (.return_, 1) := by decide +kernel
theorem dX12_lawTells_0 : decode cX12_lawTells 0 = .ok (.aload_n 0, 1) := by decide +kernel
theorem dX12_lawTells_1 : decode cX12_lawTells 1 = .ok (.iload_n 1, 1) := by decide +kernel
theorem dX12_lawTells_2 : decode cX12_lawTells 2 = .ok (.invokevirtual 385, 3) := by decide +kernel
theorem dX12_lawTells_5 : decode cX12_lawTells 5 = .ok (.istore 4, 2) := by decide +kernel
theorem dX12_lawTells_7 : decode cX12_lawTells 7 = .ok (.aload_n 0, 1) := by decide +kernel
theorem dX12_lawTells_8 : decode cX12_lawTells 8 = .ok (.iload 4, 2) := by decide +kernel
theorem dX12_lawTells_10 : decode cX12_lawTells 10 = .ok (.iconst (-1), 1) := by decide +kernel
theorem dX12_lawTells_11 : decode cX12_lawTells 11 = .ok (.if_icmp .ne 7, 3) := by decide +kernel
theorem dX12_lawTells_14 : decode cX12_lawTells 14 = .ok (.iload_n 2, 1) := by decide +kernel
theorem dX12_lawTells_15 : decode cX12_lawTells 15 = .ok (.goto 22, 3) := by decide +kernel
theorem dX12_lawTells_18 : decode cX12_lawTells 18 = .ok (.aload_n 0, 1) := by decide +kernel
theorem dX12_lawTells_19 : decode cX12_lawTells 19 = .ok (.iconst 0, 1) := by decide +kernel
theorem dX12_lawTells_20 : decode cX12_lawTells 20 = .ok (.aload_n 0, 1) := by decide +kernel
theorem dX12_lawTells_21 : decode cX12_lawTells 21 = .ok (.getfield 43, 3) := by decide +kernel
theorem dX12_lawTells_24 : decode cX12_lawTells 24 = .ok (.iload 4, 2) := by decide +kernel
theorem dX12_lawTells_26 : decode cX12_lawTells 26 = .ok (.iaload, 1) := by decide +kernel
theorem dX12_lawTells_27 : decode cX12_lawTells 27 = .ok (.aload_n 0, 1) := by decide +kernel
theorem dX12_lawTells_28 : decode cX12_lawTells 28 = .ok (.getfield 46, 3) := by decide +kernel
theorem dX12_lawTells_31 : decode cX12_lawTells 31 = .ok (.iload 4, 2) := by decide +kernel
theorem dX12_lawTells_33 : decode cX12_lawTells 33 = .ok (.iaload, 1) := by decide +kernel
theorem dX12_lawTells_34 : decode cX12_lawTells 34 = .ok (.invokevirtual 376, 3) := by decide +kernel
theorem dX12_lawTells_37 : decode cX12_lawTells 37 = .ok (.iconst 0, 1) := by decide +kernel
theorem dX12_lawTells_38 : decode cX12_lawTells 38 = .ok (.iload_n 3, 1) := by decide +kernel
theorem dX12_lawTells_39 : decode cX12_lawTells 39 = .ok (.invokevirtual 388, 3) := by decide +kernel
theorem dX12_lawTells_42 : decode cX12_lawTells 42 = .ok (.ireturn, 1) := by decide +kernel
theorem dX12_speaksOf_0 : decode cX12_speaksOf 0 = .ok (.aload_n 0, 1) := by decide +kernel
theorem dX12_speaksOf_1 : decode cX12_speaksOf 1 = .ok (.iload_n 1, 1) := by decide +kernel
theorem dX12_speaksOf_2 : decode cX12_speaksOf 2 = .ok (.aload_n 0, 1) := by decide +kernel
theorem dX12_speaksOf_3 : decode cX12_speaksOf 3 = .ok (.iload_n 1, 1) := by decide +kernel
theorem dX12_speaksOf_4 : decode cX12_speaksOf 4 = .ok (.invokevirtual 202, 3) := by decide +kernel
theorem dX12_speaksOf_7 : decode cX12_speaksOf 7 = .ok (.invokevirtual 391, 3) := by decide +kernel
theorem dX12_speaksOf_10 : decode cX12_speaksOf 10 = .ok (.aload_n 0, 1) := by decide +kernel
theorem dX12_speaksOf_11 : decode cX12_speaksOf 11 = .ok (.iconst 0, 1) := by decide +kernel
theorem dX12_speaksOf_12 : decode cX12_speaksOf 12 = .ok (.bipush 60, 2) := by decide +kernel
theorem dX12_speaksOf_14 : decode cX12_speaksOf 14 = .ok (.aload_n 0, 1) := by decide +kernel
theorem dX12_speaksOf_15 : decode cX12_speaksOf 15 = .ok (.getfield 74, 3) := by decide +kernel
theorem dX12_speaksOf_18 : decode cX12_speaksOf 18 = .ok (.iconst 0, 1) := by decide +kernel
theorem dX12_speaksOf_19 : decode cX12_speaksOf 19 = .ok (.iaload, 1) := by decide +kernel
theorem dX12_speaksOf_20 : decode cX12_speaksOf 20 = .ok (.imul, 1) := by decide +kernel
theorem dX12_speaksOf_21 : decode cX12_speaksOf 21 = .ok (.sipush 1000, 3) := by decide +kernel
theorem dX12_speaksOf_24 : decode cX12_speaksOf 24 = .ok (.invokevirtual 394, 3) := by decide +kernel
theorem dX12_speaksOf_27 : decode cX12_speaksOf 27 = .ok (.ireturn, 1) := by decide +kernel
theorem dX12_hearsOf_0 : decode cX12_hearsOf 0 = .ok (.aload_n 0, 1) := by decide +kernel
theorem dX12_hearsOf_1 : decode cX12_hearsOf 1 = .ok (.iload_n 1, 1) := by decide +kernel
theorem dX12_hearsOf_2 : decode cX12_hearsOf 2 = .ok (.iload_n 2, 1) := by decide +kernel
theorem dX12_hearsOf_3 : decode cX12_hearsOf 3 = .ok (.invokevirtual 391, 3) := by decide +kernel
theorem dX12_hearsOf_6 : decode cX12_hearsOf 6 = .ok (.aload_n 0, 1) := by decide +kernel
theorem dX12_hearsOf_7 : decode cX12_hearsOf 7 = .ok (.iconst 1, 1) := by decide +kernel
theorem dX12_hearsOf_8 : decode cX12_hearsOf 8 = .ok (.bipush 100, 2) := by decide +kernel
theorem dX12_hearsOf_10 : decode cX12_hearsOf 10 = .ok (.aload_n 0, 1) := by decide +kernel
theorem dX12_hearsOf_11 : decode cX12_hearsOf 11 = .ok (.getfield 74, 3) := by decide +kernel
theorem dX12_hearsOf_14 : decode cX12_hearsOf 14 = .ok (.iconst 1, 1) := by decide +kernel
theorem dX12_hearsOf_15 : decode cX12_hearsOf 15 = .ok (.iaload, 1) := by decide +kernel
theorem dX12_hearsOf_16 : decode cX12_hearsOf 16 = .ok (.imul, 1) := by decide +kernel
theorem dX12_hearsOf_17 : decode cX12_hearsOf 17 = .ok (.sipush 1000, 3) := by decide +kernel
theorem dX12_hearsOf_20 : decode cX12_hearsOf 20 = .ok (.invokevirtual 394, 3) := by decide +kernel
theorem dX12_hearsOf_23 : decode cX12_hearsOf 23 = .ok (.ireturn, 1) := by decide +kernel
theorem dX12_spinsOf_0 : decode cX12_spinsOf 0 = .ok (.aload_n 0, 1) := by decide +kernel
theorem dX12_spinsOf_1 : decode cX12_spinsOf 1 = .ok (.iconst (-1), 1) := by decide +kernel
theorem dX12_spinsOf_2 : decode cX12_spinsOf 2 = .ok (.iload_n 1, 1) := by decide +kernel
theorem dX12_spinsOf_3 : decode cX12_spinsOf 3 = .ok (.invokevirtual 391, 3) := by decide +kernel
theorem dX12_spinsOf_6 : decode cX12_spinsOf 6 = .ok (.aload_n 0, 1) := by decide +kernel
theorem dX12_spinsOf_7 : decode cX12_spinsOf 7 = .ok (.iconst 2, 1) := by decide +kernel
theorem dX12_spinsOf_8 : decode cX12_spinsOf 8 = .ok (.iconst 1, 1) := by decide +kernel
theorem dX12_spinsOf_9 : decode cX12_spinsOf 9 = .ok (.bipush 9, 2) := by decide +kernel
theorem dX12_spinsOf_11 : decode cX12_spinsOf 11 = .ok (.invokevirtual 394, 3) := by decide +kernel
theorem dX12_spinsOf_14 : decode cX12_spinsOf 14 = .ok (.ireturn, 1) := by decide +kernel
theorem dX12_notes_0 : decode cX12_notes 0 = .ok (.aload_n 0, 1) := by decide +kernel
theorem dX12_notes_1 : decode cX12_notes 1 = .ok (.getfield 190, 3) := by decide +kernel
theorem dX12_notes_4 : decode cX12_notes 4 = .ok (.ifCond .ne 15, 3) := by decide +kernel
theorem dX12_notes_7 : decode cX12_notes 7 = .ok (.aload_n 0, 1) := by decide +kernel
theorem dX12_notes_8 : decode cX12_notes 8 = .ok (.getfield 7, 3) := by decide +kernel
theorem dX12_notes_11 : decode cX12_notes 11 = .ok (.iconst 3, 1) := by decide +kernel
theorem dX12_notes_12 : decode cX12_notes 12 = .ok (.iaload, 1) := by decide +kernel
theorem dX12_notes_13 : decode cX12_notes 13 = .ok (.sipush 150, 3) := by decide +kernel
theorem dX12_notes_16 : decode cX12_notes 16 = .ok (.if_icmp .ne 4, 3) := by decide +kernel
theorem dX12_notes_19 : decode cX12_notes 19 = .ok (.return_, 1) := by decide +kernel
theorem dX12_notes_20 : decode cX12_notes 20 = .ok (.iconst 5, 1) := by decide +kernel
theorem dX12_notes_21 : decode cX12_notes 21 = .ok (.aload_n 0, 1) := by decide +kernel
theorem dX12_notes_22 : decode cX12_notes 22 = .ok (.getfield 7, 3) := by decide +kernel
theorem dX12_notes_25 : decode cX12_notes 25 = .ok (.iconst 3, 1) := by decide +kernel
theorem dX12_notes_26 : decode cX12_notes 26 = .ok (.iaload, 1) := by decide +kernel
theorem dX12_notes_27 : decode cX12_notes 27 = .ok (.imul, 1) := by decide +kernel
theorem dX12_notes_28 : decode cX12_notes 28 = .ok (.istore 4, 2) := by decide +kernel
theorem dX12_notes_30 : decode cX12_notes 30 = .ok (.aload_n 0, 1) := by decide +kernel
theorem dX12_notes_31 : decode cX12_notes 31 = .ok (.getfield 28, 3) := by decide +kernel
theorem dX12_notes_34 : decode cX12_notes 34 = .ok (.iload 4, 2) := by decide +kernel
theorem dX12_notes_36 : decode cX12_notes 36 = .ok (.aload_n 0, 1) := by decide +kernel
theorem dX12_notes_37 : decode cX12_notes 37 = .ok (.getfield 7, 3) := by decide +kernel
theorem dX12_notes_40 : decode cX12_notes 40 = .ok (.iconst 0, 1) := by decide +kernel
theorem dX12_notes_41 : decode cX12_notes 41 = .ok (.iaload, 1) := by decide +kernel
theorem dX12_notes_42 : decode cX12_notes 42 = .ok (.iastore, 1) := by decide +kernel
theorem dX12_notes_43 : decode cX12_notes 43 = .ok (.aload_n 0, 1) := by decide +kernel
theorem dX12_notes_44 : decode cX12_notes 44 = .ok (.getfield 28, 3) := by decide +kernel
theorem dX12_notes_47 : decode cX12_notes 47 = .ok (.iload 4, 2) := by decide +kernel
theorem dX12_notes_49 : decode cX12_notes 49 = .ok (.iconst 1, 1) := by decide +kernel
theorem dX12_notes_50 : decode cX12_notes 50 = .ok (.iadd, 1) := by decide +kernel
theorem dX12_notes_51 : decode cX12_notes 51 = .ok (.aload_n 0, 1) := by decide +kernel
theorem dX12_notes_52 : decode cX12_notes 52 = .ok (.getfield 7, 3) := by decide +kernel
theorem dX12_notes_55 : decode cX12_notes 55 = .ok (.iconst 1, 1) := by decide +kernel
theorem dX12_notes_56 : decode cX12_notes 56 = .ok (.iaload, 1) := by decide +kernel
theorem dX12_notes_57 : decode cX12_notes 57 = .ok (.iastore, 1) := by decide +kernel
theorem dX12_notes_58 : decode cX12_notes 58 = .ok (.aload_n 0, 1) := by decide +kernel
theorem dX12_notes_59 : decode cX12_notes 59 = .ok (.getfield 28, 3) := by decide +kernel
theorem dX12_notes_62 : decode cX12_notes 62 = .ok (.iload 4, 2) := by decide +kernel
theorem dX12_notes_64 : decode cX12_notes 64 = .ok (.iconst 2, 1) := by decide +kernel
theorem dX12_notes_65 : decode cX12_notes 65 = .ok (.iadd, 1) := by decide +kernel
theorem dX12_notes_66 : decode cX12_notes 66 = .ok (.iload_n 1, 1) := by decide +kernel
theorem dX12_notes_67 : decode cX12_notes 67 = .ok (.iastore, 1) := by decide +kernel
theorem dX12_notes_68 : decode cX12_notes 68 = .ok (.aload_n 0, 1) := by decide +kernel
theorem dX12_notes_69 : decode cX12_notes 69 = .ok (.getfield 28, 3) := by decide +kernel
theorem dX12_notes_72 : decode cX12_notes 72 = .ok (.iload 4, 2) := by decide +kernel
theorem dX12_notes_74 : decode cX12_notes 74 = .ok (.iconst 3, 1) := by decide +kernel
theorem dX12_notes_75 : decode cX12_notes 75 = .ok (.iadd, 1) := by decide +kernel
theorem dX12_notes_76 : decode cX12_notes 76 = .ok (.iload_n 2, 1) := by decide +kernel
theorem dX12_notes_77 : decode cX12_notes 77 = .ok (.iastore, 1) := by decide +kernel
theorem dX12_notes_78 : decode cX12_notes 78 = .ok (.aload_n 0, 1) := by decide +kernel
theorem dX12_notes_79 : decode cX12_notes 79 = .ok (.getfield 28, 3) := by decide +kernel
theorem dX12_notes_82 : decode cX12_notes 82 = .ok (.iload 4, 2) := by decide +kernel
theorem dX12_notes_84 : decode cX12_notes 84 = .ok (.iconst 4, 1) := by decide +kernel
theorem dX12_notes_85 : decode cX12_notes 85 = .ok (.iadd, 1) := by decide +kernel
theorem dX12_notes_86 : decode cX12_notes 86 = .ok (.iload_n 3, 1) := by decide +kernel
theorem dX12_notes_87 : decode cX12_notes 87 = .ok (.iastore, 1) := by decide +kernel
theorem dX12_notes_88 : decode cX12_notes 88 = .ok (.aload_n 0, 1) := by decide +kernel
theorem dX12_notes_89 : decode cX12_notes 89 = .ok (.getfield 7, 3) := by decide +kernel
theorem dX12_notes_92 : decode cX12_notes 92 = .ok (.iconst 3, 1) := by decide +kernel
theorem dX12_notes_93 : decode cX12_notes 93 = .ok (.aload_n 0, 1) := by decide +kernel
theorem dX12_notes_94 : decode cX12_notes 94 = .ok (.getfield 7, 3) := by decide +kernel
theorem dX12_notes_97 : decode cX12_notes 97 = .ok (.iconst 3, 1) := by decide +kernel
theorem dX12_notes_98 : decode cX12_notes 98 = .ok (.iaload, 1) := by decide +kernel
theorem dX12_notes_99 : decode cX12_notes 99 = .ok (.iconst 1, 1) := by decide +kernel
theorem dX12_notes_100 : decode cX12_notes 100 = .ok (.iadd, 1) := by decide +kernel
theorem dX12_notes_101 : decode cX12_notes 101 = .ok (.iastore, 1) := by decide +kernel
theorem dX12_notes_102 : decode cX12_notes 102 = .ok (.return_, 1) := by decide +kernel
theorem dX12_canSit_0 : decode cX12_canSit 0 = .ok (.aload_n 0, 1) := by decide +kernel
theorem dX12_canSit_1 : decode cX12_canSit 1 = .ok (.iload_n 1, 1) := by decide +kernel
theorem dX12_canSit_2 : decode cX12_canSit 2 = .ok (.invokevirtual 397, 3) := by decide +kernel
theorem dX12_canSit_5 : decode cX12_canSit 5 = .ok (.ifCond .ne 25, 3) := by decide +kernel
theorem dX12_canSit_8 : decode cX12_canSit 8 = .ok (.aload_n 0, 1) := by decide +kernel
theorem dX12_canSit_9 : decode cX12_canSit 9 = .ok (.aload_n 0, 1) := by decide +kernel
theorem dX12_canSit_10 : decode cX12_canSit 10 = .ok (.iload_n 2, 1) := by decide +kernel
theorem dX12_canSit_11 : decode cX12_canSit 11 = .ok (.invokevirtual 379, 3) := by decide +kernel
theorem dX12_canSit_14 : decode cX12_canSit 14 = .ok (.invokevirtual 382, 3) := by decide +kernel
theorem dX12_canSit_17 : decode cX12_canSit 17 = .ok (.aload_n 0, 1) := by decide +kernel
theorem dX12_canSit_18 : decode cX12_canSit 18 = .ok (.getfield 19, 3) := by decide +kernel
theorem dX12_canSit_21 : decode cX12_canSit 21 = .ok (.iload_n 2, 1) := by decide +kernel
theorem dX12_canSit_22 : decode cX12_canSit 22 = .ok (.iaload, 1) := by decide +kernel
theorem dX12_canSit_23 : decode cX12_canSit 23 = .ok (.if_icmp .ge 7, 3) := by decide +kernel
theorem dX12_canSit_26 : decode cX12_canSit 26 = .ok (.iconst 1, 1) := by decide +kernel
theorem dX12_canSit_27 : decode cX12_canSit 27 = .ok (.goto 4, 3) := by decide +kernel
theorem dX12_canSit_30 : decode cX12_canSit 30 = .ok (.iconst 0, 1) := by decide +kernel
theorem dX12_canSit_31 : decode cX12_canSit 31 = .ok (.ireturn, 1) := by decide +kernel
theorem dX12_isSat_0 : decode cX12_isSat 0 = .ok (.aload_n 0, 1) := by decide +kernel
theorem dX12_isSat_1 : decode cX12_isSat 1 = .ok (.getfield 7, 3) := by decide +kernel
theorem dX12_isSat_4 : decode cX12_isSat 4 = .ok (.bipush 41, 2) := by decide +kernel
theorem dX12_isSat_6 : decode cX12_isSat 6 = .ok (.iload_n 1, 1) := by decide +kernel
theorem dX12_isSat_7 : decode cX12_isSat 7 = .ok (.iadd, 1) := by decide +kernel
theorem dX12_isSat_8 : decode cX12_isSat 8 = .ok (.iload_n 2, 1) := by decide +kernel
theorem dX12_isSat_9 : decode cX12_isSat 9 = .ok (.iconst 1, 1) := by decide +kernel
theorem dX12_isSat_10 : decode cX12_isSat 10 = .ok (.iadd, 1) := by decide +kernel
theorem dX12_isSat_11 : decode cX12_isSat 11 = .ok (.iastore, 1) := by decide +kernel
theorem dX12_isSat_12 : decode cX12_isSat 12 = .ok (.aload_n 0, 1) := by decide +kernel
theorem dX12_isSat_13 : decode cX12_isSat 13 = .ok (.getfield 7, 3) := by decide +kernel
theorem dX12_isSat_16 : decode cX12_isSat 16 = .ok (.bipush 61, 2) := by decide +kernel
theorem dX12_isSat_18 : decode cX12_isSat 18 = .ok (.iload_n 1, 1) := by decide +kernel
theorem dX12_isSat_19 : decode cX12_isSat 19 = .ok (.iadd, 1) := by decide +kernel
theorem dX12_isSat_20 : decode cX12_isSat 20 = .ok (.iconst 0, 1) := by decide +kernel
theorem dX12_isSat_21 : decode cX12_isSat 21 = .ok (.iastore, 1) := by decide +kernel
theorem dX12_isSat_22 : decode cX12_isSat 22 = .ok (.aload_n 0, 1) := by decide +kernel
theorem dX12_isSat_23 : decode cX12_isSat 23 = .ok (.getfield 7, 3) := by decide +kernel
theorem dX12_isSat_26 : decode cX12_isSat 26 = .ok (.bipush 81, 2) := by decide +kernel
theorem dX12_isSat_28 : decode cX12_isSat 28 = .ok (.iload_n 1, 1) := by decide +kernel
theorem dX12_isSat_29 : decode cX12_isSat 29 = .ok (.iadd, 1) := by decide +kernel
theorem dX12_isSat_30 : decode cX12_isSat 30 = .ok (.iload_n 3, 1) := by decide +kernel
theorem dX12_isSat_31 : decode cX12_isSat 31 = .ok (.iastore, 1) := by decide +kernel
theorem dX12_isSat_32 : decode cX12_isSat 32 = .ok (.aload_n 0, 1) := by decide +kernel
theorem dX12_isSat_33 : decode cX12_isSat 33 = .ok (.iconst 0, 1) := by decide +kernel
theorem dX12_isSat_34 : decode cX12_isSat 34 = .ok (.iload_n 1, 1) := by decide +kernel
theorem dX12_isSat_35 : decode cX12_isSat 35 = .ok (.iload_n 2, 1) := by decide +kernel
theorem dX12_isSat_36 : decode cX12_isSat 36 = .ok (.invokevirtual 400, 3) := by decide +kernel
theorem dX12_isSat_39 : decode cX12_isSat 39 = .ok (.return_, 1) := by decide +kernel
theorem dX12_getsUp_0 : decode cX12_getsUp 0 = .ok (.aload_n 0, 1) := by decide +kernel
theorem dX12_getsUp_1 : decode cX12_getsUp 1 = .ok (.getfield 7, 3) := by decide +kernel
theorem dX12_getsUp_4 : decode cX12_getsUp 4 = .ok (.bipush 41, 2) := by decide +kernel
theorem dX12_getsUp_6 : decode cX12_getsUp 6 = .ok (.iload_n 1, 1) := by decide +kernel
theorem dX12_getsUp_7 : decode cX12_getsUp 7 = .ok (.iadd, 1) := by decide +kernel
theorem dX12_getsUp_8 : decode cX12_getsUp 8 = .ok (.iconst 0, 1) := by decide +kernel
theorem dX12_getsUp_9 : decode cX12_getsUp 9 = .ok (.iastore, 1) := by decide +kernel
theorem dX12_getsUp_10 : decode cX12_getsUp 10 = .ok (.aload_n 0, 1) := by decide +kernel
theorem dX12_getsUp_11 : decode cX12_getsUp 11 = .ok (.getfield 7, 3) := by decide +kernel
theorem dX12_getsUp_14 : decode cX12_getsUp 14 = .ok (.bipush 61, 2) := by decide +kernel
theorem dX12_getsUp_16 : decode cX12_getsUp 16 = .ok (.iload_n 1, 1) := by decide +kernel
theorem dX12_getsUp_17 : decode cX12_getsUp 17 = .ok (.iadd, 1) := by decide +kernel
theorem dX12_getsUp_18 : decode cX12_getsUp 18 = .ok (.iconst 0, 1) := by decide +kernel
theorem dX12_getsUp_19 : decode cX12_getsUp 19 = .ok (.iastore, 1) := by decide +kernel
theorem dX12_getsUp_20 : decode cX12_getsUp 20 = .ok (.aload_n 0, 1) := by decide +kernel
theorem dX12_getsUp_21 : decode cX12_getsUp 21 = .ok (.getfield 7, 3) := by decide +kernel
theorem dX12_getsUp_24 : decode cX12_getsUp 24 = .ok (.bipush 81, 2) := by decide +kernel
theorem dX12_getsUp_26 : decode cX12_getsUp 26 = .ok (.iload_n 1, 1) := by decide +kernel
theorem dX12_getsUp_27 : decode cX12_getsUp 27 = .ok (.iadd, 1) := by decide +kernel
theorem dX12_getsUp_28 : decode cX12_getsUp 28 = .ok (.iconst 0, 1) := by decide +kernel
theorem dX12_getsUp_29 : decode cX12_getsUp 29 = .ok (.iastore, 1) := by decide +kernel
theorem dX12_getsUp_30 : decode cX12_getsUp 30 = .ok (.return_, 1) := by decide +kernel
theorem dX12_isSwept_0 : decode cX12_isSwept 0 = .ok (.aload_n 0, 1) := by decide +kernel
theorem dX12_isSwept_1 : decode cX12_isSwept 1 = .ok (.iconst 4, 1) := by decide +kernel
theorem dX12_isSwept_2 : decode cX12_isSwept 2 = .ok (.iload_n 1, 1) := by decide +kernel
theorem dX12_isSwept_3 : decode cX12_isSwept 3 = .ok (.aload_n 0, 1) := by decide +kernel
theorem dX12_isSwept_4 : decode cX12_isSwept 4 = .ok (.getfield 7, 3) := by decide +kernel
theorem dX12_isSwept_7 : decode cX12_isSwept 7 = .ok (.bipush 17, 2) := by decide +kernel
theorem dX12_isSwept_9 : decode cX12_isSwept 9 = .ok (.iload_n 1, 1) := by decide +kernel
theorem dX12_isSwept_10 : decode cX12_isSwept 10 = .ok (.iadd, 1) := by decide +kernel
theorem dX12_isSwept_11 : decode cX12_isSwept 11 = .ok (.iaload, 1) := by decide +kernel
theorem dX12_isSwept_12 : decode cX12_isSwept 12 = .ok (.invokevirtual 400, 3) := by decide +kernel
theorem dX12_isSwept_15 : decode cX12_isSwept 15 = .ok (.aload_n 0, 1) := by decide +kernel
theorem dX12_isSwept_16 : decode cX12_isSwept 16 = .ok (.getfield 7, 3) := by decide +kernel
theorem dX12_isSwept_19 : decode cX12_isSwept 19 = .ok (.bipush 17, 2) := by decide +kernel
theorem dX12_isSwept_21 : decode cX12_isSwept 21 = .ok (.iload_n 1, 1) := by decide +kernel
theorem dX12_isSwept_22 : decode cX12_isSwept 22 = .ok (.iadd, 1) := by decide +kernel
theorem dX12_isSwept_23 : decode cX12_isSwept 23 = .ok (.iconst 0, 1) := by decide +kernel
theorem dX12_isSwept_24 : decode cX12_isSwept 24 = .ok (.iastore, 1) := by decide +kernel
theorem dX12_isSwept_25 : decode cX12_isSwept 25 = .ok (.aload_n 0, 1) := by decide +kernel
theorem dX12_isSwept_26 : decode cX12_isSwept 26 = .ok (.getfield 7, 3) := by decide +kernel
theorem dX12_isSwept_29 : decode cX12_isSwept 29 = .ok (.iconst 4, 1) := by decide +kernel
theorem dX12_isSwept_30 : decode cX12_isSwept 30 = .ok (.aload_n 0, 1) := by decide +kernel
theorem dX12_isSwept_31 : decode cX12_isSwept 31 = .ok (.getfield 7, 3) := by decide +kernel
theorem dX12_isSwept_34 : decode cX12_isSwept 34 = .ok (.iconst 4, 1) := by decide +kernel
theorem dX12_isSwept_35 : decode cX12_isSwept 35 = .ok (.iaload, 1) := by decide +kernel
theorem dX12_isSwept_36 : decode cX12_isSwept 36 = .ok (.iconst 1, 1) := by decide +kernel
theorem dX12_isSwept_37 : decode cX12_isSwept 37 = .ok (.iadd, 1) := by decide +kernel
theorem dX12_isSwept_38 : decode cX12_isSwept 38 = .ok (.iastore, 1) := by decide +kernel
theorem dX12_isSwept_39 : decode cX12_isSwept 39 = .ok (.return_, 1) := by decide +kernel
theorem dX12_canAct_0 : decode cX12_canAct 0 = .ok (.iload_n 1, 1) := by decide +kernel
theorem dX12_canAct_1 : decode cX12_canAct 1 = .ok (.ifCond .ne 34, 3) := by decide +kernel
theorem dX12_canAct_4 : decode cX12_canAct 4 = .ok (.aload_n 0, 1) := by decide +kernel
theorem dX12_canAct_5 : decode cX12_canAct 5 = .ok (.iload_n 2, 1) := by decide +kernel
theorem dX12_canAct_6 : decode cX12_canAct 6 = .ok (.invokevirtual 214, 3) := by decide +kernel
theorem dX12_canAct_9 : decode cX12_canAct 9 = .ok (.ifCond .eq 24, 3) := by decide +kernel
theorem dX12_canAct_12 : decode cX12_canAct 12 = .ok (.aload_n 0, 1) := by decide +kernel
theorem dX12_canAct_13 : decode cX12_canAct 13 = .ok (.iload_n 3, 1) := by decide +kernel
theorem dX12_canAct_14 : decode cX12_canAct 14 = .ok (.invokevirtual 210, 3) := by decide +kernel
theorem dX12_canAct_17 : decode cX12_canAct 17 = .ok (.ifCond .eq 16, 3) := by decide +kernel
theorem dX12_canAct_20 : decode cX12_canAct 20 = .ok (.aload_n 0, 1) := by decide +kernel
theorem dX12_canAct_21 : decode cX12_canAct 21 = .ok (.iload_n 2, 1) := by decide +kernel
theorem dX12_canAct_22 : decode cX12_canAct 22 = .ok (.iload_n 3, 1) := by decide +kernel
theorem dX12_canAct_23 : decode cX12_canAct 23 = .ok (.invokevirtual 404, 3) := by decide +kernel
theorem dX12_canAct_26 : decode cX12_canAct 26 = .ok (.ifCond .eq 7, 3) := by decide +kernel
theorem dX12_canAct_29 : decode cX12_canAct 29 = .ok (.iconst 1, 1) := by decide +kernel
theorem dX12_canAct_30 : decode cX12_canAct 30 = .ok (.goto 4, 3) := by decide +kernel
theorem dX12_canAct_33 : decode cX12_canAct 33 = .ok (.iconst 0, 1) := by decide +kernel
theorem dX12_canAct_34 : decode cX12_canAct 34 = .ok (.ireturn, 1) := by decide +kernel
theorem dX12_canAct_35 : decode cX12_canAct 35 = .ok (.iload_n 1, 1) := by decide +kernel
theorem dX12_canAct_36 : decode cX12_canAct 36 = .ok (.iconst 1, 1) := by decide +kernel
theorem dX12_canAct_37 : decode cX12_canAct 37 = .ok (.if_icmp .ne 25, 3) := by decide +kernel
theorem dX12_canAct_40 : decode cX12_canAct 40 = .ok (.aload_n 0, 1) := by decide +kernel
theorem dX12_canAct_41 : decode cX12_canAct 41 = .ok (.iload_n 2, 1) := by decide +kernel
theorem dX12_canAct_42 : decode cX12_canAct 42 = .ok (.invokevirtual 214, 3) := by decide +kernel
theorem dX12_canAct_45 : decode cX12_canAct 45 = .ok (.ifCond .eq 15, 3) := by decide +kernel
theorem dX12_canAct_48 : decode cX12_canAct 48 = .ok (.aload_n 0, 1) := by decide +kernel
theorem dX12_canAct_49 : decode cX12_canAct 49 = .ok (.iload_n 2, 1) := by decide +kernel
theorem dX12_canAct_50 : decode cX12_canAct 50 = .ok (.invokevirtual 397, 3) := by decide +kernel
theorem dX12_canAct_53 : decode cX12_canAct 53 = .ok (.ifCond .eq 7, 3) := by decide +kernel
theorem dX12_canAct_56 : decode cX12_canAct 56 = .ok (.iconst 1, 1) := by decide +kernel
theorem dX12_canAct_57 : decode cX12_canAct 57 = .ok (.goto 4, 3) := by decide +kernel
theorem dX12_canAct_60 : decode cX12_canAct 60 = .ok (.iconst 0, 1) := by decide +kernel
theorem dX12_canAct_61 : decode cX12_canAct 61 = .ok (.ireturn, 1) := by decide +kernel
theorem dX12_canAct_62 : decode cX12_canAct 62 = .ok (.iload_n 1, 1) := by decide +kernel
theorem dX12_canAct_63 : decode cX12_canAct 63 = .ok (.iconst 2, 1) := by decide +kernel
theorem dX12_canAct_64 : decode cX12_canAct 64 = .ok (.if_icmp .ne 11, 3) := by decide +kernel
theorem dX12_canAct_67 : decode cX12_canAct 67 = .ok (.aload_n 0, 1) := by decide +kernel
theorem dX12_canAct_68 : decode cX12_canAct 68 = .ok (.iload_n 2, 1) := by decide +kernel
theorem dX12_canAct_69 : decode cX12_canAct 69 = .ok (.invokevirtual 210, 3) := by decide +kernel
theorem dX12_canAct_72 : decode cX12_canAct 72 = .ok (.ifCond .ne 27, 3) := by decide +kernel
theorem dX12_canAct_75 : decode cX12_canAct 75 = .ok (.iload_n 1, 1) := by decide +kernel
theorem dX12_canAct_76 : decode cX12_canAct 76 = .ok (.iconst 3, 1) := by decide +kernel
theorem dX12_canAct_77 : decode cX12_canAct 77 = .ok (.if_icmp .ne 26, 3) := by decide +kernel
theorem dX12_canAct_80 : decode cX12_canAct 80 = .ok (.aload_n 0, 1) := by decide +kernel
theorem dX12_canAct_81 : decode cX12_canAct 81 = .ok (.iload_n 2, 1) := by decide +kernel
theorem dX12_canAct_82 : decode cX12_canAct 82 = .ok (.invokevirtual 210, 3) := by decide +kernel
theorem dX12_canAct_85 : decode cX12_canAct 85 = .ok (.ifCond .eq 18, 3) := by decide +kernel
theorem dX12_canAct_88 : decode cX12_canAct 88 = .ok (.aload_n 0, 1) := by decide +kernel
theorem dX12_canAct_89 : decode cX12_canAct 89 = .ok (.iload_n 3, 1) := by decide +kernel
theorem dX12_canAct_90 : decode cX12_canAct 90 = .ok (.iconst 0, 1) := by decide +kernel
theorem dX12_canAct_91 : decode cX12_canAct 91 = .ok (.bipush 99, 2) := by decide +kernel
theorem dX12_canAct_93 : decode cX12_canAct 93 = .ok (.invokevirtual 206, 3) := by decide +kernel
theorem dX12_canAct_96 : decode cX12_canAct 96 = .ok (.ifCond .eq 7, 3) := by decide +kernel
theorem dX12_canAct_99 : decode cX12_canAct 99 = .ok (.iconst 1, 1) := by decide +kernel
theorem dX12_canAct_100 : decode cX12_canAct 100 = .ok (.goto 4, 3) := by decide +kernel
theorem dX12_canAct_103 : decode cX12_canAct 103 = .ok (.iconst 0, 1) := by decide +kernel
theorem dX12_canAct_104 : decode cX12_canAct 104 = .ok (.ireturn, 1) := by decide +kernel
theorem dX12_act_0 : decode cX12_act 0 = .ok (.aload_n 0, 1) := by decide +kernel
theorem dX12_act_1 : decode cX12_act 1 = .ok (.iconst 0, 1) := by decide +kernel
theorem dX12_act_2 : decode cX12_act 2 = .ok (.putfield 183, 3) := by decide +kernel
theorem dX12_act_5 : decode cX12_act 5 = .ok (.aload_n 0, 1) := by decide +kernel
theorem dX12_act_6 : decode cX12_act 6 = .ok (.iload_n 1, 1) := by decide +kernel
theorem dX12_act_7 : decode cX12_act 7 = .ok (.iload_n 2, 1) := by decide +kernel
theorem dX12_act_8 : decode cX12_act 8 = .ok (.iload_n 3, 1) := by decide +kernel
theorem dX12_act_9 : decode cX12_act 9 = .ok (.invokevirtual 408, 3) := by decide +kernel
theorem dX12_act_12 : decode cX12_act 12 = .ok (.ifCond .ne 5, 3) := by decide +kernel
theorem dX12_act_15 : decode cX12_act 15 = .ok (.iconst 0, 1) := by decide +kernel
theorem dX12_act_16 : decode cX12_act 16 = .ok (.ireturn, 1) := by decide +kernel
theorem dX12_act_17 : decode cX12_act 17 = .ok (.aload_n 0, 1) := by decide +kernel
theorem dX12_act_18 : decode cX12_act 18 = .ok (.invokevirtual 411, 3) := by decide +kernel
theorem dX12_act_21 : decode cX12_act 21 = .ok (.iload_n 1, 1) := by decide +kernel
theorem dX12_act_22 : decode cX12_act 22 = .ok (.ifCond .ne 11, 3) := by decide +kernel
theorem dX12_act_25 : decode cX12_act 25 = .ok (.aload_n 0, 1) := by decide +kernel
theorem dX12_act_26 : decode cX12_act 26 = .ok (.iload_n 2, 1) := by decide +kernel
theorem dX12_act_27 : decode cX12_act 27 = .ok (.iload_n 3, 1) := by decide +kernel
theorem dX12_act_28 : decode cX12_act 28 = .ok (.bipush 60, 2) := by decide +kernel
theorem dX12_act_30 : decode cX12_act 30 = .ok (.invokevirtual 414, 3) := by decide +kernel
theorem dX12_act_33 : decode cX12_act 33 = .ok (.iload_n 1, 1) := by decide +kernel
theorem dX12_act_34 : decode cX12_act 34 = .ok (.iconst 1, 1) := by decide +kernel
theorem dX12_act_35 : decode cX12_act 35 = .ok (.if_icmp .ne 8, 3) := by decide +kernel
theorem dX12_act_38 : decode cX12_act 38 = .ok (.aload_n 0, 1) := by decide +kernel
theorem dX12_act_39 : decode cX12_act 39 = .ok (.iload_n 2, 1) := by decide +kernel
theorem dX12_act_40 : decode cX12_act 40 = .ok (.invokevirtual 417, 3) := by decide +kernel
theorem dX12_act_43 : decode cX12_act 43 = .ok (.iload_n 1, 1) := by decide +kernel
theorem dX12_act_44 : decode cX12_act 44 = .ok (.iconst 2, 1) := by decide +kernel
theorem dX12_act_45 : decode cX12_act 45 = .ok (.if_icmp .ne 8, 3) := by decide +kernel
theorem dX12_act_48 : decode cX12_act 48 = .ok (.aload_n 0, 1) := by decide +kernel
theorem dX12_act_49 : decode cX12_act 49 = .ok (.iload_n 2, 1) := by decide +kernel
theorem dX12_act_50 : decode cX12_act 50 = .ok (.invokevirtual 420, 3) := by decide +kernel
theorem dX12_act_53 : decode cX12_act 53 = .ok (.iload_n 1, 1) := by decide +kernel
theorem dX12_act_54 : decode cX12_act 54 = .ok (.iconst 3, 1) := by decide +kernel
theorem dX12_act_55 : decode cX12_act 55 = .ok (.if_icmp .ne 12, 3) := by decide +kernel
theorem dX12_act_58 : decode cX12_act 58 = .ok (.aload_n 0, 1) := by decide +kernel
theorem dX12_act_59 : decode cX12_act 59 = .ok (.getfield 7, 3) := by decide +kernel
theorem dX12_act_62 : decode cX12_act 62 = .ok (.iconst 5, 1) := by decide +kernel
theorem dX12_act_63 : decode cX12_act 63 = .ok (.iload_n 2, 1) := by decide +kernel
theorem dX12_act_64 : decode cX12_act 64 = .ok (.iadd, 1) := by decide +kernel
theorem dX12_act_65 : decode cX12_act 65 = .ok (.iload_n 3, 1) := by decide +kernel
theorem dX12_act_66 : decode cX12_act 66 = .ok (.iastore, 1) := by decide +kernel
theorem dX12_act_67 : decode cX12_act 67 = .ok (.iconst 1, 1) := by decide +kernel
theorem dX12_act_68 : decode cX12_act 68 = .ok (.ireturn, 1) := by decide +kernel
theorem dX12_happens_0 : decode cX12_happens 0 = .ok (.aload_n 0, 1) := by decide +kernel
theorem dX12_happens_1 : decode cX12_happens 1 = .ok (.getfield 190, 3) := by decide +kernel
theorem dX12_happens_4 : decode cX12_happens 4 = .ok (.ifCond .eq 20, 3) := by decide +kernel
theorem dX12_happens_7 : decode cX12_happens 7 = .ok (.iconst 2, 1) := by decide +kernel
theorem dX12_happens_8 : decode cX12_happens 8 = .ok (.iload_n 1, 1) := by decide +kernel
theorem dX12_happens_9 : decode cX12_happens 9 = .ok (.imul, 1) := by decide +kernel
theorem dX12_happens_10 : decode cX12_happens 10 = .ok (.sipush 1000, 3) := by decide +kernel
theorem dX12_happens_13 : decode cX12_happens 13 = .ok (.if_icmp .lt 7, 3) := by decide +kernel
theorem dX12_happens_16 : decode cX12_happens 16 = .ok (.iconst 1, 1) := by decide +kernel
theorem dX12_happens_17 : decode cX12_happens 17 = .ok (.goto 27, 3) := by decide +kernel
theorem dX12_happens_20 : decode cX12_happens 20 = .ok (.iconst 0, 1) := by decide +kernel
theorem dX12_happens_21 : decode cX12_happens 21 = .ok (.goto 23, 3) := by decide +kernel
theorem dX12_happens_24 : decode cX12_happens 24 = .ok (.iload_n 1, 1) := by decide +kernel
theorem dX12_happens_25 : decode cX12_happens 25 = .ok (.ifCond .le 18, 3) := by decide +kernel
theorem dX12_happens_28 : decode cX12_happens 28 = .ok (.aload_n 0, 1) := by decide +kernel
theorem dX12_happens_29 : decode cX12_happens 29 = .ok (.sipush 1000, 3) := by decide +kernel
theorem dX12_happens_32 : decode cX12_happens 32 = .ok (.invokevirtual 423, 3) := by decide +kernel
theorem dX12_happens_35 : decode cX12_happens 35 = .ok (.iload_n 1, 1) := by decide +kernel
theorem dX12_happens_36 : decode cX12_happens 36 = .ok (.if_icmp .ge 7, 3) := by decide +kernel
theorem dX12_happens_39 : decode cX12_happens 39 = .ok (.iconst 1, 1) := by decide +kernel
theorem dX12_happens_40 : decode cX12_happens 40 = .ok (.goto 4, 3) := by decide +kernel
theorem dX12_happens_43 : decode cX12_happens 43 = .ok (.iconst 0, 1) := by decide +kernel
theorem dX12_happens_44 : decode cX12_happens 44 = .ok (.ireturn, 1) := by decide +kernel
theorem dX12_begins_0 : decode cX12_begins 0 = .ok (.iconst 0, 1) := by decide +kernel
theorem dX12_begins_1 : decode cX12_begins 1 = .ok (.istore_n 1, 1) := by decide +kernel
theorem dX12_begins_2 : decode cX12_begins 2 = .ok (.iload_n 1, 1) := by decide +kernel
theorem dX12_begins_3 : decode cX12_begins 3 = .ok (.iconst 4, 1) := by decide +kernel
theorem dX12_begins_4 : decode cX12_begins 4 = .ok (.aload_n 0, 1) := by decide +kernel
theorem dX12_begins_5 : decode cX12_begins 5 = .ok (.getfield 358, 3) := by decide +kernel
theorem dX12_begins_8 : decode cX12_begins 8 = .ok (.imul, 1) := by decide +kernel
theorem dX12_begins_9 : decode cX12_begins 9 = .ok (.if_icmp .ge 124, 3) := by decide +kernel
theorem dX12_begins_12 : decode cX12_begins 12 = .ok (.aload_n 0, 1) := by decide +kernel
theorem dX12_begins_13 : decode cX12_begins 13 = .ok (.getfield 68, 3) := by decide +kernel
theorem dX12_begins_16 : decode cX12_begins 16 = .ok (.iload_n 1, 1) := by decide +kernel
theorem dX12_begins_17 : decode cX12_begins 17 = .ok (.iaload, 1) := by decide +kernel
theorem dX12_begins_18 : decode cX12_begins 18 = .ok (.aload_n 0, 1) := by decide +kernel
theorem dX12_begins_19 : decode cX12_begins 19 = .ok (.getfield 7, 3) := by decide +kernel
theorem dX12_begins_22 : decode cX12_begins 22 = .ok (.iconst 0, 1) := by decide +kernel
theorem dX12_begins_23 : decode cX12_begins 23 = .ok (.iaload, 1) := by decide +kernel
theorem dX12_begins_24 : decode cX12_begins 24 = .ok (.if_icmp .eq 6, 3) := by decide +kernel
theorem dX12_begins_27 : decode cX12_begins 27 = .ok (.goto 99, 3) := by decide +kernel
theorem dX12_begins_30 : decode cX12_begins 30 = .ok (.aload_n 0, 1) := by decide +kernel
theorem dX12_begins_31 : decode cX12_begins 31 = .ok (.getfield 68, 3) := by decide +kernel
theorem dX12_begins_34 : decode cX12_begins 34 = .ok (.iload_n 1, 1) := by decide +kernel
theorem dX12_begins_35 : decode cX12_begins 35 = .ok (.iconst 1, 1) := by decide +kernel
theorem dX12_begins_36 : decode cX12_begins 36 = .ok (.iadd, 1) := by decide +kernel
theorem dX12_begins_37 : decode cX12_begins 37 = .ok (.iaload, 1) := by decide +kernel
theorem dX12_begins_38 : decode cX12_begins 38 = .ok (.ifCond .ne 26, 3) := by decide +kernel
theorem dX12_begins_41 : decode cX12_begins 41 = .ok (.aload_n 0, 1) := by decide +kernel
theorem dX12_begins_42 : decode cX12_begins 42 = .ok (.getfield 7, 3) := by decide +kernel
theorem dX12_begins_45 : decode cX12_begins 45 = .ok (.iconst 5, 1) := by decide +kernel
theorem dX12_begins_46 : decode cX12_begins 46 = .ok (.aload_n 0, 1) := by decide +kernel
theorem dX12_begins_47 : decode cX12_begins 47 = .ok (.getfield 68, 3) := by decide +kernel
theorem dX12_begins_50 : decode cX12_begins 50 = .ok (.iload_n 1, 1) := by decide +kernel
theorem dX12_begins_51 : decode cX12_begins 51 = .ok (.iconst 2, 1) := by decide +kernel
theorem dX12_begins_52 : decode cX12_begins 52 = .ok (.iadd, 1) := by decide +kernel
theorem dX12_begins_53 : decode cX12_begins 53 = .ok (.iaload, 1) := by decide +kernel
theorem dX12_begins_54 : decode cX12_begins 54 = .ok (.iadd, 1) := by decide +kernel
theorem dX12_begins_55 : decode cX12_begins 55 = .ok (.aload_n 0, 1) := by decide +kernel
theorem dX12_begins_56 : decode cX12_begins 56 = .ok (.getfield 68, 3) := by decide +kernel
theorem dX12_begins_59 : decode cX12_begins 59 = .ok (.iload_n 1, 1) := by decide +kernel
theorem dX12_begins_60 : decode cX12_begins 60 = .ok (.iconst 3, 1) := by decide +kernel
theorem dX12_begins_61 : decode cX12_begins 61 = .ok (.iadd, 1) := by decide +kernel
theorem dX12_begins_62 : decode cX12_begins 62 = .ok (.iaload, 1) := by decide +kernel
theorem dX12_begins_63 : decode cX12_begins 63 = .ok (.iastore, 1) := by decide +kernel
theorem dX12_begins_64 : decode cX12_begins 64 = .ok (.aload_n 0, 1) := by decide +kernel
theorem dX12_begins_65 : decode cX12_begins 65 = .ok (.getfield 68, 3) := by decide +kernel
theorem dX12_begins_68 : decode cX12_begins 68 = .ok (.iload_n 1, 1) := by decide +kernel
theorem dX12_begins_69 : decode cX12_begins 69 = .ok (.iconst 1, 1) := by decide +kernel
theorem dX12_begins_70 : decode cX12_begins 70 = .ok (.iadd, 1) := by decide +kernel
theorem dX12_begins_71 : decode cX12_begins 71 = .ok (.iaload, 1) := by decide +kernel
theorem dX12_begins_72 : decode cX12_begins 72 = .ok (.iconst 1, 1) := by decide +kernel
theorem dX12_begins_73 : decode cX12_begins 73 = .ok (.if_icmp .ne 15, 3) := by decide +kernel
theorem dX12_begins_76 : decode cX12_begins 76 = .ok (.aload_n 0, 1) := by decide +kernel
theorem dX12_begins_77 : decode cX12_begins 77 = .ok (.aload_n 0, 1) := by decide +kernel
theorem dX12_begins_78 : decode cX12_begins 78 = .ok (.getfield 68, 3) := by decide +kernel
theorem dX12_begins_81 : decode cX12_begins 81 = .ok (.iload_n 1, 1) := by decide +kernel
theorem dX12_begins_82 : decode cX12_begins 82 = .ok (.iconst 2, 1) := by decide +kernel
theorem dX12_begins_83 : decode cX12_begins 83 = .ok (.iadd, 1) := by decide +kernel
theorem dX12_begins_84 : decode cX12_begins 84 = .ok (.iaload, 1) := by decide +kernel
theorem dX12_begins_85 : decode cX12_begins 85 = .ok (.invokevirtual 420, 3) := by decide +kernel
theorem dX12_begins_88 : decode cX12_begins 88 = .ok (.aload_n 0, 1) := by decide +kernel
theorem dX12_begins_89 : decode cX12_begins 89 = .ok (.getfield 68, 3) := by decide +kernel
theorem dX12_begins_92 : decode cX12_begins 92 = .ok (.iload_n 1, 1) := by decide +kernel
theorem dX12_begins_93 : decode cX12_begins 93 = .ok (.iconst 1, 1) := by decide +kernel
theorem dX12_begins_94 : decode cX12_begins 94 = .ok (.iadd, 1) := by decide +kernel
theorem dX12_begins_95 : decode cX12_begins 95 = .ok (.iaload, 1) := by decide +kernel
theorem dX12_begins_96 : decode cX12_begins 96 = .ok (.iconst 3, 1) := by decide +kernel
theorem dX12_begins_97 : decode cX12_begins 97 = .ok (.if_icmp .ne 29, 3) := by decide +kernel
theorem dX12_begins_100 : decode cX12_begins 100 = .ok (.aload_n 0, 1) := by decide +kernel
theorem dX12_begins_101 : decode cX12_begins 101 = .ok (.getfield 7, 3) := by decide +kernel
theorem dX12_begins_104 : decode cX12_begins 104 = .ok (.bipush 29, 2) := by decide +kernel
theorem dX12_begins_106 : decode cX12_begins 106 = .ok (.aload_n 0, 1) := by decide +kernel
theorem dX12_begins_107 : decode cX12_begins 107 = .ok (.getfield 68, 3) := by decide +kernel
theorem dX12_begins_110 : decode cX12_begins 110 = .ok (.iload_n 1, 1) := by decide +kernel
theorem dX12_begins_111 : decode cX12_begins 111 = .ok (.iconst 2, 1) := by decide +kernel
theorem dX12_begins_112 : decode cX12_begins 112 = .ok (.iadd, 1) := by decide +kernel
theorem dX12_begins_113 : decode cX12_begins 113 = .ok (.iaload, 1) := by decide +kernel
theorem dX12_begins_114 : decode cX12_begins 114 = .ok (.iadd, 1) := by decide +kernel
theorem dX12_begins_115 : decode cX12_begins 115 = .ok (.aload_n 0, 1) := by decide +kernel
theorem dX12_begins_116 : decode cX12_begins 116 = .ok (.getfield 68, 3) := by decide +kernel
theorem dX12_begins_119 : decode cX12_begins 119 = .ok (.iload_n 1, 1) := by decide +kernel
theorem dX12_begins_120 : decode cX12_begins 120 = .ok (.iconst 3, 1) := by decide +kernel
theorem dX12_begins_121 : decode cX12_begins 121 = .ok (.iadd, 1) := by decide +kernel
theorem dX12_begins_122 : decode cX12_begins 122 = .ok (.iaload, 1) := by decide +kernel
theorem dX12_begins_123 : decode cX12_begins 123 = .ok (.iconst 1, 1) := by decide +kernel
theorem dX12_begins_124 : decode cX12_begins 124 = .ok (.iadd, 1) := by decide +kernel
theorem dX12_begins_125 : decode cX12_begins 125 = .ok (.iastore, 1) := by decide +kernel
theorem dX12_begins_126 : decode cX12_begins 126 = .ok (.iload_n 1, 1) := by decide +kernel
theorem dX12_begins_127 : decode cX12_begins 127 = .ok (.iconst 4, 1) := by decide +kernel
theorem dX12_begins_128 : decode cX12_begins 128 = .ok (.iadd, 1) := by decide +kernel
theorem dX12_begins_129 : decode cX12_begins 129 = .ok (.istore_n 1, 1) := by decide +kernel
theorem dX12_begins_130 : decode cX12_begins 130 = .ok (.goto (-128), 3) := by decide +kernel
theorem dX12_begins_133 : decode cX12_begins 133 = .ok (.return_, 1) := by decide +kernel
theorem dX12_callsAndRain_0 : decode cX12_callsAndRain 0 = .ok (.iconst 0, 1) := by decide +kernel
theorem dX12_callsAndRain_1 : decode cX12_callsAndRain 1 = .ok (.istore_n 1, 1) := by decide +kernel
theorem dX12_callsAndRain_2 : decode cX12_callsAndRain 2 = .ok (.iload_n 1, 1) := by decide +kernel
theorem dX12_callsAndRain_3 : decode cX12_callsAndRain 3 = .ok (.iconst 4, 1) := by decide +kernel
theorem dX12_callsAndRain_4 : decode cX12_callsAndRain 4 = .ok (.aload_n 0, 1) := by decide +kernel
theorem dX12_callsAndRain_5 : decode cX12_callsAndRain 5 = .ok (.getfield 355, 3) := by decide +kernel
theorem dX12_callsAndRain_8 : decode cX12_callsAndRain 8 = .ok (.imul, 1) := by decide +kernel
theorem dX12_callsAndRain_9 : decode cX12_callsAndRain 9 = .ok (.if_icmp .ge 74, 3) := by decide +kernel
theorem dX12_callsAndRain_12 : decode cX12_callsAndRain 12 = .ok (.aload_n 0, 1) := by decide +kernel
theorem dX12_callsAndRain_13 : decode cX12_callsAndRain 13 = .ok (.getfield 65, 3) := by decide +kernel
theorem dX12_callsAndRain_16 : decode cX12_callsAndRain 16 = .ok (.iload_n 1, 1) := by decide +kernel
theorem dX12_callsAndRain_17 : decode cX12_callsAndRain 17 = .ok (.iconst 1, 1) := by decide +kernel
theorem dX12_callsAndRain_18 : decode cX12_callsAndRain 18 = .ok (.iadd, 1) := by decide +kernel
theorem dX12_callsAndRain_19 : decode cX12_callsAndRain 19 = .ok (.iaload, 1) := by decide +kernel
theorem dX12_callsAndRain_20 : decode cX12_callsAndRain 20 = .ok (.aload_n 0, 1) := by decide +kernel
theorem dX12_callsAndRain_21 : decode cX12_callsAndRain 21 = .ok (.getfield 7, 3) := by decide +kernel
theorem dX12_callsAndRain_24 : decode cX12_callsAndRain 24 = .ok (.iconst 1, 1) := by decide +kernel
theorem dX12_callsAndRain_25 : decode cX12_callsAndRain 25 = .ok (.iaload, 1) := by decide +kernel
theorem dX12_callsAndRain_26 : decode cX12_callsAndRain 26 = .ok (.if_icmp .ne 50, 3) := by decide +kernel
theorem dX12_callsAndRain_29 : decode cX12_callsAndRain 29 = .ok (.aload_n 0, 1) := by decide +kernel
theorem dX12_callsAndRain_30 : decode cX12_callsAndRain 30 = .ok (.aload_n 0, 1) := by decide +kernel
theorem dX12_callsAndRain_31 : decode cX12_callsAndRain 31 = .ok (.getfield 65, 3) := by decide +kernel
theorem dX12_callsAndRain_34 : decode cX12_callsAndRain 34 = .ok (.iload_n 1, 1) := by decide +kernel
theorem dX12_callsAndRain_35 : decode cX12_callsAndRain 35 = .ok (.iaload, 1) := by decide +kernel
theorem dX12_callsAndRain_36 : decode cX12_callsAndRain 36 = .ok (.aload_n 0, 1) := by decide +kernel
theorem dX12_callsAndRain_37 : decode cX12_callsAndRain 37 = .ok (.getfield 65, 3) := by decide +kernel
theorem dX12_callsAndRain_40 : decode cX12_callsAndRain 40 = .ok (.iload_n 1, 1) := by decide +kernel
theorem dX12_callsAndRain_41 : decode cX12_callsAndRain 41 = .ok (.iconst 2, 1) := by decide +kernel
theorem dX12_callsAndRain_42 : decode cX12_callsAndRain 42 = .ok (.iadd, 1) := by decide +kernel
theorem dX12_callsAndRain_43 : decode cX12_callsAndRain 43 = .ok (.iaload, 1) := by decide +kernel
theorem dX12_callsAndRain_44 : decode cX12_callsAndRain 44 = .ok (.invokevirtual 404, 3) := by decide +kernel
theorem dX12_callsAndRain_47 : decode cX12_callsAndRain 47 = .ok (.ifCond .eq 29, 3) := by decide +kernel
theorem dX12_callsAndRain_50 : decode cX12_callsAndRain 50 = .ok (.aload_n 0, 1) := by decide +kernel
theorem dX12_callsAndRain_51 : decode cX12_callsAndRain 51 = .ok (.aload_n 0, 1) := by decide +kernel
theorem dX12_callsAndRain_52 : decode cX12_callsAndRain 52 = .ok (.getfield 65, 3) := by decide +kernel
theorem dX12_callsAndRain_55 : decode cX12_callsAndRain 55 = .ok (.iload_n 1, 1) := by decide +kernel
theorem dX12_callsAndRain_56 : decode cX12_callsAndRain 56 = .ok (.iaload, 1) := by decide +kernel
theorem dX12_callsAndRain_57 : decode cX12_callsAndRain 57 = .ok (.aload_n 0, 1) := by decide +kernel
theorem dX12_callsAndRain_58 : decode cX12_callsAndRain 58 = .ok (.getfield 65, 3) := by decide +kernel
theorem dX12_callsAndRain_61 : decode cX12_callsAndRain 61 = .ok (.iload_n 1, 1) := by decide +kernel
theorem dX12_callsAndRain_62 : decode cX12_callsAndRain 62 = .ok (.iconst 2, 1) := by decide +kernel
theorem dX12_callsAndRain_63 : decode cX12_callsAndRain 63 = .ok (.iadd, 1) := by decide +kernel
theorem dX12_callsAndRain_64 : decode cX12_callsAndRain 64 = .ok (.iaload, 1) := by decide +kernel
theorem dX12_callsAndRain_65 : decode cX12_callsAndRain 65 = .ok (.aload_n 0, 1) := by decide +kernel
theorem dX12_callsAndRain_66 : decode cX12_callsAndRain 66 = .ok (.getfield 65, 3) := by decide +kernel
theorem dX12_callsAndRain_69 : decode cX12_callsAndRain 69 = .ok (.iload_n 1, 1) := by decide +kernel
theorem dX12_callsAndRain_70 : decode cX12_callsAndRain 70 = .ok (.iconst 3, 1) := by decide +kernel
theorem dX12_callsAndRain_71 : decode cX12_callsAndRain 71 = .ok (.iadd, 1) := by decide +kernel
theorem dX12_callsAndRain_72 : decode cX12_callsAndRain 72 = .ok (.iaload, 1) := by decide +kernel
theorem dX12_callsAndRain_73 : decode cX12_callsAndRain 73 = .ok (.invokevirtual 414, 3) := by decide +kernel
theorem dX12_callsAndRain_76 : decode cX12_callsAndRain 76 = .ok (.iload_n 1, 1) := by decide +kernel
theorem dX12_callsAndRain_77 : decode cX12_callsAndRain 77 = .ok (.iconst 4, 1) := by decide +kernel
theorem dX12_callsAndRain_78 : decode cX12_callsAndRain 78 = .ok (.iadd, 1) := by decide +kernel
theorem dX12_callsAndRain_79 : decode cX12_callsAndRain 79 = .ok (.istore_n 1, 1) := by decide +kernel
theorem dX12_callsAndRain_80 : decode cX12_callsAndRain 80 = .ok (.goto (-78), 3) := by decide +kernel
theorem dX12_callsAndRain_83 : decode cX12_callsAndRain 83 = .ok (.iconst 0, 1) := by decide +kernel
theorem dX12_callsAndRain_84 : decode cX12_callsAndRain 84 = .ok (.istore_n 1, 1) := by decide +kernel
theorem dX12_callsAndRain_85 : decode cX12_callsAndRain 85 = .ok (.iconst 0, 1) := by decide +kernel
theorem dX12_callsAndRain_86 : decode cX12_callsAndRain 86 = .ok (.istore_n 2, 1) := by decide +kernel
theorem dX12_callsAndRain_87 : decode cX12_callsAndRain 87 = .ok (.iload_n 2, 1) := by decide +kernel
theorem dX12_callsAndRain_88 : decode cX12_callsAndRain 88 = .ok (.iconst 4, 1) := by decide +kernel
theorem dX12_callsAndRain_89 : decode cX12_callsAndRain 89 = .ok (.aload_n 0, 1) := by decide +kernel
theorem dX12_callsAndRain_90 : decode cX12_callsAndRain 90 = .ok (.getfield 358, 3) := by decide +kernel
theorem dX12_callsAndRain_93 : decode cX12_callsAndRain 93 = .ok (.imul, 1) := by decide +kernel
theorem dX12_callsAndRain_94 : decode cX12_callsAndRain 94 = .ok (.if_icmp .ge 56, 3) := by decide +kernel
theorem dX12_callsAndRain_97 : decode cX12_callsAndRain 97 = .ok (.aload_n 0, 1) := by decide +kernel
theorem dX12_callsAndRain_98 : decode cX12_callsAndRain 98 = .ok (.getfield 68, 3) := by decide +kernel
theorem dX12_callsAndRain_101 : decode cX12_callsAndRain 101 = .ok (.iload_n 2, 1) := by decide +kernel
theorem dX12_callsAndRain_102 : decode cX12_callsAndRain 102 = .ok (.iaload, 1) := by decide +kernel
theorem dX12_callsAndRain_103 : decode cX12_callsAndRain 103 = .ok (.aload_n 0, 1) := by decide +kernel
theorem dX12_callsAndRain_104 : decode cX12_callsAndRain 104 = .ok (.getfield 7, 3) := by decide +kernel
theorem dX12_callsAndRain_107 : decode cX12_callsAndRain 107 = .ok (.iconst 0, 1) := by decide +kernel
theorem dX12_callsAndRain_108 : decode cX12_callsAndRain 108 = .ok (.iaload, 1) := by decide +kernel
theorem dX12_callsAndRain_109 : decode cX12_callsAndRain 109 = .ok (.if_icmp .ne 34, 3) := by decide +kernel
theorem dX12_callsAndRain_112 : decode cX12_callsAndRain 112 = .ok (.aload_n 0, 1) := by decide +kernel
theorem dX12_callsAndRain_113 : decode cX12_callsAndRain 113 = .ok (.getfield 68, 3) := by decide +kernel
theorem dX12_callsAndRain_116 : decode cX12_callsAndRain 116 = .ok (.iload_n 2, 1) := by decide +kernel
theorem dX12_callsAndRain_117 : decode cX12_callsAndRain 117 = .ok (.iconst 1, 1) := by decide +kernel
theorem dX12_callsAndRain_118 : decode cX12_callsAndRain 118 = .ok (.iadd, 1) := by decide +kernel
theorem dX12_callsAndRain_119 : decode cX12_callsAndRain 119 = .ok (.iaload, 1) := by decide +kernel
theorem dX12_callsAndRain_120 : decode cX12_callsAndRain 120 = .ok (.iconst 2, 1) := by decide +kernel
theorem dX12_callsAndRain_121 : decode cX12_callsAndRain 121 = .ok (.if_icmp .ne 22, 3) := by decide +kernel
theorem dX12_callsAndRain_124 : decode cX12_callsAndRain 124 = .ok (.aload_n 0, 1) := by decide +kernel
theorem dX12_callsAndRain_125 : decode cX12_callsAndRain 125 = .ok (.getfield 68, 3) := by decide +kernel
theorem dX12_callsAndRain_128 : decode cX12_callsAndRain 128 = .ok (.iload_n 2, 1) := by decide +kernel
theorem dX12_callsAndRain_129 : decode cX12_callsAndRain 129 = .ok (.iconst 2, 1) := by decide +kernel
theorem dX12_callsAndRain_130 : decode cX12_callsAndRain 130 = .ok (.iadd, 1) := by decide +kernel
theorem dX12_callsAndRain_131 : decode cX12_callsAndRain 131 = .ok (.iaload, 1) := by decide +kernel
theorem dX12_callsAndRain_132 : decode cX12_callsAndRain 132 = .ok (.aload_n 0, 1) := by decide +kernel
theorem dX12_callsAndRain_133 : decode cX12_callsAndRain 133 = .ok (.getfield 7, 3) := by decide +kernel
theorem dX12_callsAndRain_136 : decode cX12_callsAndRain 136 = .ok (.iconst 1, 1) := by decide +kernel
theorem dX12_callsAndRain_137 : decode cX12_callsAndRain 137 = .ok (.iaload, 1) := by decide +kernel
theorem dX12_callsAndRain_138 : decode cX12_callsAndRain 138 = .ok (.if_icmp .ne 5, 3) := by decide +kernel
theorem dX12_callsAndRain_141 : decode cX12_callsAndRain 141 = .ok (.iconst 1, 1) := by decide +kernel
theorem dX12_callsAndRain_142 : decode cX12_callsAndRain 142 = .ok (.istore_n 1, 1) := by decide +kernel
theorem dX12_callsAndRain_143 : decode cX12_callsAndRain 143 = .ok (.iload_n 2, 1) := by decide +kernel
theorem dX12_callsAndRain_144 : decode cX12_callsAndRain 144 = .ok (.iconst 4, 1) := by decide +kernel
theorem dX12_callsAndRain_145 : decode cX12_callsAndRain 145 = .ok (.iadd, 1) := by decide +kernel
theorem dX12_callsAndRain_146 : decode cX12_callsAndRain 146 = .ok (.istore_n 2, 1) := by decide +kernel
theorem dX12_callsAndRain_147 : decode cX12_callsAndRain 147 = .ok (.goto (-60), 3) := by decide +kernel
theorem dX12_callsAndRain_150 : decode cX12_callsAndRain 150 = .ok (.iconst 0, 1) := by decide +kernel
theorem dX12_callsAndRain_151 : decode cX12_callsAndRain 151 = .ok (.istore_n 2, 1) := by decide +kernel
theorem dX12_callsAndRain_152 : decode cX12_callsAndRain 152 = .ok (.iload_n 2, 1) := by decide +kernel
theorem dX12_callsAndRain_153 : decode cX12_callsAndRain 153 = .ok (.aload_n 0, 1) := by decide +kernel
theorem dX12_callsAndRain_154 : decode cX12_callsAndRain 154 = .ok (.getfield 199, 3) := by decide +kernel
theorem dX12_callsAndRain_157 : decode cX12_callsAndRain 157 = .ok (.if_icmp .ge 44, 3) := by decide +kernel
theorem dX12_callsAndRain_160 : decode cX12_callsAndRain 160 = .ok (.iload_n 1, 1) := by decide +kernel
theorem dX12_callsAndRain_161 : decode cX12_callsAndRain 161 = .ok (.ifCond .eq 40, 3) := by decide +kernel
theorem dX12_callsAndRain_164 : decode cX12_callsAndRain 164 = .ok (.aload_n 0, 1) := by decide +kernel
theorem dX12_callsAndRain_165 : decode cX12_callsAndRain 165 = .ok (.iload_n 2, 1) := by decide +kernel
theorem dX12_callsAndRain_166 : decode cX12_callsAndRain 166 = .ok (.invokevirtual 397, 3) := by decide +kernel
theorem dX12_callsAndRain_169 : decode cX12_callsAndRain 169 = .ok (.ifCond .eq 26, 3) := by decide +kernel
theorem dX12_callsAndRain_172 : decode cX12_callsAndRain 172 = .ok (.aload_n 0, 1) := by decide +kernel
theorem dX12_callsAndRain_173 : decode cX12_callsAndRain 173 = .ok (.getfield 7, 3) := by decide +kernel
theorem dX12_callsAndRain_176 : decode cX12_callsAndRain 176 = .ok (.bipush 17, 2) := by decide +kernel
theorem dX12_callsAndRain_178 : decode cX12_callsAndRain 178 = .ok (.aload_n 0, 1) := by decide +kernel
theorem dX12_callsAndRain_179 : decode cX12_callsAndRain 179 = .ok (.iload_n 2, 1) := by decide +kernel
theorem dX12_callsAndRain_180 : decode cX12_callsAndRain 180 = .ok (.invokevirtual 202, 3) := by decide +kernel
theorem dX12_callsAndRain_183 : decode cX12_callsAndRain 183 = .ok (.iadd, 1) := by decide +kernel
theorem dX12_callsAndRain_184 : decode cX12_callsAndRain 184 = .ok (.iaload, 1) := by decide +kernel
theorem dX12_callsAndRain_185 : decode cX12_callsAndRain 185 = .ok (.bipush 50, 2) := by decide +kernel
theorem dX12_callsAndRain_187 : decode cX12_callsAndRain 187 = .ok (.if_icmp .le 8, 3) := by decide +kernel
theorem dX12_callsAndRain_190 : decode cX12_callsAndRain 190 = .ok (.aload_n 0, 1) := by decide +kernel
theorem dX12_callsAndRain_191 : decode cX12_callsAndRain 191 = .ok (.iload_n 2, 1) := by decide +kernel
theorem dX12_callsAndRain_192 : decode cX12_callsAndRain 192 = .ok (.invokevirtual 417, 3) := by decide +kernel
theorem dX12_callsAndRain_195 : decode cX12_callsAndRain 195 = .ok (.iinc 2 1, 3) := by decide +kernel
theorem dX12_callsAndRain_198 : decode cX12_callsAndRain 198 = .ok (.goto (-46), 3) := by decide +kernel
theorem dX12_callsAndRain_201 : decode cX12_callsAndRain 201 = .ok (.return_, 1) := by decide +kernel
theorem dX12_isBeside_0 : decode cX12_isBeside 0 = .ok (.aload_n 0, 1) := by decide +kernel
theorem dX12_isBeside_1 : decode cX12_isBeside 1 = .ok (.aload_n 0, 1) := by decide +kernel
theorem dX12_isBeside_2 : decode cX12_isBeside 2 = .ok (.getfield 71, 3) := by decide +kernel
theorem dX12_isBeside_5 : decode cX12_isBeside 5 = .ok (.bipush 12, 2) := by decide +kernel
theorem dX12_isBeside_7 : decode cX12_isBeside 7 = .ok (.iload_n 1, 1) := by decide +kernel
theorem dX12_isBeside_8 : decode cX12_isBeside 8 = .ok (.imul, 1) := by decide +kernel
theorem dX12_isBeside_9 : decode cX12_isBeside 9 = .ok (.iload_n 2, 1) := by decide +kernel
theorem dX12_isBeside_10 : decode cX12_isBeside 10 = .ok (.iadd, 1) := by decide +kernel
theorem dX12_isBeside_11 : decode cX12_isBeside 11 = .ok (.iaload, 1) := by decide +kernel
theorem dX12_isBeside_12 : decode cX12_isBeside 12 = .ok (.iconst 1, 1) := by decide +kernel
theorem dX12_isBeside_13 : decode cX12_isBeside 13 = .ok (.bipush 10, 2) := by decide +kernel
theorem dX12_isBeside_15 : decode cX12_isBeside 15 = .ok (.invokevirtual 206, 3) := by decide +kernel
theorem dX12_isBeside_18 : decode cX12_isBeside 18 = .ok (.ireturn, 1) := by decide +kernel
theorem dX12_isSpoken_0 : decode cX12_isSpoken 0 = .ok (.aload_n 0, 1) := by decide +kernel
theorem dX12_isSpoken_1 : decode cX12_isSpoken 1 = .ok (.iload_n 1, 1) := by decide +kernel
theorem dX12_isSpoken_2 : decode cX12_isSpoken 2 = .ok (.invokevirtual 202, 3) := by decide +kernel
theorem dX12_isSpoken_5 : decode cX12_isSpoken 5 = .ok (.istore_n 2, 1) := by decide +kernel
theorem dX12_isSpoken_6 : decode cX12_isSpoken 6 = .ok (.iconst 0, 1) := by decide +kernel
theorem dX12_isSpoken_7 : decode cX12_isSpoken 7 = .ok (.istore_n 3, 1) := by decide +kernel
theorem dX12_isSpoken_8 : decode cX12_isSpoken 8 = .ok (.aload_n 0, 1) := by decide +kernel
theorem dX12_isSpoken_9 : decode cX12_isSpoken 9 = .ok (.getfield 7, 3) := by decide +kernel
theorem dX12_isSpoken_12 : decode cX12_isSpoken 12 = .ok (.bipush 101, 2) := by decide +kernel
theorem dX12_isSpoken_14 : decode cX12_isSpoken 14 = .ok (.iload_n 1, 1) := by decide +kernel
theorem dX12_isSpoken_15 : decode cX12_isSpoken 15 = .ok (.iadd, 1) := by decide +kernel
theorem dX12_isSpoken_16 : decode cX12_isSpoken 16 = .ok (.aload_n 0, 1) := by decide +kernel
theorem dX12_isSpoken_17 : decode cX12_isSpoken 17 = .ok (.getfield 7, 3) := by decide +kernel
theorem dX12_isSpoken_20 : decode cX12_isSpoken 20 = .ok (.bipush 101, 2) := by decide +kernel
theorem dX12_isSpoken_22 : decode cX12_isSpoken 22 = .ok (.iload_n 1, 1) := by decide +kernel
theorem dX12_isSpoken_23 : decode cX12_isSpoken 23 = .ok (.iadd, 1) := by decide +kernel
theorem dX12_isSpoken_24 : decode cX12_isSpoken 24 = .ok (.iaload, 1) := by decide +kernel
theorem dX12_isSpoken_25 : decode cX12_isSpoken 25 = .ok (.iconst 1, 1) := by decide +kernel
theorem dX12_isSpoken_26 : decode cX12_isSpoken 26 = .ok (.iadd, 1) := by decide +kernel
theorem dX12_isSpoken_27 : decode cX12_isSpoken 27 = .ok (.iastore, 1) := by decide +kernel
theorem dX12_isSpoken_28 : decode cX12_isSpoken 28 = .ok (.iconst 0, 1) := by decide +kernel
theorem dX12_isSpoken_29 : decode cX12_isSpoken 29 = .ok (.istore 4, 2) := by decide +kernel
theorem dX12_isSpoken_31 : decode cX12_isSpoken 31 = .ok (.iload 4, 2) := by decide +kernel
theorem dX12_isSpoken_33 : decode cX12_isSpoken 33 = .ok (.aload_n 0, 1) := by decide +kernel
theorem dX12_isSpoken_34 : decode cX12_isSpoken 34 = .ok (.getfield 199, 3) := by decide +kernel
theorem dX12_isSpoken_37 : decode cX12_isSpoken 37 = .ok (.if_icmp .ge 119, 3) := by decide +kernel
theorem dX12_isSpoken_40 : decode cX12_isSpoken 40 = .ok (.iload 4, 2) := by decide +kernel
theorem dX12_isSpoken_42 : decode cX12_isSpoken 42 = .ok (.iload_n 1, 1) := by decide +kernel
theorem dX12_isSpoken_43 : decode cX12_isSpoken 43 = .ok (.if_icmp .eq 107, 3) := by decide +kernel
theorem dX12_isSpoken_46 : decode cX12_isSpoken 46 = .ok (.aload_n 0, 1) := by decide +kernel
theorem dX12_isSpoken_47 : decode cX12_isSpoken 47 = .ok (.iload 4, 2) := by decide +kernel
theorem dX12_isSpoken_49 : decode cX12_isSpoken 49 = .ok (.invokevirtual 397, 3) := by decide +kernel
theorem dX12_isSpoken_52 : decode cX12_isSpoken 52 = .ok (.ifCond .ne 6, 3) := by decide +kernel
theorem dX12_isSpoken_55 : decode cX12_isSpoken 55 = .ok (.goto 95, 3) := by decide +kernel
theorem dX12_isSpoken_58 : decode cX12_isSpoken 58 = .ok (.aload_n 0, 1) := by decide +kernel
theorem dX12_isSpoken_59 : decode cX12_isSpoken 59 = .ok (.iload 4, 2) := by decide +kernel
theorem dX12_isSpoken_61 : decode cX12_isSpoken 61 = .ok (.invokevirtual 202, 3) := by decide +kernel
theorem dX12_isSpoken_64 : decode cX12_isSpoken 64 = .ok (.iload_n 2, 1) := by decide +kernel
theorem dX12_isSpoken_65 : decode cX12_isSpoken 65 = .ok (.if_icmp .eq 7, 3) := by decide +kernel
theorem dX12_isSpoken_68 : decode cX12_isSpoken 68 = .ok (.iconst 1, 1) := by decide +kernel
theorem dX12_isSpoken_69 : decode cX12_isSpoken 69 = .ok (.goto 4, 3) := by decide +kernel
theorem dX12_isSpoken_72 : decode cX12_isSpoken 72 = .ok (.iconst 0, 1) := by decide +kernel
theorem dX12_isSpoken_73 : decode cX12_isSpoken 73 = .ok (.istore 5, 2) := by decide +kernel
theorem dX12_isSpoken_75 : decode cX12_isSpoken 75 = .ok (.iload 5, 2) := by decide +kernel
theorem dX12_isSpoken_77 : decode cX12_isSpoken 77 = .ok (.ifCond .eq 34, 3) := by decide +kernel
theorem dX12_isSpoken_80 : decode cX12_isSpoken 80 = .ok (.aload_n 0, 1) := by decide +kernel
theorem dX12_isSpoken_81 : decode cX12_isSpoken 81 = .ok (.iload_n 2, 1) := by decide +kernel
theorem dX12_isSpoken_82 : decode cX12_isSpoken 82 = .ok (.aload_n 0, 1) := by decide +kernel
theorem dX12_isSpoken_83 : decode cX12_isSpoken 83 = .ok (.iload 4, 2) := by decide +kernel
theorem dX12_isSpoken_85 : decode cX12_isSpoken 85 = .ok (.invokevirtual 202, 3) := by decide +kernel
theorem dX12_isSpoken_88 : decode cX12_isSpoken 88 = .ok (.invokevirtual 426, 3) := by decide +kernel
theorem dX12_isSpoken_91 : decode cX12_isSpoken 91 = .ok (.ifCond .eq 59, 3) := by decide +kernel
theorem dX12_isSpoken_94 : decode cX12_isSpoken 94 = .ok (.aload_n 0, 1) := by decide +kernel
theorem dX12_isSpoken_95 : decode cX12_isSpoken 95 = .ok (.aload_n 0, 1) := by decide +kernel
theorem dX12_isSpoken_96 : decode cX12_isSpoken 96 = .ok (.iload 4, 2) := by decide +kernel
theorem dX12_isSpoken_98 : decode cX12_isSpoken 98 = .ok (.iload_n 2, 1) := by decide +kernel
theorem dX12_isSpoken_99 : decode cX12_isSpoken 99 = .ok (.invokevirtual 429, 3) := by decide +kernel
theorem dX12_isSpoken_102 : decode cX12_isSpoken 102 = .ok (.invokevirtual 432, 3) := by decide +kernel
theorem dX12_isSpoken_105 : decode cX12_isSpoken 105 = .ok (.ifCond .ne 6, 3) := by decide +kernel
theorem dX12_isSpoken_108 : decode cX12_isSpoken 108 = .ok (.goto 42, 3) := by decide +kernel
theorem dX12_isSpoken_111 : decode cX12_isSpoken 111 = .ok (.aload_n 0, 1) := by decide +kernel
theorem dX12_isSpoken_112 : decode cX12_isSpoken 112 = .ok (.getfield 7, 3) := by decide +kernel
theorem dX12_isSpoken_115 : decode cX12_isSpoken 115 = .ok (.bipush 121, 2) := by decide +kernel
theorem dX12_isSpoken_117 : decode cX12_isSpoken 117 = .ok (.iload 4, 2) := by decide +kernel
theorem dX12_isSpoken_119 : decode cX12_isSpoken 119 = .ok (.iadd, 1) := by decide +kernel
theorem dX12_isSpoken_120 : decode cX12_isSpoken 120 = .ok (.aload_n 0, 1) := by decide +kernel
theorem dX12_isSpoken_121 : decode cX12_isSpoken 121 = .ok (.getfield 7, 3) := by decide +kernel
theorem dX12_isSpoken_124 : decode cX12_isSpoken 124 = .ok (.bipush 121, 2) := by decide +kernel
theorem dX12_isSpoken_126 : decode cX12_isSpoken 126 = .ok (.iload 4, 2) := by decide +kernel
theorem dX12_isSpoken_128 : decode cX12_isSpoken 128 = .ok (.iadd, 1) := by decide +kernel
theorem dX12_isSpoken_129 : decode cX12_isSpoken 129 = .ok (.iaload, 1) := by decide +kernel
theorem dX12_isSpoken_130 : decode cX12_isSpoken 130 = .ok (.iconst 1, 1) := by decide +kernel
theorem dX12_isSpoken_131 : decode cX12_isSpoken 131 = .ok (.iadd, 1) := by decide +kernel
theorem dX12_isSpoken_132 : decode cX12_isSpoken 132 = .ok (.iastore, 1) := by decide +kernel
theorem dX12_isSpoken_133 : decode cX12_isSpoken 133 = .ok (.iload_n 3, 1) := by decide +kernel
theorem dX12_isSpoken_134 : decode cX12_isSpoken 134 = .ok (.iconst 1, 1) := by decide +kernel
theorem dX12_isSpoken_135 : decode cX12_isSpoken 135 = .ok (.iadd, 1) := by decide +kernel
theorem dX12_isSpoken_136 : decode cX12_isSpoken 136 = .ok (.istore_n 3, 1) := by decide +kernel
theorem dX12_isSpoken_137 : decode cX12_isSpoken 137 = .ok (.iload 5, 2) := by decide +kernel
theorem dX12_isSpoken_139 : decode cX12_isSpoken 139 = .ok (.ifCond .eq 11, 3) := by decide +kernel
theorem dX12_isSpoken_142 : decode cX12_isSpoken 142 = .ok (.aload_n 0, 1) := by decide +kernel
theorem dX12_isSpoken_143 : decode cX12_isSpoken 143 = .ok (.iconst 2, 1) := by decide +kernel
theorem dX12_isSpoken_144 : decode cX12_isSpoken 144 = .ok (.iload 4, 2) := by decide +kernel
theorem dX12_isSpoken_146 : decode cX12_isSpoken 146 = .ok (.iload_n 1, 1) := by decide +kernel
theorem dX12_isSpoken_147 : decode cX12_isSpoken 147 = .ok (.invokevirtual 400, 3) := by decide +kernel
theorem dX12_isSpoken_150 : decode cX12_isSpoken 150 = .ok (.iinc 4 1, 3) := by decide +kernel
theorem dX12_isSpoken_153 : decode cX12_isSpoken 153 = .ok (.goto (-122), 3) := by decide +kernel
theorem dX12_isSpoken_156 : decode cX12_isSpoken 156 = .ok (.aload_n 0, 1) := by decide +kernel
theorem dX12_isSpoken_157 : decode cX12_isSpoken 157 = .ok (.iconst 1, 1) := by decide +kernel
theorem dX12_isSpoken_158 : decode cX12_isSpoken 158 = .ok (.iload_n 1, 1) := by decide +kernel
theorem dX12_isSpoken_159 : decode cX12_isSpoken 159 = .ok (.iload_n 3, 1) := by decide +kernel
theorem dX12_isSpoken_160 : decode cX12_isSpoken 160 = .ok (.invokevirtual 400, 3) := by decide +kernel
theorem dX12_isSpoken_163 : decode cX12_isSpoken 163 = .ok (.return_, 1) := by decide +kernel
theorem dX12_lampBurns_0 : decode cX12_lampBurns 0 = .ok (.aload_n 0, 1) := by decide +kernel
theorem dX12_lampBurns_1 : decode cX12_lampBurns 1 = .ok (.getfield 7, 3) := by decide +kernel
theorem dX12_lampBurns_4 : decode cX12_lampBurns 4 = .ok (.iconst 5, 1) := by decide +kernel
theorem dX12_lampBurns_5 : decode cX12_lampBurns 5 = .ok (.iload_n 1, 1) := by decide +kernel
theorem dX12_lampBurns_6 : decode cX12_lampBurns 6 = .ok (.iadd, 1) := by decide +kernel
theorem dX12_lampBurns_7 : decode cX12_lampBurns 7 = .ok (.iaload, 1) := by decide +kernel
theorem dX12_lampBurns_8 : decode cX12_lampBurns 8 = .ok (.ifCond .ne 4, 3) := by decide +kernel
theorem dX12_lampBurns_11 : decode cX12_lampBurns 11 = .ok (.return_, 1) := by decide +kernel
theorem dX12_lampBurns_12 : decode cX12_lampBurns 12 = .ok (.aload_n 0, 1) := by decide +kernel
theorem dX12_lampBurns_13 : decode cX12_lampBurns 13 = .ok (.getfield 7, 3) := by decide +kernel
theorem dX12_lampBurns_16 : decode cX12_lampBurns 16 = .ok (.iconst 5, 1) := by decide +kernel
theorem dX12_lampBurns_17 : decode cX12_lampBurns 17 = .ok (.iload_n 1, 1) := by decide +kernel
theorem dX12_lampBurns_18 : decode cX12_lampBurns 18 = .ok (.iadd, 1) := by decide +kernel
theorem dX12_lampBurns_19 : decode cX12_lampBurns 19 = .ok (.aload_n 0, 1) := by decide +kernel
theorem dX12_lampBurns_20 : decode cX12_lampBurns 20 = .ok (.getfield 7, 3) := by decide +kernel
theorem dX12_lampBurns_23 : decode cX12_lampBurns 23 = .ok (.iconst 5, 1) := by decide +kernel
theorem dX12_lampBurns_24 : decode cX12_lampBurns 24 = .ok (.iload_n 1, 1) := by decide +kernel
theorem dX12_lampBurns_25 : decode cX12_lampBurns 25 = .ok (.iadd, 1) := by decide +kernel
theorem dX12_lampBurns_26 : decode cX12_lampBurns 26 = .ok (.iaload, 1) := by decide +kernel
theorem dX12_lampBurns_27 : decode cX12_lampBurns 27 = .ok (.iconst 1, 1) := by decide +kernel
theorem dX12_lampBurns_28 : decode cX12_lampBurns 28 = .ok (.isub, 1) := by decide +kernel
theorem dX12_lampBurns_29 : decode cX12_lampBurns 29 = .ok (.iastore, 1) := by decide +kernel
theorem dX12_lampBurns_30 : decode cX12_lampBurns 30 = .ok (.aload_n 0, 1) := by decide +kernel
theorem dX12_lampBurns_31 : decode cX12_lampBurns 31 = .ok (.getfield 7, 3) := by decide +kernel
theorem dX12_lampBurns_34 : decode cX12_lampBurns 34 = .ok (.bipush 29, 2) := by decide +kernel
theorem dX12_lampBurns_36 : decode cX12_lampBurns 36 = .ok (.iload_n 1, 1) := by decide +kernel
theorem dX12_lampBurns_37 : decode cX12_lampBurns 37 = .ok (.iadd, 1) := by decide +kernel
theorem dX12_lampBurns_38 : decode cX12_lampBurns 38 = .ok (.iaload, 1) := by decide +kernel
theorem dX12_lampBurns_39 : decode cX12_lampBurns 39 = .ok (.iconst 1, 1) := by decide +kernel
theorem dX12_lampBurns_40 : decode cX12_lampBurns 40 = .ok (.isub, 1) := by decide +kernel
theorem dX12_lampBurns_41 : decode cX12_lampBurns 41 = .ok (.istore_n 2, 1) := by decide +kernel
theorem dX12_lampBurns_42 : decode cX12_lampBurns 42 = .ok (.aload_n 0, 1) := by decide +kernel
theorem dX12_lampBurns_43 : decode cX12_lampBurns 43 = .ok (.getfield 7, 3) := by decide +kernel
theorem dX12_lampBurns_46 : decode cX12_lampBurns 46 = .ok (.iconst 5, 1) := by decide +kernel
theorem dX12_lampBurns_47 : decode cX12_lampBurns 47 = .ok (.iload_n 1, 1) := by decide +kernel
theorem dX12_lampBurns_48 : decode cX12_lampBurns 48 = .ok (.iadd, 1) := by decide +kernel
theorem dX12_lampBurns_49 : decode cX12_lampBurns 49 = .ok (.iaload, 1) := by decide +kernel
theorem dX12_lampBurns_50 : decode cX12_lampBurns 50 = .ok (.ifCond .gt 17, 3) := by decide +kernel
theorem dX12_lampBurns_53 : decode cX12_lampBurns 53 = .ok (.iload_n 2, 1) := by decide +kernel
theorem dX12_lampBurns_54 : decode cX12_lampBurns 54 = .ok (.iconst (-1), 1) := by decide +kernel
theorem dX12_lampBurns_55 : decode cX12_lampBurns 55 = .ok (.if_icmp .eq 12, 3) := by decide +kernel
theorem dX12_lampBurns_58 : decode cX12_lampBurns 58 = .ok (.aload_n 0, 1) := by decide +kernel
theorem dX12_lampBurns_59 : decode cX12_lampBurns 59 = .ok (.iload_n 2, 1) := by decide +kernel
theorem dX12_lampBurns_60 : decode cX12_lampBurns 60 = .ok (.invokevirtual 202, 3) := by decide +kernel
theorem dX12_lampBurns_63 : decode cX12_lampBurns 63 = .ok (.iload_n 1, 1) := by decide +kernel
theorem dX12_lampBurns_64 : decode cX12_lampBurns 64 = .ok (.if_icmp .eq 4, 3) := by decide +kernel
theorem dX12_lampBurns_67 : decode cX12_lampBurns 67 = .ok (.return_, 1) := by decide +kernel
theorem dX12_lampBurns_68 : decode cX12_lampBurns 68 = .ok (.iconst 0, 1) := by decide +kernel
theorem dX12_lampBurns_69 : decode cX12_lampBurns 69 = .ok (.istore_n 3, 1) := by decide +kernel
theorem dX12_lampBurns_70 : decode cX12_lampBurns 70 = .ok (.iload_n 3, 1) := by decide +kernel
theorem dX12_lampBurns_71 : decode cX12_lampBurns 71 = .ok (.aload_n 0, 1) := by decide +kernel
theorem dX12_lampBurns_72 : decode cX12_lampBurns 72 = .ok (.getfield 199, 3) := by decide +kernel
theorem dX12_lampBurns_75 : decode cX12_lampBurns 75 = .ok (.if_icmp .ge 59, 3) := by decide +kernel
theorem dX12_lampBurns_78 : decode cX12_lampBurns 78 = .ok (.iload_n 3, 1) := by decide +kernel
theorem dX12_lampBurns_79 : decode cX12_lampBurns 79 = .ok (.iload_n 2, 1) := by decide +kernel
theorem dX12_lampBurns_80 : decode cX12_lampBurns 80 = .ok (.if_icmp .eq 48, 3) := by decide +kernel
theorem dX12_lampBurns_83 : decode cX12_lampBurns 83 = .ok (.aload_n 0, 1) := by decide +kernel
theorem dX12_lampBurns_84 : decode cX12_lampBurns 84 = .ok (.iload_n 3, 1) := by decide +kernel
theorem dX12_lampBurns_85 : decode cX12_lampBurns 85 = .ok (.invokevirtual 202, 3) := by decide +kernel
theorem dX12_lampBurns_88 : decode cX12_lampBurns 88 = .ok (.iload_n 1, 1) := by decide +kernel
theorem dX12_lampBurns_89 : decode cX12_lampBurns 89 = .ok (.if_icmp .ne 39, 3) := by decide +kernel
theorem dX12_lampBurns_92 : decode cX12_lampBurns 92 = .ok (.aload_n 0, 1) := by decide +kernel
theorem dX12_lampBurns_93 : decode cX12_lampBurns 93 = .ok (.getfield 7, 3) := by decide +kernel
theorem dX12_lampBurns_96 : decode cX12_lampBurns 96 = .ok (.sipush 141, 3) := by decide +kernel
theorem dX12_lampBurns_99 : decode cX12_lampBurns 99 = .ok (.iload_n 3, 1) := by decide +kernel
theorem dX12_lampBurns_100 : decode cX12_lampBurns 100 = .ok (.iadd, 1) := by decide +kernel
theorem dX12_lampBurns_101 : decode cX12_lampBurns 101 = .ok (.iaload, 1) := by decide +kernel
theorem dX12_lampBurns_102 : decode cX12_lampBurns 102 = .ok (.ifCond .le 6, 3) := by decide +kernel
theorem dX12_lampBurns_105 : decode cX12_lampBurns 105 = .ok (.goto 23, 3) := by decide +kernel
theorem dX12_lampBurns_108 : decode cX12_lampBurns 108 = .ok (.aload_n 0, 1) := by decide +kernel
theorem dX12_lampBurns_109 : decode cX12_lampBurns 109 = .ok (.getfield 7, 3) := by decide +kernel
theorem dX12_lampBurns_112 : decode cX12_lampBurns 112 = .ok (.sipush 141, 3) := by decide +kernel
theorem dX12_lampBurns_115 : decode cX12_lampBurns 115 = .ok (.iload_n 3, 1) := by decide +kernel
theorem dX12_lampBurns_116 : decode cX12_lampBurns 116 = .ok (.iadd, 1) := by decide +kernel
theorem dX12_lampBurns_117 : decode cX12_lampBurns 117 = .ok (.iload_n 2, 1) := by decide +kernel
theorem dX12_lampBurns_118 : decode cX12_lampBurns 118 = .ok (.iconst 1, 1) := by decide +kernel
theorem dX12_lampBurns_119 : decode cX12_lampBurns 119 = .ok (.iadd, 1) := by decide +kernel
theorem dX12_lampBurns_120 : decode cX12_lampBurns 120 = .ok (.iastore, 1) := by decide +kernel
theorem dX12_lampBurns_121 : decode cX12_lampBurns 121 = .ok (.aload_n 0, 1) := by decide +kernel
theorem dX12_lampBurns_122 : decode cX12_lampBurns 122 = .ok (.iconst 3, 1) := by decide +kernel
theorem dX12_lampBurns_123 : decode cX12_lampBurns 123 = .ok (.iload_n 3, 1) := by decide +kernel
theorem dX12_lampBurns_124 : decode cX12_lampBurns 124 = .ok (.iload_n 2, 1) := by decide +kernel
theorem dX12_lampBurns_125 : decode cX12_lampBurns 125 = .ok (.invokevirtual 400, 3) := by decide +kernel
theorem dX12_lampBurns_128 : decode cX12_lampBurns 128 = .ok (.iinc 3 1, 3) := by decide +kernel
theorem dX12_lampBurns_131 : decode cX12_lampBurns 131 = .ok (.goto (-61), 3) := by decide +kernel
theorem dX12_lampBurns_134 : decode cX12_lampBurns 134 = .ok (.return_, 1) := by decide +kernel
theorem dX12_goesBy_0 : decode cX12_goesBy 0 = .ok (.aload_n 0, 1) := by decide +kernel
theorem dX12_goesBy_1 : decode cX12_goesBy 1 = .ok (.getfield 7, 3) := by decide +kernel
theorem dX12_goesBy_4 : decode cX12_goesBy 4 = .ok (.iconst 1, 1) := by decide +kernel
theorem dX12_goesBy_5 : decode cX12_goesBy 5 = .ok (.iaload, 1) := by decide +kernel
theorem dX12_goesBy_6 : decode cX12_goesBy 6 = .ok (.ifCond .ne 7, 3) := by decide +kernel
theorem dX12_goesBy_9 : decode cX12_goesBy 9 = .ok (.aload_n 0, 1) := by decide +kernel
theorem dX12_goesBy_10 : decode cX12_goesBy 10 = .ok (.invokevirtual 435, 3) := by decide +kernel
theorem dX12_goesBy_13 : decode cX12_goesBy 13 = .ok (.aload_n 0, 1) := by decide +kernel
theorem dX12_goesBy_14 : decode cX12_goesBy 14 = .ok (.invokevirtual 438, 3) := by decide +kernel
theorem dX12_goesBy_17 : decode cX12_goesBy 17 = .ok (.iconst 0, 1) := by decide +kernel
theorem dX12_goesBy_18 : decode cX12_goesBy 18 = .ok (.istore_n 1, 1) := by decide +kernel
theorem dX12_goesBy_19 : decode cX12_goesBy 19 = .ok (.iconst 0, 1) := by decide +kernel
theorem dX12_goesBy_20 : decode cX12_goesBy 20 = .ok (.istore_n 2, 1) := by decide +kernel
theorem dX12_goesBy_21 : decode cX12_goesBy 21 = .ok (.iload_n 2, 1) := by decide +kernel
theorem dX12_goesBy_22 : decode cX12_goesBy 22 = .ok (.aload_n 0, 1) := by decide +kernel
theorem dX12_goesBy_23 : decode cX12_goesBy 23 = .ok (.getfield 199, 3) := by decide +kernel
theorem dX12_goesBy_26 : decode cX12_goesBy 26 = .ok (.if_icmp .ge 41, 3) := by decide +kernel
theorem dX12_goesBy_29 : decode cX12_goesBy 29 = .ok (.aload_n 0, 1) := by decide +kernel
theorem dX12_goesBy_30 : decode cX12_goesBy 30 = .ok (.iload_n 2, 1) := by decide +kernel
theorem dX12_goesBy_31 : decode cX12_goesBy 31 = .ok (.invokevirtual 397, 3) := by decide +kernel
theorem dX12_goesBy_34 : decode cX12_goesBy 34 = .ok (.ifCond .eq 27, 3) := by decide +kernel
theorem dX12_goesBy_37 : decode cX12_goesBy 37 = .ok (.aload_n 0, 1) := by decide +kernel
theorem dX12_goesBy_38 : decode cX12_goesBy 38 = .ok (.aload_n 0, 1) := by decide +kernel
theorem dX12_goesBy_39 : decode cX12_goesBy 39 = .ok (.iload_n 2, 1) := by decide +kernel
theorem dX12_goesBy_40 : decode cX12_goesBy 40 = .ok (.invokevirtual 441, 3) := by decide +kernel
theorem dX12_goesBy_43 : decode cX12_goesBy 43 = .ok (.invokevirtual 432, 3) := by decide +kernel
theorem dX12_goesBy_46 : decode cX12_goesBy 46 = .ok (.ifCond .ne 6, 3) := by decide +kernel
theorem dX12_goesBy_49 : decode cX12_goesBy 49 = .ok (.goto 12, 3) := by decide +kernel
theorem dX12_goesBy_52 : decode cX12_goesBy 52 = .ok (.aload_n 0, 1) := by decide +kernel
theorem dX12_goesBy_53 : decode cX12_goesBy 53 = .ok (.iload_n 2, 1) := by decide +kernel
theorem dX12_goesBy_54 : decode cX12_goesBy 54 = .ok (.invokevirtual 444, 3) := by decide +kernel
theorem dX12_goesBy_57 : decode cX12_goesBy 57 = .ok (.iload_n 1, 1) := by decide +kernel
theorem dX12_goesBy_58 : decode cX12_goesBy 58 = .ok (.iconst 1, 1) := by decide +kernel
theorem dX12_goesBy_59 : decode cX12_goesBy 59 = .ok (.iadd, 1) := by decide +kernel
theorem dX12_goesBy_60 : decode cX12_goesBy 60 = .ok (.istore_n 1, 1) := by decide +kernel
theorem dX12_goesBy_61 : decode cX12_goesBy 61 = .ok (.iinc 2 1, 3) := by decide +kernel
theorem dX12_goesBy_64 : decode cX12_goesBy 64 = .ok (.goto (-43), 3) := by decide +kernel
theorem dX12_goesBy_67 : decode cX12_goesBy 67 = .ok (.iconst 0, 1) := by decide +kernel
theorem dX12_goesBy_68 : decode cX12_goesBy 68 = .ok (.istore_n 2, 1) := by decide +kernel
theorem dX12_goesBy_69 : decode cX12_goesBy 69 = .ok (.iload_n 2, 1) := by decide +kernel
theorem dX12_goesBy_70 : decode cX12_goesBy 70 = .ok (.aload_n 0, 1) := by decide +kernel
theorem dX12_goesBy_71 : decode cX12_goesBy 71 = .ok (.getfield 199, 3) := by decide +kernel
theorem dX12_goesBy_74 : decode cX12_goesBy 74 = .ok (.if_icmp .ge 66, 3) := by decide +kernel
theorem dX12_goesBy_77 : decode cX12_goesBy 77 = .ok (.aload_n 0, 1) := by decide +kernel
theorem dX12_goesBy_78 : decode cX12_goesBy 78 = .ok (.iload_n 2, 1) := by decide +kernel
theorem dX12_goesBy_79 : decode cX12_goesBy 79 = .ok (.invokevirtual 397, 3) := by decide +kernel
theorem dX12_goesBy_82 : decode cX12_goesBy 82 = .ok (.ifCond .ne 6, 3) := by decide +kernel
theorem dX12_goesBy_85 : decode cX12_goesBy 85 = .ok (.goto 49, 3) := by decide +kernel
theorem dX12_goesBy_88 : decode cX12_goesBy 88 = .ok (.aload_n 0, 1) := by decide +kernel
theorem dX12_goesBy_89 : decode cX12_goesBy 89 = .ok (.getfield 7, 3) := by decide +kernel
theorem dX12_goesBy_92 : decode cX12_goesBy 92 = .ok (.bipush 61, 2) := by decide +kernel
theorem dX12_goesBy_94 : decode cX12_goesBy 94 = .ok (.iload_n 2, 1) := by decide +kernel
theorem dX12_goesBy_95 : decode cX12_goesBy 95 = .ok (.iadd, 1) := by decide +kernel
theorem dX12_goesBy_96 : decode cX12_goesBy 96 = .ok (.aload_n 0, 1) := by decide +kernel
theorem dX12_goesBy_97 : decode cX12_goesBy 97 = .ok (.getfield 7, 3) := by decide +kernel
theorem dX12_goesBy_100 : decode cX12_goesBy 100 = .ok (.bipush 61, 2) := by decide +kernel
theorem dX12_goesBy_102 : decode cX12_goesBy 102 = .ok (.iload_n 2, 1) := by decide +kernel
theorem dX12_goesBy_103 : decode cX12_goesBy 103 = .ok (.iadd, 1) := by decide +kernel
theorem dX12_goesBy_104 : decode cX12_goesBy 104 = .ok (.iaload, 1) := by decide +kernel
theorem dX12_goesBy_105 : decode cX12_goesBy 105 = .ok (.iconst 1, 1) := by decide +kernel
theorem dX12_goesBy_106 : decode cX12_goesBy 106 = .ok (.iadd, 1) := by decide +kernel
theorem dX12_goesBy_107 : decode cX12_goesBy 107 = .ok (.iastore, 1) := by decide +kernel
theorem dX12_goesBy_108 : decode cX12_goesBy 108 = .ok (.aload_n 0, 1) := by decide +kernel
theorem dX12_goesBy_109 : decode cX12_goesBy 109 = .ok (.getfield 7, 3) := by decide +kernel
theorem dX12_goesBy_112 : decode cX12_goesBy 112 = .ok (.bipush 61, 2) := by decide +kernel
theorem dX12_goesBy_114 : decode cX12_goesBy 114 = .ok (.iload_n 2, 1) := by decide +kernel
theorem dX12_goesBy_115 : decode cX12_goesBy 115 = .ok (.iadd, 1) := by decide +kernel
theorem dX12_goesBy_116 : decode cX12_goesBy 116 = .ok (.iaload, 1) := by decide +kernel
theorem dX12_goesBy_117 : decode cX12_goesBy 117 = .ok (.aload_n 0, 1) := by decide +kernel
theorem dX12_goesBy_118 : decode cX12_goesBy 118 = .ok (.getfield 7, 3) := by decide +kernel
theorem dX12_goesBy_121 : decode cX12_goesBy 121 = .ok (.bipush 81, 2) := by decide +kernel
theorem dX12_goesBy_123 : decode cX12_goesBy 123 = .ok (.iload_n 2, 1) := by decide +kernel
theorem dX12_goesBy_124 : decode cX12_goesBy 124 = .ok (.iadd, 1) := by decide +kernel
theorem dX12_goesBy_125 : decode cX12_goesBy 125 = .ok (.iaload, 1) := by decide +kernel
theorem dX12_goesBy_126 : decode cX12_goesBy 126 = .ok (.if_icmp .lt 8, 3) := by decide +kernel
theorem dX12_goesBy_129 : decode cX12_goesBy 129 = .ok (.aload_n 0, 1) := by decide +kernel
theorem dX12_goesBy_130 : decode cX12_goesBy 130 = .ok (.iload_n 2, 1) := by decide +kernel
theorem dX12_goesBy_131 : decode cX12_goesBy 131 = .ok (.invokevirtual 417, 3) := by decide +kernel
theorem dX12_goesBy_134 : decode cX12_goesBy 134 = .ok (.iinc 2 1, 3) := by decide +kernel
theorem dX12_goesBy_137 : decode cX12_goesBy 137 = .ok (.goto (-68), 3) := by decide +kernel
theorem dX12_goesBy_140 : decode cX12_goesBy 140 = .ok (.iconst 0, 1) := by decide +kernel
theorem dX12_goesBy_141 : decode cX12_goesBy 141 = .ok (.istore_n 2, 1) := by decide +kernel
theorem dX12_goesBy_142 : decode cX12_goesBy 142 = .ok (.iload_n 2, 1) := by decide +kernel
theorem dX12_goesBy_143 : decode cX12_goesBy 143 = .ok (.aload_n 0, 1) := by decide +kernel
theorem dX12_goesBy_144 : decode cX12_goesBy 144 = .ok (.getfield 196, 3) := by decide +kernel
theorem dX12_goesBy_147 : decode cX12_goesBy 147 = .ok (.if_icmp .ge 14, 3) := by decide +kernel
theorem dX12_goesBy_150 : decode cX12_goesBy 150 = .ok (.aload_n 0, 1) := by decide +kernel
theorem dX12_goesBy_151 : decode cX12_goesBy 151 = .ok (.iload_n 2, 1) := by decide +kernel
theorem dX12_goesBy_152 : decode cX12_goesBy 152 = .ok (.invokevirtual 447, 3) := by decide +kernel
theorem dX12_goesBy_155 : decode cX12_goesBy 155 = .ok (.iinc 2 1, 3) := by decide +kernel
theorem dX12_goesBy_158 : decode cX12_goesBy 158 = .ok (.goto (-16), 3) := by decide +kernel
theorem dX12_goesBy_161 : decode cX12_goesBy 161 = .ok (.iconst 0, 1) := by decide +kernel
theorem dX12_goesBy_162 : decode cX12_goesBy 162 = .ok (.istore_n 2, 1) := by decide +kernel
theorem dX12_goesBy_163 : decode cX12_goesBy 163 = .ok (.iload_n 2, 1) := by decide +kernel
theorem dX12_goesBy_164 : decode cX12_goesBy 164 = .ok (.aload_n 0, 1) := by decide +kernel
theorem dX12_goesBy_165 : decode cX12_goesBy 165 = .ok (.getfield 196, 3) := by decide +kernel
theorem dX12_goesBy_168 : decode cX12_goesBy 168 = .ok (.if_icmp .ge 47, 3) := by decide +kernel
theorem dX12_goesBy_171 : decode cX12_goesBy 171 = .ok (.aload_n 0, 1) := by decide +kernel
theorem dX12_goesBy_172 : decode cX12_goesBy 172 = .ok (.iload_n 2, 1) := by decide +kernel
theorem dX12_goesBy_173 : decode cX12_goesBy 173 = .ok (.invokevirtual 379, 3) := by decide +kernel
theorem dX12_goesBy_176 : decode cX12_goesBy 176 = .ok (.ifCond .ne 33, 3) := by decide +kernel
theorem dX12_goesBy_179 : decode cX12_goesBy 179 = .ok (.aload_n 0, 1) := by decide +kernel
theorem dX12_goesBy_180 : decode cX12_goesBy 180 = .ok (.getfield 7, 3) := by decide +kernel
theorem dX12_goesBy_183 : decode cX12_goesBy 183 = .ok (.bipush 17, 2) := by decide +kernel
theorem dX12_goesBy_185 : decode cX12_goesBy 185 = .ok (.iload_n 2, 1) := by decide +kernel
theorem dX12_goesBy_186 : decode cX12_goesBy 186 = .ok (.iadd, 1) := by decide +kernel
theorem dX12_goesBy_187 : decode cX12_goesBy 187 = .ok (.aload_n 0, 1) := by decide +kernel
theorem dX12_goesBy_188 : decode cX12_goesBy 188 = .ok (.bipush 99, 2) := by decide +kernel
theorem dX12_goesBy_190 : decode cX12_goesBy 190 = .ok (.aload_n 0, 1) := by decide +kernel
theorem dX12_goesBy_191 : decode cX12_goesBy 191 = .ok (.getfield 7, 3) := by decide +kernel
theorem dX12_goesBy_194 : decode cX12_goesBy 194 = .ok (.bipush 17, 2) := by decide +kernel
theorem dX12_goesBy_196 : decode cX12_goesBy 196 = .ok (.iload_n 2, 1) := by decide +kernel
theorem dX12_goesBy_197 : decode cX12_goesBy 197 = .ok (.iadd, 1) := by decide +kernel
theorem dX12_goesBy_198 : decode cX12_goesBy 198 = .ok (.iaload, 1) := by decide +kernel
theorem dX12_goesBy_199 : decode cX12_goesBy 199 = .ok (.aload_n 0, 1) := by decide +kernel
theorem dX12_goesBy_200 : decode cX12_goesBy 200 = .ok (.iload_n 2, 1) := by decide +kernel
theorem dX12_goesBy_201 : decode cX12_goesBy 201 = .ok (.invokevirtual 450, 3) := by decide +kernel
theorem dX12_goesBy_204 : decode cX12_goesBy 204 = .ok (.iadd, 1) := by decide +kernel
theorem dX12_goesBy_205 : decode cX12_goesBy 205 = .ok (.invokevirtual 453, 3) := by decide +kernel
theorem dX12_goesBy_208 : decode cX12_goesBy 208 = .ok (.iastore, 1) := by decide +kernel
theorem dX12_goesBy_209 : decode cX12_goesBy 209 = .ok (.iinc 2 1, 3) := by decide +kernel
theorem dX12_goesBy_212 : decode cX12_goesBy 212 = .ok (.goto (-49), 3) := by decide +kernel
theorem dX12_goesBy_215 : decode cX12_goesBy 215 = .ok (.aload_n 0, 1) := by decide +kernel
theorem dX12_goesBy_216 : decode cX12_goesBy 216 = .ok (.getfield 7, 3) := by decide +kernel
theorem dX12_goesBy_219 : decode cX12_goesBy 219 = .ok (.iconst 1, 1) := by decide +kernel
theorem dX12_goesBy_220 : decode cX12_goesBy 220 = .ok (.aload_n 0, 1) := by decide +kernel
theorem dX12_goesBy_221 : decode cX12_goesBy 221 = .ok (.getfield 7, 3) := by decide +kernel
theorem dX12_goesBy_224 : decode cX12_goesBy 224 = .ok (.iconst 1, 1) := by decide +kernel
theorem dX12_goesBy_225 : decode cX12_goesBy 225 = .ok (.iaload, 1) := by decide +kernel
theorem dX12_goesBy_226 : decode cX12_goesBy 226 = .ok (.iconst 1, 1) := by decide +kernel
theorem dX12_goesBy_227 : decode cX12_goesBy 227 = .ok (.iadd, 1) := by decide +kernel
theorem dX12_goesBy_228 : decode cX12_goesBy 228 = .ok (.bipush 60, 2) := by decide +kernel
theorem dX12_goesBy_230 : decode cX12_goesBy 230 = .ok (.irem, 1) := by decide +kernel
theorem dX12_goesBy_231 : decode cX12_goesBy 231 = .ok (.iastore, 1) := by decide +kernel
theorem dX12_goesBy_232 : decode cX12_goesBy 232 = .ok (.aload_n 0, 1) := by decide +kernel
theorem dX12_goesBy_233 : decode cX12_goesBy 233 = .ok (.getfield 7, 3) := by decide +kernel
theorem dX12_goesBy_236 : decode cX12_goesBy 236 = .ok (.iconst 1, 1) := by decide +kernel
theorem dX12_goesBy_237 : decode cX12_goesBy 237 = .ok (.iaload, 1) := by decide +kernel
theorem dX12_goesBy_238 : decode cX12_goesBy 238 = .ok (.ifCond .le 5, 3) := by decide +kernel
theorem dX12_goesBy_241 : decode cX12_goesBy 241 = .ok (.iload_n 1, 1) := by decide +kernel
theorem dX12_goesBy_242 : decode cX12_goesBy 242 = .ok (.ireturn, 1) := by decide +kernel
theorem dX12_goesBy_243 : decode cX12_goesBy 243 = .ok (.iconst 0, 1) := by decide +kernel
theorem dX12_goesBy_244 : decode cX12_goesBy 244 = .ok (.istore_n 2, 1) := by decide +kernel
theorem dX12_goesBy_245 : decode cX12_goesBy 245 = .ok (.iload_n 2, 1) := by decide +kernel
theorem dX12_goesBy_246 : decode cX12_goesBy 246 = .ok (.aload_n 0, 1) := by decide +kernel
theorem dX12_goesBy_247 : decode cX12_goesBy 247 = .ok (.getfield 199, 3) := by decide +kernel
theorem dX12_goesBy_250 : decode cX12_goesBy 250 = .ok (.if_icmp .ge 14, 3) := by decide +kernel
theorem dX12_goesBy_253 : decode cX12_goesBy 253 = .ok (.aload_n 0, 1) := by decide +kernel
theorem dX12_goesBy_254 : decode cX12_goesBy 254 = .ok (.iload_n 2, 1) := by decide +kernel
theorem dX12_goesBy_255 : decode cX12_goesBy 255 = .ok (.invokevirtual 417, 3) := by decide +kernel
theorem dX12_goesBy_258 : decode cX12_goesBy 258 = .ok (.iinc 2 1, 3) := by decide +kernel
theorem dX12_goesBy_261 : decode cX12_goesBy 261 = .ok (.goto (-16), 3) := by decide +kernel
theorem dX12_goesBy_264 : decode cX12_goesBy 264 = .ok (.aload_n 0, 1) := by decide +kernel
theorem dX12_goesBy_265 : decode cX12_goesBy 265 = .ok (.getfield 7, 3) := by decide +kernel
theorem dX12_goesBy_268 : decode cX12_goesBy 268 = .ok (.iconst 0, 1) := by decide +kernel
theorem dX12_goesBy_269 : decode cX12_goesBy 269 = .ok (.aload_n 0, 1) := by decide +kernel
theorem dX12_goesBy_270 : decode cX12_goesBy 270 = .ok (.getfield 7, 3) := by decide +kernel
theorem dX12_goesBy_273 : decode cX12_goesBy 273 = .ok (.iconst 0, 1) := by decide +kernel
theorem dX12_goesBy_274 : decode cX12_goesBy 274 = .ok (.iaload, 1) := by decide +kernel
theorem dX12_goesBy_275 : decode cX12_goesBy 275 = .ok (.iconst 1, 1) := by decide +kernel
theorem dX12_goesBy_276 : decode cX12_goesBy 276 = .ok (.iadd, 1) := by decide +kernel
theorem dX12_goesBy_277 : decode cX12_goesBy 277 = .ok (.iastore, 1) := by decide +kernel
theorem dX12_goesBy_278 : decode cX12_goesBy 278 = .ok (.iload_n 1, 1) := by decide +kernel
theorem dX12_goesBy_279 : decode cX12_goesBy 279 = .ok (.ireturn, 1) := by decide +kernel
theorem dX12_minutes_0 : decode cX12_minutes 0 = .ok (.aload_n 0, 1) := by decide +kernel
theorem dX12_minutes_1 : decode cX12_minutes 1 = .ok (.iconst 0, 1) := by decide +kernel
theorem dX12_minutes_2 : decode cX12_minutes 2 = .ok (.putfield 183, 3) := by decide +kernel
theorem dX12_minutes_5 : decode cX12_minutes 5 = .ok (.aload_n 0, 1) := by decide +kernel
theorem dX12_minutes_6 : decode cX12_minutes 6 = .ok (.iload_n 1, 1) := by decide +kernel
theorem dX12_minutes_7 : decode cX12_minutes 7 = .ok (.iconst 1, 1) := by decide +kernel
theorem dX12_minutes_8 : decode cX12_minutes 8 = .ok (.bipush 60, 2) := by decide +kernel
theorem dX12_minutes_10 : decode cX12_minutes 10 = .ok (.invokevirtual 206, 3) := by decide +kernel
theorem dX12_minutes_13 : decode cX12_minutes 13 = .ok (.ifCond .eq 27, 3) := by decide +kernel
theorem dX12_minutes_16 : decode cX12_minutes 16 = .ok (.aload_n 0, 1) := by decide +kernel
theorem dX12_minutes_17 : decode cX12_minutes 17 = .ok (.getfield 7, 3) := by decide +kernel
theorem dX12_minutes_20 : decode cX12_minutes 20 = .ok (.iconst 0, 1) := by decide +kernel
theorem dX12_minutes_21 : decode cX12_minutes 21 = .ok (.iaload, 1) := by decide +kernel
theorem dX12_minutes_22 : decode cX12_minutes 22 = .ok (.aload_n 0, 1) := by decide +kernel
theorem dX12_minutes_23 : decode cX12_minutes 23 = .ok (.getfield 7, 3) := by decide +kernel
theorem dX12_minutes_26 : decode cX12_minutes 26 = .ok (.iconst 1, 1) := by decide +kernel
theorem dX12_minutes_27 : decode cX12_minutes 27 = .ok (.iaload, 1) := by decide +kernel
theorem dX12_minutes_28 : decode cX12_minutes 28 = .ok (.iload_n 1, 1) := by decide +kernel
theorem dX12_minutes_29 : decode cX12_minutes 29 = .ok (.iadd, 1) := by decide +kernel
theorem dX12_minutes_30 : decode cX12_minutes 30 = .ok (.bipush 60, 2) := by decide +kernel
theorem dX12_minutes_32 : decode cX12_minutes 32 = .ok (.idiv, 1) := by decide +kernel
theorem dX12_minutes_33 : decode cX12_minutes 33 = .ok (.iadd, 1) := by decide +kernel
theorem dX12_minutes_34 : decode cX12_minutes 34 = .ok (.sipush 9990, 3) := by decide +kernel
theorem dX12_minutes_37 : decode cX12_minutes 37 = .ok (.if_icmp .le 5, 3) := by decide +kernel
theorem dX12_minutes_40 : decode cX12_minutes 40 = .ok (.iconst (-1), 1) := by decide +kernel
theorem dX12_minutes_41 : decode cX12_minutes 41 = .ok (.ireturn, 1) := by decide +kernel
theorem dX12_minutes_42 : decode cX12_minutes 42 = .ok (.iconst 0, 1) := by decide +kernel
theorem dX12_minutes_43 : decode cX12_minutes 43 = .ok (.istore_n 2, 1) := by decide +kernel
theorem dX12_minutes_44 : decode cX12_minutes 44 = .ok (.iconst 0, 1) := by decide +kernel
theorem dX12_minutes_45 : decode cX12_minutes 45 = .ok (.istore_n 3, 1) := by decide +kernel
theorem dX12_minutes_46 : decode cX12_minutes 46 = .ok (.iload_n 3, 1) := by decide +kernel
theorem dX12_minutes_47 : decode cX12_minutes 47 = .ok (.iload_n 1, 1) := by decide +kernel
theorem dX12_minutes_48 : decode cX12_minutes 48 = .ok (.if_icmp .ge 20, 3) := by decide +kernel
theorem dX12_minutes_51 : decode cX12_minutes 51 = .ok (.aload_n 0, 1) := by decide +kernel
theorem dX12_minutes_52 : decode cX12_minutes 52 = .ok (.invokevirtual 411, 3) := by decide +kernel
theorem dX12_minutes_55 : decode cX12_minutes 55 = .ok (.iload_n 2, 1) := by decide +kernel
theorem dX12_minutes_56 : decode cX12_minutes 56 = .ok (.aload_n 0, 1) := by decide +kernel
theorem dX12_minutes_57 : decode cX12_minutes 57 = .ok (.invokevirtual 456, 3) := by decide +kernel
theorem dX12_minutes_60 : decode cX12_minutes 60 = .ok (.iadd, 1) := by decide +kernel
theorem dX12_minutes_61 : decode cX12_minutes 61 = .ok (.istore_n 2, 1) := by decide +kernel
theorem dX12_minutes_62 : decode cX12_minutes 62 = .ok (.iinc 3 1, 3) := by decide +kernel
theorem dX12_minutes_65 : decode cX12_minutes 65 = .ok (.goto (-19), 3) := by decide +kernel
theorem dX12_minutes_68 : decode cX12_minutes 68 = .ok (.iload_n 2, 1) := by decide +kernel
theorem dX12_minutes_69 : decode cX12_minutes 69 = .ok (.ireturn, 1) := by decide +kernel
theorem dX12_porchOf_0 : decode cX12_porchOf 0 = .ok (.aload_n 0, 1) := by decide +kernel
theorem dX12_porchOf_1 : decode cX12_porchOf 1 = .ok (.iconst 0, 1) := by decide +kernel
theorem dX12_porchOf_2 : decode cX12_porchOf 2 = .ok (.putfield 183, 3) := by decide +kernel
theorem dX12_porchOf_5 : decode cX12_porchOf 5 = .ok (.aload_n 0, 1) := by decide +kernel
theorem dX12_porchOf_6 : decode cX12_porchOf 6 = .ok (.iload_n 1, 1) := by decide +kernel
theorem dX12_porchOf_7 : decode cX12_porchOf 7 = .ok (.invokevirtual 210, 3) := by decide +kernel
theorem dX12_porchOf_10 : decode cX12_porchOf 10 = .ok (.ifCond .ne 6, 3) := by decide +kernel
theorem dX12_porchOf_13 : decode cX12_porchOf 13 = .ok (.bipush (-2), 2) := by decide +kernel
theorem dX12_porchOf_15 : decode cX12_porchOf 15 = .ok (.ireturn, 1) := by decide +kernel
theorem dX12_porchOf_16 : decode cX12_porchOf 16 = .ok (.iload_n 2, 1) := by decide +kernel
theorem dX12_porchOf_17 : decode cX12_porchOf 17 = .ok (.ifCond .ne 10, 3) := by decide +kernel
theorem dX12_porchOf_20 : decode cX12_porchOf 20 = .ok (.aload_n 0, 1) := by decide +kernel
theorem dX12_porchOf_21 : decode cX12_porchOf 21 = .ok (.getfield 19, 3) := by decide +kernel
theorem dX12_porchOf_24 : decode cX12_porchOf 24 = .ok (.iload_n 1, 1) := by decide +kernel
theorem dX12_porchOf_25 : decode cX12_porchOf 25 = .ok (.iaload, 1) := by decide +kernel
theorem dX12_porchOf_26 : decode cX12_porchOf 26 = .ok (.ireturn, 1) := by decide +kernel
theorem dX12_porchOf_27 : decode cX12_porchOf 27 = .ok (.iload_n 2, 1) := by decide +kernel
theorem dX12_porchOf_28 : decode cX12_porchOf 28 = .ok (.iconst 1, 1) := by decide +kernel
theorem dX12_porchOf_29 : decode cX12_porchOf 29 = .ok (.if_icmp .ne 12, 3) := by decide +kernel
theorem dX12_porchOf_32 : decode cX12_porchOf 32 = .ok (.aload_n 0, 1) := by decide +kernel
theorem dX12_porchOf_33 : decode cX12_porchOf 33 = .ok (.getfield 7, 3) := by decide +kernel
theorem dX12_porchOf_36 : decode cX12_porchOf 36 = .ok (.iconst 5, 1) := by decide +kernel
theorem dX12_porchOf_37 : decode cX12_porchOf 37 = .ok (.iload_n 1, 1) := by decide +kernel
theorem dX12_porchOf_38 : decode cX12_porchOf 38 = .ok (.iadd, 1) := by decide +kernel
theorem dX12_porchOf_39 : decode cX12_porchOf 39 = .ok (.iaload, 1) := by decide +kernel
theorem dX12_porchOf_40 : decode cX12_porchOf 40 = .ok (.ireturn, 1) := by decide +kernel
theorem dX12_porchOf_41 : decode cX12_porchOf 41 = .ok (.iload_n 2, 1) := by decide +kernel
theorem dX12_porchOf_42 : decode cX12_porchOf 42 = .ok (.iconst 2, 1) := by decide +kernel
theorem dX12_porchOf_43 : decode cX12_porchOf 43 = .ok (.if_icmp .ne 13, 3) := by decide +kernel
theorem dX12_porchOf_46 : decode cX12_porchOf 46 = .ok (.aload_n 0, 1) := by decide +kernel
theorem dX12_porchOf_47 : decode cX12_porchOf 47 = .ok (.getfield 7, 3) := by decide +kernel
theorem dX12_porchOf_50 : decode cX12_porchOf 50 = .ok (.bipush 17, 2) := by decide +kernel
theorem dX12_porchOf_52 : decode cX12_porchOf 52 = .ok (.iload_n 1, 1) := by decide +kernel
theorem dX12_porchOf_53 : decode cX12_porchOf 53 = .ok (.iadd, 1) := by decide +kernel
theorem dX12_porchOf_54 : decode cX12_porchOf 54 = .ok (.iaload, 1) := by decide +kernel
theorem dX12_porchOf_55 : decode cX12_porchOf 55 = .ok (.ireturn, 1) := by decide +kernel
theorem dX12_porchOf_56 : decode cX12_porchOf 56 = .ok (.iload_n 2, 1) := by decide +kernel
theorem dX12_porchOf_57 : decode cX12_porchOf 57 = .ok (.iconst 3, 1) := by decide +kernel
theorem dX12_porchOf_58 : decode cX12_porchOf 58 = .ok (.if_icmp .ne 15, 3) := by decide +kernel
theorem dX12_porchOf_61 : decode cX12_porchOf 61 = .ok (.aload_n 0, 1) := by decide +kernel
theorem dX12_porchOf_62 : decode cX12_porchOf 62 = .ok (.getfield 7, 3) := by decide +kernel
theorem dX12_porchOf_65 : decode cX12_porchOf 65 = .ok (.bipush 29, 2) := by decide +kernel
theorem dX12_porchOf_67 : decode cX12_porchOf 67 = .ok (.iload_n 1, 1) := by decide +kernel
theorem dX12_porchOf_68 : decode cX12_porchOf 68 = .ok (.iadd, 1) := by decide +kernel
theorem dX12_porchOf_69 : decode cX12_porchOf 69 = .ok (.iaload, 1) := by decide +kernel
theorem dX12_porchOf_70 : decode cX12_porchOf 70 = .ok (.iconst 1, 1) := by decide +kernel
theorem dX12_porchOf_71 : decode cX12_porchOf 71 = .ok (.isub, 1) := by decide +kernel
theorem dX12_porchOf_72 : decode cX12_porchOf 72 = .ok (.ireturn, 1) := by decide +kernel
theorem dX12_porchOf_73 : decode cX12_porchOf 73 = .ok (.iload_n 2, 1) := by decide +kernel
theorem dX12_porchOf_74 : decode cX12_porchOf 74 = .ok (.iconst 4, 1) := by decide +kernel
theorem dX12_porchOf_75 : decode cX12_porchOf 75 = .ok (.if_icmp .ne 9, 3) := by decide +kernel
theorem dX12_porchOf_78 : decode cX12_porchOf 78 = .ok (.aload_n 0, 1) := by decide +kernel
theorem dX12_porchOf_79 : decode cX12_porchOf 79 = .ok (.iload_n 1, 1) := by decide +kernel
theorem dX12_porchOf_80 : decode cX12_porchOf 80 = .ok (.invokevirtual 379, 3) := by decide +kernel
theorem dX12_porchOf_83 : decode cX12_porchOf 83 = .ok (.ireturn, 1) := by decide +kernel
theorem dX12_porchOf_84 : decode cX12_porchOf 84 = .ok (.iload_n 2, 1) := by decide +kernel
theorem dX12_porchOf_85 : decode cX12_porchOf 85 = .ok (.iconst 5, 1) := by decide +kernel
theorem dX12_porchOf_86 : decode cX12_porchOf 86 = .ok (.if_icmp .ne 9, 3) := by decide +kernel
theorem dX12_porchOf_89 : decode cX12_porchOf 89 = .ok (.aload_n 0, 1) := by decide +kernel
theorem dX12_porchOf_90 : decode cX12_porchOf 90 = .ok (.iload_n 1, 1) := by decide +kernel
theorem dX12_porchOf_91 : decode cX12_porchOf 91 = .ok (.invokevirtual 450, 3) := by decide +kernel
theorem dX12_porchOf_94 : decode cX12_porchOf 94 = .ok (.ireturn, 1) := by decide +kernel
theorem dX12_porchOf_95 : decode cX12_porchOf 95 = .ok (.aload_n 0, 1) := by decide +kernel
theorem dX12_porchOf_96 : decode cX12_porchOf 96 = .ok (.iload_n 2, 1) := by decide +kernel
theorem dX12_porchOf_97 : decode cX12_porchOf 97 = .ok (.bipush 10, 2) := by decide +kernel
theorem dX12_porchOf_99 : decode cX12_porchOf 99 = .ok (.bipush 9, 2) := by decide +kernel
theorem dX12_porchOf_101 : decode cX12_porchOf 101 = .ok (.aload_n 0, 1) := by decide +kernel
theorem dX12_porchOf_102 : decode cX12_porchOf 102 = .ok (.getfield 196, 3) := by decide +kernel
theorem dX12_porchOf_105 : decode cX12_porchOf 105 = .ok (.iadd, 1) := by decide +kernel
theorem dX12_porchOf_106 : decode cX12_porchOf 106 = .ok (.invokevirtual 206, 3) := by decide +kernel
theorem dX12_porchOf_109 : decode cX12_porchOf 109 = .ok (.ifCond .ne 6, 3) := by decide +kernel
theorem dX12_porchOf_112 : decode cX12_porchOf 112 = .ok (.bipush (-2), 2) := by decide +kernel
theorem dX12_porchOf_114 : decode cX12_porchOf 114 = .ok (.ireturn, 1) := by decide +kernel
theorem dX12_porchOf_115 : decode cX12_porchOf 115 = .ok (.aload_n 0, 1) := by decide +kernel
theorem dX12_porchOf_116 : decode cX12_porchOf 116 = .ok (.getfield 71, 3) := by decide +kernel
theorem dX12_porchOf_119 : decode cX12_porchOf 119 = .ok (.bipush 12, 2) := by decide +kernel
theorem dX12_porchOf_121 : decode cX12_porchOf 121 = .ok (.iload_n 1, 1) := by decide +kernel
theorem dX12_porchOf_122 : decode cX12_porchOf 122 = .ok (.imul, 1) := by decide +kernel
theorem dX12_porchOf_123 : decode cX12_porchOf 123 = .ok (.iload_n 2, 1) := by decide +kernel
theorem dX12_porchOf_124 : decode cX12_porchOf 124 = .ok (.iadd, 1) := by decide +kernel
theorem dX12_porchOf_125 : decode cX12_porchOf 125 = .ok (.bipush 10, 2) := by decide +kernel
theorem dX12_porchOf_127 : decode cX12_porchOf 127 = .ok (.isub, 1) := by decide +kernel
theorem dX12_porchOf_128 : decode cX12_porchOf 128 = .ok (.iaload, 1) := by decide +kernel
theorem dX12_porchOf_129 : decode cX12_porchOf 129 = .ok (.istore_n 3, 1) := by decide +kernel
theorem dX12_porchOf_130 : decode cX12_porchOf 130 = .ok (.iload_n 3, 1) := by decide +kernel
theorem dX12_porchOf_131 : decode cX12_porchOf 131 = .ok (.ifCond .ne 7, 3) := by decide +kernel
theorem dX12_porchOf_134 : decode cX12_porchOf 134 = .ok (.iconst (-1), 1) := by decide +kernel
theorem dX12_porchOf_135 : decode cX12_porchOf 135 = .ok (.goto 4, 3) := by decide +kernel
theorem dX12_porchOf_138 : decode cX12_porchOf 138 = .ok (.iload_n 3, 1) := by decide +kernel
theorem dX12_porchOf_139 : decode cX12_porchOf 139 = .ok (.ireturn, 1) := by decide +kernel
theorem dX12_of_0 : decode cX12_of 0 = .ok (.aload_n 0, 1) := by decide +kernel
theorem dX12_of_1 : decode cX12_of 1 = .ok (.iconst 0, 1) := by decide +kernel
theorem dX12_of_2 : decode cX12_of 2 = .ok (.putfield 183, 3) := by decide +kernel
theorem dX12_of_5 : decode cX12_of 5 = .ok (.aload_n 0, 1) := by decide +kernel
theorem dX12_of_6 : decode cX12_of 6 = .ok (.iload_n 1, 1) := by decide +kernel
theorem dX12_of_7 : decode cX12_of 7 = .ok (.invokevirtual 214, 3) := by decide +kernel
theorem dX12_of_10 : decode cX12_of 10 = .ok (.ifCond .ne 6, 3) := by decide +kernel
theorem dX12_of_13 : decode cX12_of 13 = .ok (.bipush (-2), 2) := by decide +kernel
theorem dX12_of_15 : decode cX12_of 15 = .ok (.ireturn, 1) := by decide +kernel
theorem dX12_of_16 : decode cX12_of 16 = .ok (.iload_n 2, 1) := by decide +kernel
theorem dX12_of_17 : decode cX12_of 17 = .ok (.ifCond .ne 10, 3) := by decide +kernel
theorem dX12_of_20 : decode cX12_of 20 = .ok (.aload_n 0, 1) := by decide +kernel
theorem dX12_of_21 : decode cX12_of 21 = .ok (.getfield 22, 3) := by decide +kernel
theorem dX12_of_24 : decode cX12_of 24 = .ok (.iload_n 1, 1) := by decide +kernel
theorem dX12_of_25 : decode cX12_of 25 = .ok (.iaload, 1) := by decide +kernel
theorem dX12_of_26 : decode cX12_of 26 = .ok (.ireturn, 1) := by decide +kernel
theorem dX12_of_27 : decode cX12_of 27 = .ok (.iload_n 2, 1) := by decide +kernel
theorem dX12_of_28 : decode cX12_of 28 = .ok (.iconst 1, 1) := by decide +kernel
theorem dX12_of_29 : decode cX12_of 29 = .ok (.if_icmp .ne 10, 3) := by decide +kernel
theorem dX12_of_32 : decode cX12_of 32 = .ok (.aload_n 0, 1) := by decide +kernel
theorem dX12_of_33 : decode cX12_of 33 = .ok (.getfield 25, 3) := by decide +kernel
theorem dX12_of_36 : decode cX12_of 36 = .ok (.iload_n 1, 1) := by decide +kernel
theorem dX12_of_37 : decode cX12_of 37 = .ok (.iaload, 1) := by decide +kernel
theorem dX12_of_38 : decode cX12_of 38 = .ok (.ireturn, 1) := by decide +kernel
theorem dX12_of_39 : decode cX12_of 39 = .ok (.iload_n 2, 1) := by decide +kernel
theorem dX12_of_40 : decode cX12_of 40 = .ok (.iconst 2, 1) := by decide +kernel
theorem dX12_of_41 : decode cX12_of 41 = .ok (.if_icmp .ne 9, 3) := by decide +kernel
theorem dX12_of_44 : decode cX12_of 44 = .ok (.aload_n 0, 1) := by decide +kernel
theorem dX12_of_45 : decode cX12_of 45 = .ok (.iload_n 1, 1) := by decide +kernel
theorem dX12_of_46 : decode cX12_of 46 = .ok (.invokevirtual 202, 3) := by decide +kernel
theorem dX12_of_49 : decode cX12_of 49 = .ok (.ireturn, 1) := by decide +kernel
theorem dX12_of_50 : decode cX12_of 50 = .ok (.iload_n 2, 1) := by decide +kernel
theorem dX12_of_51 : decode cX12_of 51 = .ok (.iconst 3, 1) := by decide +kernel
theorem dX12_of_52 : decode cX12_of 52 = .ok (.if_icmp .ne 13, 3) := by decide +kernel
theorem dX12_of_55 : decode cX12_of 55 = .ok (.aload_n 0, 1) := by decide +kernel
theorem dX12_of_56 : decode cX12_of 56 = .ok (.getfield 7, 3) := by decide +kernel
theorem dX12_of_59 : decode cX12_of 59 = .ok (.bipush 61, 2) := by decide +kernel
theorem dX12_of_61 : decode cX12_of 61 = .ok (.iload_n 1, 1) := by decide +kernel
theorem dX12_of_62 : decode cX12_of 62 = .ok (.iadd, 1) := by decide +kernel
theorem dX12_of_63 : decode cX12_of 63 = .ok (.iaload, 1) := by decide +kernel
theorem dX12_of_64 : decode cX12_of 64 = .ok (.ireturn, 1) := by decide +kernel
theorem dX12_of_65 : decode cX12_of 65 = .ok (.iload_n 2, 1) := by decide +kernel
theorem dX12_of_66 : decode cX12_of 66 = .ok (.iconst 4, 1) := by decide +kernel
theorem dX12_of_67 : decode cX12_of 67 = .ok (.if_icmp .ne 13, 3) := by decide +kernel
theorem dX12_of_70 : decode cX12_of 70 = .ok (.aload_n 0, 1) := by decide +kernel
theorem dX12_of_71 : decode cX12_of 71 = .ok (.getfield 7, 3) := by decide +kernel
theorem dX12_of_74 : decode cX12_of 74 = .ok (.bipush 101, 2) := by decide +kernel
theorem dX12_of_76 : decode cX12_of 76 = .ok (.iload_n 1, 1) := by decide +kernel
theorem dX12_of_77 : decode cX12_of 77 = .ok (.iadd, 1) := by decide +kernel
theorem dX12_of_78 : decode cX12_of 78 = .ok (.iaload, 1) := by decide +kernel
theorem dX12_of_79 : decode cX12_of 79 = .ok (.ireturn, 1) := by decide +kernel
theorem dX12_of_80 : decode cX12_of 80 = .ok (.iload_n 2, 1) := by decide +kernel
theorem dX12_of_81 : decode cX12_of 81 = .ok (.iconst 5, 1) := by decide +kernel
theorem dX12_of_82 : decode cX12_of 82 = .ok (.if_icmp .ne 13, 3) := by decide +kernel
theorem dX12_of_85 : decode cX12_of 85 = .ok (.aload_n 0, 1) := by decide +kernel
theorem dX12_of_86 : decode cX12_of 86 = .ok (.getfield 7, 3) := by decide +kernel
theorem dX12_of_89 : decode cX12_of 89 = .ok (.bipush 121, 2) := by decide +kernel
theorem dX12_of_91 : decode cX12_of 91 = .ok (.iload_n 1, 1) := by decide +kernel
theorem dX12_of_92 : decode cX12_of 92 = .ok (.iadd, 1) := by decide +kernel
theorem dX12_of_93 : decode cX12_of 93 = .ok (.iaload, 1) := by decide +kernel
theorem dX12_of_94 : decode cX12_of 94 = .ok (.ireturn, 1) := by decide +kernel
theorem dX12_of_95 : decode cX12_of 95 = .ok (.iload_n 2, 1) := by decide +kernel
theorem dX12_of_96 : decode cX12_of 96 = .ok (.bipush 6, 2) := by decide +kernel
theorem dX12_of_98 : decode cX12_of 98 = .ok (.if_icmp .ne 16, 3) := by decide +kernel
theorem dX12_of_101 : decode cX12_of 101 = .ok (.aload_n 0, 1) := by decide +kernel
theorem dX12_of_102 : decode cX12_of 102 = .ok (.getfield 7, 3) := by decide +kernel
theorem dX12_of_105 : decode cX12_of 105 = .ok (.sipush 141, 3) := by decide +kernel
theorem dX12_of_108 : decode cX12_of 108 = .ok (.iload_n 1, 1) := by decide +kernel
theorem dX12_of_109 : decode cX12_of 109 = .ok (.iadd, 1) := by decide +kernel
theorem dX12_of_110 : decode cX12_of 110 = .ok (.iaload, 1) := by decide +kernel
theorem dX12_of_111 : decode cX12_of 111 = .ok (.iconst 1, 1) := by decide +kernel
theorem dX12_of_112 : decode cX12_of 112 = .ok (.isub, 1) := by decide +kernel
theorem dX12_of_113 : decode cX12_of 113 = .ok (.ireturn, 1) := by decide +kernel
theorem dX12_of_114 : decode cX12_of 114 = .ok (.iload_n 2, 1) := by decide +kernel
theorem dX12_of_115 : decode cX12_of 115 = .ok (.bipush 7, 2) := by decide +kernel
theorem dX12_of_117 : decode cX12_of 117 = .ok (.if_icmp .eq 8, 3) := by decide +kernel
theorem dX12_of_120 : decode cX12_of 120 = .ok (.bipush (-2), 2) := by decide +kernel
theorem dX12_of_122 : decode cX12_of 122 = .ok (.goto 20, 3) := by decide +kernel
theorem dX12_of_125 : decode cX12_of 125 = .ok (.aload_n 0, 1) := by decide +kernel
theorem dX12_of_126 : decode cX12_of 126 = .ok (.iload_n 1, 1) := by decide +kernel
theorem dX12_of_127 : decode cX12_of 127 = .ok (.invokevirtual 397, 3) := by decide +kernel
theorem dX12_of_130 : decode cX12_of 130 = .ok (.ifCond .eq 11, 3) := by decide +kernel
theorem dX12_of_133 : decode cX12_of 133 = .ok (.aload_n 0, 1) := by decide +kernel
theorem dX12_of_134 : decode cX12_of 134 = .ok (.iload_n 1, 1) := by decide +kernel
theorem dX12_of_135 : decode cX12_of 135 = .ok (.invokevirtual 441, 3) := by decide +kernel
theorem dX12_of_138 : decode cX12_of 138 = .ok (.goto 4, 3) := by decide +kernel
theorem dX12_of_141 : decode cX12_of 141 = .ok (.iconst (-1), 1) := by decide +kernel
theorem dX12_of_142 : decode cX12_of 142 = .ok (.ireturn, 1) := by decide +kernel
theorem dX12_hears_0 : decode cX12_hears 0 = .ok (.aload_n 0, 1) := by decide +kernel
theorem dX12_hears_1 : decode cX12_hears 1 = .ok (.iconst 0, 1) := by decide +kernel
theorem dX12_hears_2 : decode cX12_hears 2 = .ok (.putfield 183, 3) := by decide +kernel
theorem dX12_hears_5 : decode cX12_hears 5 = .ok (.aload_n 0, 1) := by decide +kernel
theorem dX12_hears_6 : decode cX12_hears 6 = .ok (.iload_n 1, 1) := by decide +kernel
theorem dX12_hears_7 : decode cX12_hears 7 = .ok (.invokevirtual 214, 3) := by decide +kernel
theorem dX12_hears_10 : decode cX12_hears 10 = .ok (.ifCond .eq 20, 3) := by decide +kernel
theorem dX12_hears_13 : decode cX12_hears 13 = .ok (.aload_n 0, 1) := by decide +kernel
theorem dX12_hears_14 : decode cX12_hears 14 = .ok (.iload_n 2, 1) := by decide +kernel
theorem dX12_hears_15 : decode cX12_hears 15 = .ok (.invokevirtual 210, 3) := by decide +kernel
theorem dX12_hears_18 : decode cX12_hears 18 = .ok (.ifCond .eq 12, 3) := by decide +kernel
theorem dX12_hears_21 : decode cX12_hears 21 = .ok (.aload_n 0, 1) := by decide +kernel
theorem dX12_hears_22 : decode cX12_hears 22 = .ok (.iload_n 1, 1) := by decide +kernel
theorem dX12_hears_23 : decode cX12_hears 23 = .ok (.iload_n 2, 1) := by decide +kernel
theorem dX12_hears_24 : decode cX12_hears 24 = .ok (.invokevirtual 429, 3) := by decide +kernel
theorem dX12_hears_27 : decode cX12_hears 27 = .ok (.goto 4, 3) := by decide +kernel
theorem dX12_hears_30 : decode cX12_hears 30 = .ok (.iconst (-1), 1) := by decide +kernel
theorem dX12_hears_31 : decode cX12_hears 31 = .ok (.ireturn, 1) := by decide +kernel
theorem dX12_book_0 : decode cX12_book 0 = .ok (.aload_n 0, 1) := by decide +kernel
theorem dX12_book_1 : decode cX12_book 1 = .ok (.iconst 0, 1) := by decide +kernel
theorem dX12_book_2 : decode cX12_book 2 = .ok (.putfield 183, 3) := by decide +kernel
theorem dX12_book_5 : decode cX12_book 5 = .ok (.aload_n 0, 1) := by decide +kernel
theorem dX12_book_6 : decode cX12_book 6 = .ok (.iload_n 1, 1) := by decide +kernel
theorem dX12_book_7 : decode cX12_book 7 = .ok (.iconst 0, 1) := by decide +kernel
theorem dX12_book_8 : decode cX12_book 8 = .ok (.aload_n 0, 1) := by decide +kernel
theorem dX12_book_9 : decode cX12_book 9 = .ok (.getfield 7, 3) := by decide +kernel
theorem dX12_book_12 : decode cX12_book 12 = .ok (.iconst 3, 1) := by decide +kernel
theorem dX12_book_13 : decode cX12_book 13 = .ok (.iaload, 1) := by decide +kernel
theorem dX12_book_14 : decode cX12_book 14 = .ok (.iconst 1, 1) := by decide +kernel
theorem dX12_book_15 : decode cX12_book 15 = .ok (.isub, 1) := by decide +kernel
theorem dX12_book_16 : decode cX12_book 16 = .ok (.invokevirtual 206, 3) := by decide +kernel
theorem dX12_book_19 : decode cX12_book 19 = .ok (.ifCond .eq 26, 3) := by decide +kernel
theorem dX12_book_22 : decode cX12_book 22 = .ok (.aload_n 0, 1) := by decide +kernel
theorem dX12_book_23 : decode cX12_book 23 = .ok (.iload_n 2, 1) := by decide +kernel
theorem dX12_book_24 : decode cX12_book 24 = .ok (.iconst 0, 1) := by decide +kernel
theorem dX12_book_25 : decode cX12_book 25 = .ok (.iconst 4, 1) := by decide +kernel
theorem dX12_book_26 : decode cX12_book 26 = .ok (.invokevirtual 206, 3) := by decide +kernel
theorem dX12_book_29 : decode cX12_book 29 = .ok (.ifCond .eq 16, 3) := by decide +kernel
theorem dX12_book_32 : decode cX12_book 32 = .ok (.aload_n 0, 1) := by decide +kernel
theorem dX12_book_33 : decode cX12_book 33 = .ok (.getfield 28, 3) := by decide +kernel
theorem dX12_book_36 : decode cX12_book 36 = .ok (.iconst 5, 1) := by decide +kernel
theorem dX12_book_37 : decode cX12_book 37 = .ok (.iload_n 1, 1) := by decide +kernel
theorem dX12_book_38 : decode cX12_book 38 = .ok (.imul, 1) := by decide +kernel
theorem dX12_book_39 : decode cX12_book 39 = .ok (.iload_n 2, 1) := by decide +kernel
theorem dX12_book_40 : decode cX12_book 40 = .ok (.iadd, 1) := by decide +kernel
theorem dX12_book_41 : decode cX12_book 41 = .ok (.iaload, 1) := by decide +kernel
theorem dX12_book_42 : decode cX12_book 42 = .ok (.goto 4, 3) := by decide +kernel
theorem dX12_book_45 : decode cX12_book 45 = .ok (.iconst (-1), 1) := by decide +kernel
theorem dX12_book_46 : decode cX12_book 46 = .ok (.ireturn, 1) := by decide +kernel
theorem dX12_sumOf_0 : decode cX12_sumOf 0 = .ok (.iconst 0, 1) := by decide +kernel
theorem dX12_sumOf_1 : decode cX12_sumOf 1 = .ok (.istore_n 3, 1) := by decide +kernel
theorem dX12_sumOf_2 : decode cX12_sumOf 2 = .ok (.iconst 0, 1) := by decide +kernel
theorem dX12_sumOf_3 : decode cX12_sumOf 3 = .ok (.istore 4, 2) := by decide +kernel
theorem dX12_sumOf_5 : decode cX12_sumOf 5 = .ok (.iload 4, 2) := by decide +kernel
theorem dX12_sumOf_7 : decode cX12_sumOf 7 = .ok (.iload_n 2, 1) := by decide +kernel
theorem dX12_sumOf_8 : decode cX12_sumOf 8 = .ok (.if_icmp .ge 21, 3) := by decide +kernel
theorem dX12_sumOf_11 : decode cX12_sumOf 11 = .ok (.iload_n 3, 1) := by decide +kernel
theorem dX12_sumOf_12 : decode cX12_sumOf 12 = .ok (.aload_n 0, 1) := by decide +kernel
theorem dX12_sumOf_13 : decode cX12_sumOf 13 = .ok (.getfield 7, 3) := by decide +kernel
theorem dX12_sumOf_16 : decode cX12_sumOf 16 = .ok (.iload_n 1, 1) := by decide +kernel
theorem dX12_sumOf_17 : decode cX12_sumOf 17 = .ok (.iload 4, 2) := by decide +kernel
theorem dX12_sumOf_19 : decode cX12_sumOf 19 = .ok (.iadd, 1) := by decide +kernel
theorem dX12_sumOf_20 : decode cX12_sumOf 20 = .ok (.iaload, 1) := by decide +kernel
theorem dX12_sumOf_21 : decode cX12_sumOf 21 = .ok (.iadd, 1) := by decide +kernel
theorem dX12_sumOf_22 : decode cX12_sumOf 22 = .ok (.istore_n 3, 1) := by decide +kernel
theorem dX12_sumOf_23 : decode cX12_sumOf 23 = .ok (.iinc 4 1, 3) := by decide +kernel
theorem dX12_sumOf_26 : decode cX12_sumOf 26 = .ok (.goto (-21), 3) := by decide +kernel
theorem dX12_sumOf_29 : decode cX12_sumOf 29 = .ok (.iload_n 3, 1) := by decide +kernel
theorem dX12_sumOf_30 : decode cX12_sumOf 30 = .ok (.ireturn, 1) := by decide +kernel
theorem dX12_goes_0 : decode cX12_goes 0 = .ok (.aload_n 0, 1) := by decide +kernel
theorem dX12_goes_1 : decode cX12_goes 1 = .ok (.iconst 0, 1) := by decide +kernel
theorem dX12_goes_2 : decode cX12_goes 2 = .ok (.putfield 183, 3) := by decide +kernel
theorem dX12_goes_5 : decode cX12_goes 5 = .ok (.aload_n 0, 1) := by decide +kernel
theorem dX12_goes_6 : decode cX12_goes 6 = .ok (.iload_n 1, 1) := by decide +kernel
theorem dX12_goes_7 : decode cX12_goes 7 = .ok (.iconst 1, 1) := by decide +kernel
theorem dX12_goes_8 : decode cX12_goes 8 = .ok (.bipush 60, 2) := by decide +kernel
theorem dX12_goes_10 : decode cX12_goes 10 = .ok (.invokevirtual 206, 3) := by decide +kernel
theorem dX12_goes_13 : decode cX12_goes 13 = .ok (.ifCond .eq 13, 3) := by decide +kernel
theorem dX12_goes_16 : decode cX12_goes 16 = .ok (.aload_n 0, 1) := by decide +kernel
theorem dX12_goes_17 : decode cX12_goes 17 = .ok (.iload_n 2, 1) := by decide +kernel
theorem dX12_goes_18 : decode cX12_goes 18 = .ok (.iconst 0, 1) := by decide +kernel
theorem dX12_goes_19 : decode cX12_goes 19 = .ok (.iconst 3, 1) := by decide +kernel
theorem dX12_goes_20 : decode cX12_goes 20 = .ok (.invokevirtual 206, 3) := by decide +kernel
theorem dX12_goes_23 : decode cX12_goes 23 = .ok (.ifCond .ne 5, 3) := by decide +kernel
theorem dX12_goes_26 : decode cX12_goes 26 = .ok (.iconst (-1), 1) := by decide +kernel
theorem dX12_goes_27 : decode cX12_goes 27 = .ok (.ireturn, 1) := by decide +kernel
theorem dX12_goes_28 : decode cX12_goes 28 = .ok (.aload_n 0, 1) := by decide +kernel
theorem dX12_goes_29 : decode cX12_goes 29 = .ok (.invokevirtual 459, 3) := by decide +kernel
theorem dX12_goes_32 : decode cX12_goes 32 = .ok (.iconst 0, 1) := by decide +kernel
theorem dX12_goes_33 : decode cX12_goes 33 = .ok (.istore_n 3, 1) := by decide +kernel
theorem dX12_goes_34 : decode cX12_goes 34 = .ok (.iload_n 3, 1) := by decide +kernel
theorem dX12_goes_35 : decode cX12_goes 35 = .ok (.iload_n 1, 1) := by decide +kernel
theorem dX12_goes_36 : decode cX12_goes 36 = .ok (.if_icmp .ge 14, 3) := by decide +kernel
theorem dX12_goes_39 : decode cX12_goes 39 = .ok (.aload_n 0, 1) := by decide +kernel
theorem dX12_goes_40 : decode cX12_goes 40 = .ok (.invokevirtual 456, 3) := by decide +kernel
theorem dX12_goes_43 : decode cX12_goes 43 = .ok (.pop, 1) := by decide +kernel
theorem dX12_goes_44 : decode cX12_goes 44 = .ok (.iinc 3 1, 3) := by decide +kernel
theorem dX12_goes_47 : decode cX12_goes 47 = .ok (.goto (-13), 3) := by decide +kernel
theorem dX12_goes_50 : decode cX12_goes 50 = .ok (.iload_n 2, 1) := by decide +kernel
theorem dX12_goes_51 : decode cX12_goes 51 = .ok (.ifCond .ne 16, 3) := by decide +kernel
theorem dX12_goes_54 : decode cX12_goes 54 = .ok (.aload_n 0, 1) := by decide +kernel
theorem dX12_goes_55 : decode cX12_goes 55 = .ok (.bipush 101, 2) := by decide +kernel
theorem dX12_goes_57 : decode cX12_goes 57 = .ok (.aload_n 0, 1) := by decide +kernel
theorem dX12_goes_58 : decode cX12_goes 58 = .ok (.getfield 199, 3) := by decide +kernel
theorem dX12_goes_61 : decode cX12_goes 61 = .ok (.invokevirtual 462, 3) := by decide +kernel
theorem dX12_goes_64 : decode cX12_goes 64 = .ok (.goto 48, 3) := by decide +kernel
theorem dX12_goes_67 : decode cX12_goes 67 = .ok (.iload_n 2, 1) := by decide +kernel
theorem dX12_goes_68 : decode cX12_goes 68 = .ok (.iconst 1, 1) := by decide +kernel
theorem dX12_goes_69 : decode cX12_goes 69 = .ok (.if_icmp .ne 16, 3) := by decide +kernel
theorem dX12_goes_72 : decode cX12_goes 72 = .ok (.aload_n 0, 1) := by decide +kernel
theorem dX12_goes_73 : decode cX12_goes 73 = .ok (.bipush 121, 2) := by decide +kernel
theorem dX12_goes_75 : decode cX12_goes 75 = .ok (.aload_n 0, 1) := by decide +kernel
theorem dX12_goes_76 : decode cX12_goes 76 = .ok (.getfield 199, 3) := by decide +kernel
theorem dX12_goes_79 : decode cX12_goes 79 = .ok (.invokevirtual 462, 3) := by decide +kernel
theorem dX12_goes_82 : decode cX12_goes 82 = .ok (.goto 30, 3) := by decide +kernel
theorem dX12_goes_85 : decode cX12_goes 85 = .ok (.iload_n 2, 1) := by decide +kernel
theorem dX12_goes_86 : decode cX12_goes 86 = .ok (.iconst 2, 1) := by decide +kernel
theorem dX12_goes_87 : decode cX12_goes 87 = .ok (.if_icmp .ne 16, 3) := by decide +kernel
theorem dX12_goes_90 : decode cX12_goes 90 = .ok (.aload_n 0, 1) := by decide +kernel
theorem dX12_goes_91 : decode cX12_goes 91 = .ok (.bipush 17, 2) := by decide +kernel
theorem dX12_goes_93 : decode cX12_goes 93 = .ok (.aload_n 0, 1) := by decide +kernel
theorem dX12_goes_94 : decode cX12_goes 94 = .ok (.getfield 196, 3) := by decide +kernel
theorem dX12_goes_97 : decode cX12_goes 97 = .ok (.invokevirtual 462, 3) := by decide +kernel
theorem dX12_goes_100 : decode cX12_goes 100 = .ok (.goto 12, 3) := by decide +kernel
theorem dX12_goes_103 : decode cX12_goes 103 = .ok (.aload_n 0, 1) := by decide +kernel
theorem dX12_goes_104 : decode cX12_goes 104 = .ok (.iconst 5, 1) := by decide +kernel
theorem dX12_goes_105 : decode cX12_goes 105 = .ok (.aload_n 0, 1) := by decide +kernel
theorem dX12_goes_106 : decode cX12_goes 106 = .ok (.getfield 196, 3) := by decide +kernel
theorem dX12_goes_109 : decode cX12_goes 109 = .ok (.invokevirtual 462, 3) := by decide +kernel
theorem dX12_goes_112 : decode cX12_goes 112 = .ok (.istore_n 3, 1) := by decide +kernel
theorem dX12_goes_113 : decode cX12_goes 113 = .ok (.aload_n 0, 1) := by decide +kernel
theorem dX12_goes_114 : decode cX12_goes 114 = .ok (.invokevirtual 465, 3) := by decide +kernel
theorem dX12_goes_117 : decode cX12_goes 117 = .ok (.iload_n 3, 1) := by decide +kernel
theorem dX12_goes_118 : decode cX12_goes 118 = .ok (.ireturn, 1) := by decide +kernel
theorem dX12_soonest_0 : decode cX12_soonest 0 = .ok (.aload_n 0, 1) := by decide +kernel
theorem dX12_soonest_1 : decode cX12_soonest 1 = .ok (.iconst 0, 1) := by decide +kernel
theorem dX12_soonest_2 : decode cX12_soonest 2 = .ok (.putfield 183, 3) := by decide +kernel
theorem dX12_soonest_5 : decode cX12_soonest 5 = .ok (.aload_n 0, 1) := by decide +kernel
theorem dX12_soonest_6 : decode cX12_soonest 6 = .ok (.iload_n 1, 1) := by decide +kernel
theorem dX12_soonest_7 : decode cX12_soonest 7 = .ok (.invokevirtual 214, 3) := by decide +kernel
theorem dX12_soonest_10 : decode cX12_soonest 10 = .ok (.ifCond .ne 5, 3) := by decide +kernel
theorem dX12_soonest_13 : decode cX12_soonest 13 = .ok (.iconst (-1), 1) := by decide +kernel
theorem dX12_soonest_14 : decode cX12_soonest 14 = .ok (.ireturn, 1) := by decide +kernel
theorem dX12_soonest_15 : decode cX12_soonest 15 = .ok (.aload_n 0, 1) := by decide +kernel
theorem dX12_soonest_16 : decode cX12_soonest 16 = .ok (.invokevirtual 459, 3) := by decide +kernel
theorem dX12_soonest_19 : decode cX12_soonest 19 = .ok (.iconst 0, 1) := by decide +kernel
theorem dX12_soonest_20 : decode cX12_soonest 20 = .ok (.istore_n 2, 1) := by decide +kernel
theorem dX12_soonest_21 : decode cX12_soonest 21 = .ok (.iload_n 2, 1) := by decide +kernel
theorem dX12_soonest_22 : decode cX12_soonest 22 = .ok (.bipush 60, 2) := by decide +kernel
theorem dX12_soonest_24 : decode cX12_soonest 24 = .ok (.if_icmp .gt 28, 3) := by decide +kernel
theorem dX12_soonest_27 : decode cX12_soonest 27 = .ok (.aload_n 0, 1) := by decide +kernel
theorem dX12_soonest_28 : decode cX12_soonest 28 = .ok (.getfield 7, 3) := by decide +kernel
theorem dX12_soonest_31 : decode cX12_soonest 31 = .ok (.sipush 141, 3) := by decide +kernel
theorem dX12_soonest_34 : decode cX12_soonest 34 = .ok (.iload_n 1, 1) := by decide +kernel
theorem dX12_soonest_35 : decode cX12_soonest 35 = .ok (.iadd, 1) := by decide +kernel
theorem dX12_soonest_36 : decode cX12_soonest 36 = .ok (.iaload, 1) := by decide +kernel
theorem dX12_soonest_37 : decode cX12_soonest 37 = .ok (.ifCond .ne 15, 3) := by decide +kernel
theorem dX12_soonest_40 : decode cX12_soonest 40 = .ok (.aload_n 0, 1) := by decide +kernel
theorem dX12_soonest_41 : decode cX12_soonest 41 = .ok (.invokevirtual 456, 3) := by decide +kernel
theorem dX12_soonest_44 : decode cX12_soonest 44 = .ok (.pop, 1) := by decide +kernel
theorem dX12_soonest_45 : decode cX12_soonest 45 = .ok (.iload_n 2, 1) := by decide +kernel
theorem dX12_soonest_46 : decode cX12_soonest 46 = .ok (.iconst 1, 1) := by decide +kernel
theorem dX12_soonest_47 : decode cX12_soonest 47 = .ok (.iadd, 1) := by decide +kernel
theorem dX12_soonest_48 : decode cX12_soonest 48 = .ok (.istore_n 2, 1) := by decide +kernel
theorem dX12_soonest_49 : decode cX12_soonest 49 = .ok (.goto (-28), 3) := by decide +kernel
theorem dX12_soonest_52 : decode cX12_soonest 52 = .ok (.aload_n 0, 1) := by decide +kernel
theorem dX12_soonest_53 : decode cX12_soonest 53 = .ok (.invokevirtual 465, 3) := by decide +kernel
theorem dX12_soonest_56 : decode cX12_soonest 56 = .ok (.iload_n 2, 1) := by decide +kernel
theorem dX12_soonest_57 : decode cX12_soonest 57 = .ok (.bipush 60, 2) := by decide +kernel
theorem dX12_soonest_59 : decode cX12_soonest 59 = .ok (.if_icmp .le 7, 3) := by decide +kernel
theorem dX12_soonest_62 : decode cX12_soonest 62 = .ok (.iconst (-1), 1) := by decide +kernel
theorem dX12_soonest_63 : decode cX12_soonest 63 = .ok (.goto 4, 3) := by decide +kernel
theorem dX12_soonest_66 : decode cX12_soonest 66 = .ok (.iload_n 2, 1) := by decide +kernel
theorem dX12_soonest_67 : decode cX12_soonest 67 = .ok (.ireturn, 1) := by decide +kernel
theorem dX12_wishes_0 : decode cX12_wishes 0 = .ok (.aload_n 0, 1) := by decide +kernel
theorem dX12_wishes_1 : decode cX12_wishes 1 = .ok (.iconst 0, 1) := by decide +kernel
theorem dX12_wishes_2 : decode cX12_wishes 2 = .ok (.putfield 183, 3) := by decide +kernel
theorem dX12_wishes_5 : decode cX12_wishes 5 = .ok (.aload_n 0, 1) := by decide +kernel
theorem dX12_wishes_6 : decode cX12_wishes 6 = .ok (.iload_n 1, 1) := by decide +kernel
theorem dX12_wishes_7 : decode cX12_wishes 7 = .ok (.iconst 0, 1) := by decide +kernel
theorem dX12_wishes_8 : decode cX12_wishes 8 = .ok (.iconst 1, 1) := by decide +kernel
theorem dX12_wishes_9 : decode cX12_wishes 9 = .ok (.invokevirtual 206, 3) := by decide +kernel
theorem dX12_wishes_12 : decode cX12_wishes 12 = .ok (.ifCond .eq 25, 3) := by decide +kernel
theorem dX12_wishes_15 : decode cX12_wishes 15 = .ok (.aload_n 0, 1) := by decide +kernel
theorem dX12_wishes_16 : decode cX12_wishes 16 = .ok (.iload_n 2, 1) := by decide +kernel
theorem dX12_wishes_17 : decode cX12_wishes 17 = .ok (.iconst 0, 1) := by decide +kernel
theorem dX12_wishes_18 : decode cX12_wishes 18 = .ok (.iconst 4, 1) := by decide +kernel
theorem dX12_wishes_19 : decode cX12_wishes 19 = .ok (.invokevirtual 206, 3) := by decide +kernel
theorem dX12_wishes_22 : decode cX12_wishes 22 = .ok (.ifCond .eq 15, 3) := by decide +kernel
theorem dX12_wishes_25 : decode cX12_wishes 25 = .ok (.aload_n 0, 1) := by decide +kernel
theorem dX12_wishes_26 : decode cX12_wishes 26 = .ok (.iload_n 3, 1) := by decide +kernel
theorem dX12_wishes_27 : decode cX12_wishes 27 = .ok (.iconst 0, 1) := by decide +kernel
theorem dX12_wishes_28 : decode cX12_wishes 28 = .ok (.ldc_w 468, 3) := by decide +kernel
theorem dX12_wishes_31 : decode cX12_wishes 31 = .ok (.invokevirtual 206, 3) := by decide +kernel
theorem dX12_wishes_34 : decode cX12_wishes 34 = .ok (.ifCond .ne 5, 3) := by decide +kernel
theorem dX12_wishes_37 : decode cX12_wishes 37 = .ok (.iconst 0, 1) := by decide +kernel
theorem dX12_wishes_38 : decode cX12_wishes 38 = .ok (.ireturn, 1) := by decide +kernel
theorem dX12_wishes_39 : decode cX12_wishes 39 = .ok (.iconst 0, 1) := by decide +kernel
theorem dX12_wishes_40 : decode cX12_wishes 40 = .ok (.istore 4, 2) := by decide +kernel
theorem dX12_wishes_42 : decode cX12_wishes 42 = .ok (.iload_n 3, 1) := by decide +kernel
theorem dX12_wishes_43 : decode cX12_wishes 43 = .ok (.istore 5, 2) := by decide +kernel
theorem dX12_wishes_45 : decode cX12_wishes 45 = .ok (.iconst 0, 1) := by decide +kernel
theorem dX12_wishes_46 : decode cX12_wishes 46 = .ok (.istore 6, 2) := by decide +kernel
theorem dX12_wishes_48 : decode cX12_wishes 48 = .ok (.iload 6, 2) := by decide +kernel
theorem dX12_wishes_50 : decode cX12_wishes 50 = .ok (.iconst 5, 1) := by decide +kernel
theorem dX12_wishes_51 : decode cX12_wishes 51 = .ok (.if_icmp .ge 39, 3) := by decide +kernel
theorem dX12_wishes_54 : decode cX12_wishes 54 = .ok (.iload 5, 2) := by decide +kernel
theorem dX12_wishes_56 : decode cX12_wishes 56 = .ok (.bipush 10, 2) := by decide +kernel
theorem dX12_wishes_58 : decode cX12_wishes 58 = .ok (.irem, 1) := by decide +kernel
theorem dX12_wishes_59 : decode cX12_wishes 59 = .ok (.iconst 4, 1) := by decide +kernel
theorem dX12_wishes_60 : decode cX12_wishes 60 = .ok (.if_icmp .le 5, 3) := by decide +kernel
theorem dX12_wishes_63 : decode cX12_wishes 63 = .ok (.iconst 0, 1) := by decide +kernel
theorem dX12_wishes_64 : decode cX12_wishes 64 = .ok (.ireturn, 1) := by decide +kernel
theorem dX12_wishes_65 : decode cX12_wishes 65 = .ok (.iload 4, 2) := by decide +kernel
theorem dX12_wishes_67 : decode cX12_wishes 67 = .ok (.iconst 1, 1) := by decide +kernel
theorem dX12_wishes_68 : decode cX12_wishes 68 = .ok (.iload 5, 2) := by decide +kernel
theorem dX12_wishes_70 : decode cX12_wishes 70 = .ok (.bipush 10, 2) := by decide +kernel
theorem dX12_wishes_72 : decode cX12_wishes 72 = .ok (.irem, 1) := by decide +kernel
theorem dX12_wishes_73 : decode cX12_wishes 73 = .ok (.ishl, 1) := by decide +kernel
theorem dX12_wishes_74 : decode cX12_wishes 74 = .ok (.ior, 1) := by decide +kernel
theorem dX12_wishes_75 : decode cX12_wishes 75 = .ok (.istore 4, 2) := by decide +kernel
theorem dX12_wishes_77 : decode cX12_wishes 77 = .ok (.iload 5, 2) := by decide +kernel
theorem dX12_wishes_79 : decode cX12_wishes 79 = .ok (.bipush 10, 2) := by decide +kernel
theorem dX12_wishes_81 : decode cX12_wishes 81 = .ok (.idiv, 1) := by decide +kernel
theorem dX12_wishes_82 : decode cX12_wishes 82 = .ok (.istore 5, 2) := by decide +kernel
theorem dX12_wishes_84 : decode cX12_wishes 84 = .ok (.iinc 6 1, 3) := by decide +kernel
theorem dX12_wishes_87 : decode cX12_wishes 87 = .ok (.goto (-39), 3) := by decide +kernel
theorem dX12_wishes_90 : decode cX12_wishes 90 = .ok (.iload 4, 2) := by decide +kernel
theorem dX12_wishes_92 : decode cX12_wishes 92 = .ok (.bipush 31, 2) := by decide +kernel
theorem dX12_wishes_94 : decode cX12_wishes 94 = .ok (.if_icmp .eq 5, 3) := by decide +kernel
theorem dX12_wishes_97 : decode cX12_wishes 97 = .ok (.iconst 0, 1) := by decide +kernel
theorem dX12_wishes_98 : decode cX12_wishes 98 = .ok (.ireturn, 1) := by decide +kernel
theorem dX12_wishes_99 : decode cX12_wishes 99 = .ok (.aload_n 0, 1) := by decide +kernel
theorem dX12_wishes_100 : decode cX12_wishes 100 = .ok (.getfield 80, 3) := by decide +kernel
theorem dX12_wishes_103 : decode cX12_wishes 103 = .ok (.iconst 5, 1) := by decide +kernel
theorem dX12_wishes_104 : decode cX12_wishes 104 = .ok (.iload_n 1, 1) := by decide +kernel
theorem dX12_wishes_105 : decode cX12_wishes 105 = .ok (.imul, 1) := by decide +kernel
theorem dX12_wishes_106 : decode cX12_wishes 106 = .ok (.iload_n 2, 1) := by decide +kernel
theorem dX12_wishes_107 : decode cX12_wishes 107 = .ok (.iadd, 1) := by decide +kernel
theorem dX12_wishes_108 : decode cX12_wishes 108 = .ok (.iload_n 3, 1) := by decide +kernel
theorem dX12_wishes_109 : decode cX12_wishes 109 = .ok (.sipush 1234, 3) := by decide +kernel
theorem dX12_wishes_112 : decode cX12_wishes 112 = .ok (.isub, 1) := by decide +kernel
theorem dX12_wishes_113 : decode cX12_wishes 113 = .ok (.iastore, 1) := by decide +kernel
theorem dX12_wishes_114 : decode cX12_wishes 114 = .ok (.iconst 1, 1) := by decide +kernel
theorem dX12_wishes_115 : decode cX12_wishes 115 = .ok (.ireturn, 1) := by decide +kernel
theorem dX12_findsWishes_0 : decode cX12_findsWishes 0 = .ok (.iconst 0, 1) := by decide +kernel
theorem dX12_findsWishes_1 : decode cX12_findsWishes 1 = .ok (.istore_n 1, 1) := by decide +kernel
theorem dX12_findsWishes_2 : decode cX12_findsWishes 2 = .ok (.iload_n 1, 1) := by decide +kernel
theorem dX12_findsWishes_3 : decode cX12_findsWishes 3 = .ok (.bipush 10, 2) := by decide +kernel
theorem dX12_findsWishes_5 : decode cX12_findsWishes 5 = .ok (.if_icmp .ge 65, 3) := by decide +kernel
theorem dX12_findsWishes_8 : decode cX12_findsWishes 8 = .ok (.aload_n 0, 1) := by decide +kernel
theorem dX12_findsWishes_9 : decode cX12_findsWishes 9 = .ok (.getfield 80, 3) := by decide +kernel
theorem dX12_findsWishes_12 : decode cX12_findsWishes 12 = .ok (.iload_n 1, 1) := by decide +kernel
theorem dX12_findsWishes_13 : decode cX12_findsWishes 13 = .ok (.iaload, 1) := by decide +kernel
theorem dX12_findsWishes_14 : decode cX12_findsWishes 14 = .ok (.sipush 1234, 3) := by decide +kernel
theorem dX12_findsWishes_17 : decode cX12_findsWishes 17 = .ok (.iadd, 1) := by decide +kernel
theorem dX12_findsWishes_18 : decode cX12_findsWishes 18 = .ok (.istore_n 2, 1) := by decide +kernel
theorem dX12_findsWishes_19 : decode cX12_findsWishes 19 = .ok (.iconst 4, 1) := by decide +kernel
theorem dX12_findsWishes_20 : decode cX12_findsWishes 20 = .ok (.istore_n 3, 1) := by decide +kernel
theorem dX12_findsWishes_21 : decode cX12_findsWishes 21 = .ok (.iload_n 3, 1) := by decide +kernel
theorem dX12_findsWishes_22 : decode cX12_findsWishes 22 = .ok (.ifCond .lt 42, 3) := by decide +kernel
theorem dX12_findsWishes_25 : decode cX12_findsWishes 25 = .ok (.aload_n 0, 1) := by decide +kernel
theorem dX12_findsWishes_26 : decode cX12_findsWishes 26 = .ok (.getfield 86, 3) := by decide +kernel
theorem dX12_findsWishes_29 : decode cX12_findsWishes 29 = .ok (.iconst 5, 1) := by decide +kernel
theorem dX12_findsWishes_30 : decode cX12_findsWishes 30 = .ok (.iload_n 1, 1) := by decide +kernel
theorem dX12_findsWishes_31 : decode cX12_findsWishes 31 = .ok (.imul, 1) := by decide +kernel
theorem dX12_findsWishes_32 : decode cX12_findsWishes 32 = .ok (.iload_n 3, 1) := by decide +kernel
theorem dX12_findsWishes_33 : decode cX12_findsWishes 33 = .ok (.iadd, 1) := by decide +kernel
theorem dX12_findsWishes_34 : decode cX12_findsWishes 34 = .ok (.iload_n 2, 1) := by decide +kernel
theorem dX12_findsWishes_35 : decode cX12_findsWishes 35 = .ok (.bipush 10, 2) := by decide +kernel
theorem dX12_findsWishes_37 : decode cX12_findsWishes 37 = .ok (.irem, 1) := by decide +kernel
theorem dX12_findsWishes_38 : decode cX12_findsWishes 38 = .ok (.iastore, 1) := by decide +kernel
theorem dX12_findsWishes_39 : decode cX12_findsWishes 39 = .ok (.aload_n 0, 1) := by decide +kernel
theorem dX12_findsWishes_40 : decode cX12_findsWishes 40 = .ok (.getfield 83, 3) := by decide +kernel
theorem dX12_findsWishes_43 : decode cX12_findsWishes 43 = .ok (.iconst 5, 1) := by decide +kernel
theorem dX12_findsWishes_44 : decode cX12_findsWishes 44 = .ok (.iload_n 1, 1) := by decide +kernel
theorem dX12_findsWishes_45 : decode cX12_findsWishes 45 = .ok (.imul, 1) := by decide +kernel
theorem dX12_findsWishes_46 : decode cX12_findsWishes 46 = .ok (.iload_n 2, 1) := by decide +kernel
theorem dX12_findsWishes_47 : decode cX12_findsWishes 47 = .ok (.bipush 10, 2) := by decide +kernel
theorem dX12_findsWishes_49 : decode cX12_findsWishes 49 = .ok (.irem, 1) := by decide +kernel
theorem dX12_findsWishes_50 : decode cX12_findsWishes 50 = .ok (.iadd, 1) := by decide +kernel
theorem dX12_findsWishes_51 : decode cX12_findsWishes 51 = .ok (.iload_n 3, 1) := by decide +kernel
theorem dX12_findsWishes_52 : decode cX12_findsWishes 52 = .ok (.iastore, 1) := by decide +kernel
theorem dX12_findsWishes_53 : decode cX12_findsWishes 53 = .ok (.iload_n 2, 1) := by decide +kernel
theorem dX12_findsWishes_54 : decode cX12_findsWishes 54 = .ok (.bipush 10, 2) := by decide +kernel
theorem dX12_findsWishes_56 : decode cX12_findsWishes 56 = .ok (.idiv, 1) := by decide +kernel
theorem dX12_findsWishes_57 : decode cX12_findsWishes 57 = .ok (.istore_n 2, 1) := by decide +kernel
theorem dX12_findsWishes_58 : decode cX12_findsWishes 58 = .ok (.iinc 3 (-1), 3) := by decide +kernel
theorem dX12_findsWishes_61 : decode cX12_findsWishes 61 = .ok (.goto (-40), 3) := by decide +kernel
theorem dX12_findsWishes_64 : decode cX12_findsWishes 64 = .ok (.iinc 1 1, 3) := by decide +kernel
theorem dX12_findsWishes_67 : decode cX12_findsWishes 67 = .ok (.goto (-65), 3) := by decide +kernel
theorem dX12_findsWishes_70 : decode cX12_findsWishes 70 = .ok (.return_, 1) := by decide +kernel
theorem dX12_engages_0 : decode cX12_engages 0 = .ok (.iconst 1, 1) := by decide +kernel
theorem dX12_engages_1 : decode cX12_engages 1 = .ok (.iload_n 1, 1) := by decide +kernel
theorem dX12_engages_2 : decode cX12_engages 2 = .ok (.isub, 1) := by decide +kernel
theorem dX12_engages_3 : decode cX12_engages 3 = .ok (.istore_n 2, 1) := by decide +kernel
theorem dX12_engages_4 : decode cX12_engages 4 = .ok (.iconst 0, 1) := by decide +kernel
theorem dX12_engages_5 : decode cX12_engages 5 = .ok (.istore_n 3, 1) := by decide +kernel
theorem dX12_engages_6 : decode cX12_engages 6 = .ok (.iload_n 3, 1) := by decide +kernel
theorem dX12_engages_7 : decode cX12_engages 7 = .ok (.iconst 5, 1) := by decide +kernel
theorem dX12_engages_8 : decode cX12_engages 8 = .ok (.if_icmp .ge 23, 3) := by decide +kernel
theorem dX12_engages_11 : decode cX12_engages 11 = .ok (.aload_n 0, 1) := by decide +kernel
theorem dX12_engages_12 : decode cX12_engages 12 = .ok (.getfield 89, 3) := by decide +kernel
theorem dX12_engages_15 : decode cX12_engages 15 = .ok (.iload_n 3, 1) := by decide +kernel
theorem dX12_engages_16 : decode cX12_engages 16 = .ok (.iconst (-1), 1) := by decide +kernel
theorem dX12_engages_17 : decode cX12_engages 17 = .ok (.iastore, 1) := by decide +kernel
theorem dX12_engages_18 : decode cX12_engages 18 = .ok (.aload_n 0, 1) := by decide +kernel
theorem dX12_engages_19 : decode cX12_engages 19 = .ok (.getfield 92, 3) := by decide +kernel
theorem dX12_engages_22 : decode cX12_engages 22 = .ok (.iload_n 3, 1) := by decide +kernel
theorem dX12_engages_23 : decode cX12_engages 23 = .ok (.iconst 0, 1) := by decide +kernel
theorem dX12_engages_24 : decode cX12_engages 24 = .ok (.iastore, 1) := by decide +kernel
theorem dX12_engages_25 : decode cX12_engages 25 = .ok (.iinc 3 1, 3) := by decide +kernel
theorem dX12_engages_28 : decode cX12_engages 28 = .ok (.goto (-22), 3) := by decide +kernel
theorem dX12_engages_31 : decode cX12_engages 31 = .ok (.bipush 31, 2) := by decide +kernel
theorem dX12_engages_33 : decode cX12_engages 33 = .ok (.istore_n 3, 1) := by decide +kernel
theorem dX12_engages_34 : decode cX12_engages 34 = .ok (.iload_n 3, 1) := by decide +kernel
theorem dX12_engages_35 : decode cX12_engages 35 = .ok (.ifCond .eq 151, 3) := by decide +kernel
theorem dX12_engages_38 : decode cX12_engages 38 = .ok (.iconst 0, 1) := by decide +kernel
theorem dX12_engages_39 : decode cX12_engages 39 = .ok (.istore 4, 2) := by decide +kernel
theorem dX12_engages_41 : decode cX12_engages 41 = .ok (.aload_n 0, 1) := by decide +kernel
theorem dX12_engages_42 : decode cX12_engages 42 = .ok (.iload_n 3, 1) := by decide +kernel
theorem dX12_engages_43 : decode cX12_engages 43 = .ok (.iload 4, 2) := by decide +kernel
theorem dX12_engages_45 : decode cX12_engages 45 = .ok (.invokevirtual 469, 3) := by decide +kernel
theorem dX12_engages_48 : decode cX12_engages 48 = .ok (.ifCond .ne 12, 3) := by decide +kernel
theorem dX12_engages_51 : decode cX12_engages 51 = .ok (.iload 4, 2) := by decide +kernel
theorem dX12_engages_53 : decode cX12_engages 53 = .ok (.iconst 1, 1) := by decide +kernel
theorem dX12_engages_54 : decode cX12_engages 54 = .ok (.iadd, 1) := by decide +kernel
theorem dX12_engages_55 : decode cX12_engages 55 = .ok (.istore 4, 2) := by decide +kernel
theorem dX12_engages_57 : decode cX12_engages 57 = .ok (.goto (-16), 3) := by decide +kernel
theorem dX12_engages_60 : decode cX12_engages 60 = .ok (.aload_n 0, 1) := by decide +kernel
theorem dX12_engages_61 : decode cX12_engages 61 = .ok (.getfield 86, 3) := by decide +kernel
theorem dX12_engages_64 : decode cX12_engages 64 = .ok (.iconst 5, 1) := by decide +kernel
theorem dX12_engages_65 : decode cX12_engages 65 = .ok (.iconst 5, 1) := by decide +kernel
theorem dX12_engages_66 : decode cX12_engages 66 = .ok (.iload_n 1, 1) := by decide +kernel
theorem dX12_engages_67 : decode cX12_engages 67 = .ok (.imul, 1) := by decide +kernel
theorem dX12_engages_68 : decode cX12_engages 68 = .ok (.iload 4, 2) := by decide +kernel
theorem dX12_engages_70 : decode cX12_engages 70 = .ok (.iadd, 1) := by decide +kernel
theorem dX12_engages_71 : decode cX12_engages 71 = .ok (.imul, 1) := by decide +kernel
theorem dX12_engages_72 : decode cX12_engages 72 = .ok (.aload_n 0, 1) := by decide +kernel
theorem dX12_engages_73 : decode cX12_engages 73 = .ok (.getfield 92, 3) := by decide +kernel
theorem dX12_engages_76 : decode cX12_engages 76 = .ok (.iload 4, 2) := by decide +kernel
theorem dX12_engages_78 : decode cX12_engages 78 = .ok (.iaload, 1) := by decide +kernel
theorem dX12_engages_79 : decode cX12_engages 79 = .ok (.iadd, 1) := by decide +kernel
theorem dX12_engages_80 : decode cX12_engages 80 = .ok (.iaload, 1) := by decide +kernel
theorem dX12_engages_81 : decode cX12_engages 81 = .ok (.istore 5, 2) := by decide +kernel
theorem dX12_engages_83 : decode cX12_engages 83 = .ok (.aload_n 0, 1) := by decide +kernel
theorem dX12_engages_84 : decode cX12_engages 84 = .ok (.getfield 92, 3) := by decide +kernel
theorem dX12_engages_87 : decode cX12_engages 87 = .ok (.iload 4, 2) := by decide +kernel
theorem dX12_engages_89 : decode cX12_engages 89 = .ok (.aload_n 0, 1) := by decide +kernel
theorem dX12_engages_90 : decode cX12_engages 90 = .ok (.getfield 92, 3) := by decide +kernel
theorem dX12_engages_93 : decode cX12_engages 93 = .ok (.iload 4, 2) := by decide +kernel
theorem dX12_engages_95 : decode cX12_engages 95 = .ok (.iaload, 1) := by decide +kernel
theorem dX12_engages_96 : decode cX12_engages 96 = .ok (.iconst 1, 1) := by decide +kernel
theorem dX12_engages_97 : decode cX12_engages 97 = .ok (.iadd, 1) := by decide +kernel
theorem dX12_engages_98 : decode cX12_engages 98 = .ok (.iastore, 1) := by decide +kernel
theorem dX12_engages_99 : decode cX12_engages 99 = .ok (.aload_n 0, 1) := by decide +kernel
theorem dX12_engages_100 : decode cX12_engages 100 = .ok (.getfield 89, 3) := by decide +kernel
theorem dX12_engages_103 : decode cX12_engages 103 = .ok (.iload 5, 2) := by decide +kernel
theorem dX12_engages_105 : decode cX12_engages 105 = .ok (.iaload, 1) := by decide +kernel
theorem dX12_engages_106 : decode cX12_engages 106 = .ok (.istore 6, 2) := by decide +kernel
theorem dX12_engages_108 : decode cX12_engages 108 = .ok (.iload 6, 2) := by decide +kernel
theorem dX12_engages_110 : decode cX12_engages 110 = .ok (.iconst (-1), 1) := by decide +kernel
theorem dX12_engages_111 : decode cX12_engages 111 = .ok (.if_icmp .eq 41, 3) := by decide +kernel
theorem dX12_engages_114 : decode cX12_engages 114 = .ok (.aload_n 0, 1) := by decide +kernel
theorem dX12_engages_115 : decode cX12_engages 115 = .ok (.getfield 83, 3) := by decide +kernel
theorem dX12_engages_118 : decode cX12_engages 118 = .ok (.iconst 5, 1) := by decide +kernel
theorem dX12_engages_119 : decode cX12_engages 119 = .ok (.iconst 5, 1) := by decide +kernel
theorem dX12_engages_120 : decode cX12_engages 120 = .ok (.iload_n 2, 1) := by decide +kernel
theorem dX12_engages_121 : decode cX12_engages 121 = .ok (.imul, 1) := by decide +kernel
theorem dX12_engages_122 : decode cX12_engages 122 = .ok (.iload 5, 2) := by decide +kernel
theorem dX12_engages_124 : decode cX12_engages 124 = .ok (.iadd, 1) := by decide +kernel
theorem dX12_engages_125 : decode cX12_engages 125 = .ok (.imul, 1) := by decide +kernel
theorem dX12_engages_126 : decode cX12_engages 126 = .ok (.iload 6, 2) := by decide +kernel
theorem dX12_engages_128 : decode cX12_engages 128 = .ok (.iadd, 1) := by decide +kernel
theorem dX12_engages_129 : decode cX12_engages 129 = .ok (.iaload, 1) := by decide +kernel
theorem dX12_engages_130 : decode cX12_engages 130 = .ok (.aload_n 0, 1) := by decide +kernel
theorem dX12_engages_131 : decode cX12_engages 131 = .ok (.getfield 83, 3) := by decide +kernel
theorem dX12_engages_134 : decode cX12_engages 134 = .ok (.iconst 5, 1) := by decide +kernel
theorem dX12_engages_135 : decode cX12_engages 135 = .ok (.iconst 5, 1) := by decide +kernel
theorem dX12_engages_136 : decode cX12_engages 136 = .ok (.iload_n 2, 1) := by decide +kernel
theorem dX12_engages_137 : decode cX12_engages 137 = .ok (.imul, 1) := by decide +kernel
theorem dX12_engages_138 : decode cX12_engages 138 = .ok (.iload 5, 2) := by decide +kernel
theorem dX12_engages_140 : decode cX12_engages 140 = .ok (.iadd, 1) := by decide +kernel
theorem dX12_engages_141 : decode cX12_engages 141 = .ok (.imul, 1) := by decide +kernel
theorem dX12_engages_142 : decode cX12_engages 142 = .ok (.iload 4, 2) := by decide +kernel
theorem dX12_engages_144 : decode cX12_engages 144 = .ok (.iadd, 1) := by decide +kernel
theorem dX12_engages_145 : decode cX12_engages 145 = .ok (.iaload, 1) := by decide +kernel
theorem dX12_engages_146 : decode cX12_engages 146 = .ok (.if_icmp .ge 6, 3) := by decide +kernel
theorem dX12_engages_149 : decode cX12_engages 149 = .ok (.goto (-115), 3) := by decide +kernel
theorem dX12_engages_152 : decode cX12_engages 152 = .ok (.aload_n 0, 1) := by decide +kernel
theorem dX12_engages_153 : decode cX12_engages 153 = .ok (.getfield 89, 3) := by decide +kernel
theorem dX12_engages_156 : decode cX12_engages 156 = .ok (.iload 5, 2) := by decide +kernel
theorem dX12_engages_158 : decode cX12_engages 158 = .ok (.iload 4, 2) := by decide +kernel
theorem dX12_engages_160 : decode cX12_engages 160 = .ok (.iastore, 1) := by decide +kernel
theorem dX12_engages_161 : decode cX12_engages 161 = .ok (.iload_n 3, 1) := by decide +kernel
theorem dX12_engages_162 : decode cX12_engages 162 = .ok (.iconst 1, 1) := by decide +kernel
theorem dX12_engages_163 : decode cX12_engages 163 = .ok (.iload 4, 2) := by decide +kernel
theorem dX12_engages_165 : decode cX12_engages 165 = .ok (.ishl, 1) := by decide +kernel
theorem dX12_engages_166 : decode cX12_engages 166 = .ok (.iconst (-1), 1) := by decide +kernel
theorem dX12_engages_167 : decode cX12_engages 167 = .ok (.ixor, 1) := by decide +kernel
theorem dX12_engages_168 : decode cX12_engages 168 = .ok (.iand, 1) := by decide +kernel
theorem dX12_engages_169 : decode cX12_engages 169 = .ok (.istore_n 3, 1) := by decide +kernel
theorem dX12_engages_170 : decode cX12_engages 170 = .ok (.iload 6, 2) := by decide +kernel
theorem dX12_engages_172 : decode cX12_engages 172 = .ok (.iconst (-1), 1) := by decide +kernel
theorem dX12_engages_173 : decode cX12_engages 173 = .ok (.if_icmp .eq 10, 3) := by decide +kernel
theorem dX12_engages_176 : decode cX12_engages 176 = .ok (.iload_n 3, 1) := by decide +kernel
theorem dX12_engages_177 : decode cX12_engages 177 = .ok (.iconst 1, 1) := by decide +kernel
theorem dX12_engages_178 : decode cX12_engages 178 = .ok (.iload 6, 2) := by decide +kernel
theorem dX12_engages_180 : decode cX12_engages 180 = .ok (.ishl, 1) := by decide +kernel
theorem dX12_engages_181 : decode cX12_engages 181 = .ok (.ior, 1) := by decide +kernel
theorem dX12_engages_182 : decode cX12_engages 182 = .ok (.istore_n 3, 1) := by decide +kernel
theorem dX12_engages_183 : decode cX12_engages 183 = .ok (.goto (-149), 3) := by decide +kernel
theorem dX12_engages_186 : decode cX12_engages 186 = .ok (.return_, 1) := by decide +kernel
theorem dX12_isSettled_0 : decode cX12_isSettled 0 = .ok (.iconst 0, 1) := by decide +kernel
theorem dX12_isSettled_1 : decode cX12_isSettled 1 = .ok (.istore_n 1, 1) := by decide +kernel
theorem dX12_isSettled_2 : decode cX12_isSettled 2 = .ok (.iload_n 1, 1) := by decide +kernel
theorem dX12_isSettled_3 : decode cX12_isSettled 3 = .ok (.iconst 5, 1) := by decide +kernel
theorem dX12_isSettled_4 : decode cX12_isSettled 4 = .ok (.if_icmp .ge 86, 3) := by decide +kernel
theorem dX12_isSettled_7 : decode cX12_isSettled 7 = .ok (.iconst 0, 1) := by decide +kernel
theorem dX12_isSettled_8 : decode cX12_isSettled 8 = .ok (.istore_n 2, 1) := by decide +kernel
theorem dX12_isSettled_9 : decode cX12_isSettled 9 = .ok (.iload_n 2, 1) := by decide +kernel
theorem dX12_isSettled_10 : decode cX12_isSettled 10 = .ok (.iconst 5, 1) := by decide +kernel
theorem dX12_isSettled_11 : decode cX12_isSettled 11 = .ok (.if_icmp .ge 73, 3) := by decide +kernel
theorem dX12_isSettled_14 : decode cX12_isSettled 14 = .ok (.aload_n 0, 1) := by decide +kernel
theorem dX12_isSettled_15 : decode cX12_isSettled 15 = .ok (.getfield 95, 3) := by decide +kernel
theorem dX12_isSettled_18 : decode cX12_isSettled 18 = .ok (.iload_n 2, 1) := by decide +kernel
theorem dX12_isSettled_19 : decode cX12_isSettled 19 = .ok (.iaload, 1) := by decide +kernel
theorem dX12_isSettled_20 : decode cX12_isSettled 20 = .ok (.istore_n 3, 1) := by decide +kernel
theorem dX12_isSettled_21 : decode cX12_isSettled 21 = .ok (.aload_n 0, 1) := by decide +kernel
theorem dX12_isSettled_22 : decode cX12_isSettled 22 = .ok (.getfield 83, 3) := by decide +kernel
theorem dX12_isSettled_25 : decode cX12_isSettled 25 = .ok (.iconst 5, 1) := by decide +kernel
theorem dX12_isSettled_26 : decode cX12_isSettled 26 = .ok (.iload_n 1, 1) := by decide +kernel
theorem dX12_isSettled_27 : decode cX12_isSettled 27 = .ok (.imul, 1) := by decide +kernel
theorem dX12_isSettled_28 : decode cX12_isSettled 28 = .ok (.iload_n 3, 1) := by decide +kernel
theorem dX12_isSettled_29 : decode cX12_isSettled 29 = .ok (.iadd, 1) := by decide +kernel
theorem dX12_isSettled_30 : decode cX12_isSettled 30 = .ok (.iaload, 1) := by decide +kernel
theorem dX12_isSettled_31 : decode cX12_isSettled 31 = .ok (.aload_n 0, 1) := by decide +kernel
theorem dX12_isSettled_32 : decode cX12_isSettled 32 = .ok (.getfield 83, 3) := by decide +kernel
theorem dX12_isSettled_35 : decode cX12_isSettled 35 = .ok (.iconst 5, 1) := by decide +kernel
theorem dX12_isSettled_36 : decode cX12_isSettled 36 = .ok (.iload_n 1, 1) := by decide +kernel
theorem dX12_isSettled_37 : decode cX12_isSettled 37 = .ok (.imul, 1) := by decide +kernel
theorem dX12_isSettled_38 : decode cX12_isSettled 38 = .ok (.aload_n 0, 1) := by decide +kernel
theorem dX12_isSettled_39 : decode cX12_isSettled 39 = .ok (.getfield 95, 3) := by decide +kernel
theorem dX12_isSettled_42 : decode cX12_isSettled 42 = .ok (.iload_n 1, 1) := by decide +kernel
theorem dX12_isSettled_43 : decode cX12_isSettled 43 = .ok (.iaload, 1) := by decide +kernel
theorem dX12_isSettled_44 : decode cX12_isSettled 44 = .ok (.iadd, 1) := by decide +kernel
theorem dX12_isSettled_45 : decode cX12_isSettled 45 = .ok (.iaload, 1) := by decide +kernel
theorem dX12_isSettled_46 : decode cX12_isSettled 46 = .ok (.if_icmp .ge 32, 3) := by decide +kernel
theorem dX12_isSettled_49 : decode cX12_isSettled 49 = .ok (.aload_n 0, 1) := by decide +kernel
theorem dX12_isSettled_50 : decode cX12_isSettled 50 = .ok (.getfield 83, 3) := by decide +kernel
theorem dX12_isSettled_53 : decode cX12_isSettled 53 = .ok (.iconst 5, 1) := by decide +kernel
theorem dX12_isSettled_54 : decode cX12_isSettled 54 = .ok (.iconst 5, 1) := by decide +kernel
theorem dX12_isSettled_55 : decode cX12_isSettled 55 = .ok (.iload_n 3, 1) := by decide +kernel
theorem dX12_isSettled_56 : decode cX12_isSettled 56 = .ok (.iadd, 1) := by decide +kernel
theorem dX12_isSettled_57 : decode cX12_isSettled 57 = .ok (.imul, 1) := by decide +kernel
theorem dX12_isSettled_58 : decode cX12_isSettled 58 = .ok (.iload_n 1, 1) := by decide +kernel
theorem dX12_isSettled_59 : decode cX12_isSettled 59 = .ok (.iadd, 1) := by decide +kernel
theorem dX12_isSettled_60 : decode cX12_isSettled 60 = .ok (.iaload, 1) := by decide +kernel
theorem dX12_isSettled_61 : decode cX12_isSettled 61 = .ok (.aload_n 0, 1) := by decide +kernel
theorem dX12_isSettled_62 : decode cX12_isSettled 62 = .ok (.getfield 83, 3) := by decide +kernel
theorem dX12_isSettled_65 : decode cX12_isSettled 65 = .ok (.iconst 5, 1) := by decide +kernel
theorem dX12_isSettled_66 : decode cX12_isSettled 66 = .ok (.iconst 5, 1) := by decide +kernel
theorem dX12_isSettled_67 : decode cX12_isSettled 67 = .ok (.iload_n 3, 1) := by decide +kernel
theorem dX12_isSettled_68 : decode cX12_isSettled 68 = .ok (.iadd, 1) := by decide +kernel
theorem dX12_isSettled_69 : decode cX12_isSettled 69 = .ok (.imul, 1) := by decide +kernel
theorem dX12_isSettled_70 : decode cX12_isSettled 70 = .ok (.iload_n 2, 1) := by decide +kernel
theorem dX12_isSettled_71 : decode cX12_isSettled 71 = .ok (.iadd, 1) := by decide +kernel
theorem dX12_isSettled_72 : decode cX12_isSettled 72 = .ok (.iaload, 1) := by decide +kernel
theorem dX12_isSettled_73 : decode cX12_isSettled 73 = .ok (.if_icmp .ge 5, 3) := by decide +kernel
theorem dX12_isSettled_76 : decode cX12_isSettled 76 = .ok (.iconst 0, 1) := by decide +kernel
theorem dX12_isSettled_77 : decode cX12_isSettled 77 = .ok (.ireturn, 1) := by decide +kernel
theorem dX12_isSettled_78 : decode cX12_isSettled 78 = .ok (.iinc 2 1, 3) := by decide +kernel
theorem dX12_isSettled_81 : decode cX12_isSettled 81 = .ok (.goto (-72), 3) := by decide +kernel
theorem dX12_isSettled_84 : decode cX12_isSettled 84 = .ok (.iinc 1 1, 3) := by decide +kernel
theorem dX12_isSettled_87 : decode cX12_isSettled 87 = .ok (.goto (-85), 3) := by decide +kernel
theorem dX12_isSettled_90 : decode cX12_isSettled 90 = .ok (.iconst 1, 1) := by decide +kernel
theorem dX12_isSettled_91 : decode cX12_isSettled 91 = .ok (.ireturn, 1) := by decide +kernel
theorem dX12_goesToNextOrder_0 : decode cX12_goesToNextOrder 0 = .ok (.iload_n 1, 1) := by decide +kernel
theorem dX12_goesToNextOrder_1 : decode cX12_goesToNextOrder 1 = .ok (.iconst 2, 1) := by decide +kernel
theorem dX12_goesToNextOrder_2 : decode cX12_goesToNextOrder 2 = .ok (.isub, 1) := by decide +kernel
theorem dX12_goesToNextOrder_3 : decode cX12_goesToNextOrder 3 = .ok (.istore_n 2, 1) := by decide +kernel
theorem dX12_goesToNextOrder_4 : decode cX12_goesToNextOrder 4 = .ok (.iload_n 2, 1) := by decide +kernel
theorem dX12_goesToNextOrder_5 : decode cX12_goesToNextOrder 5 = .ok (.ifCond .lt 27, 3) := by decide +kernel
theorem dX12_goesToNextOrder_8 : decode cX12_goesToNextOrder 8 = .ok (.aload_n 0, 1) := by decide +kernel
theorem dX12_goesToNextOrder_9 : decode cX12_goesToNextOrder 9 = .ok (.getfield 95, 3) := by decide +kernel
theorem dX12_goesToNextOrder_12 : decode cX12_goesToNextOrder 12 = .ok (.iload_n 2, 1) := by decide +kernel
theorem dX12_goesToNextOrder_13 : decode cX12_goesToNextOrder 13 = .ok (.iaload, 1) := by decide +kernel
theorem dX12_goesToNextOrder_14 : decode cX12_goesToNextOrder 14 = .ok (.aload_n 0, 1) := by decide +kernel
theorem dX12_goesToNextOrder_15 : decode cX12_goesToNextOrder 15 = .ok (.getfield 95, 3) := by decide +kernel
theorem dX12_goesToNextOrder_18 : decode cX12_goesToNextOrder 18 = .ok (.iload_n 2, 1) := by decide +kernel
theorem dX12_goesToNextOrder_19 : decode cX12_goesToNextOrder 19 = .ok (.iconst 1, 1) := by decide +kernel
theorem dX12_goesToNextOrder_20 : decode cX12_goesToNextOrder 20 = .ok (.iadd, 1) := by decide +kernel
theorem dX12_goesToNextOrder_21 : decode cX12_goesToNextOrder 21 = .ok (.iaload, 1) := by decide +kernel
theorem dX12_goesToNextOrder_22 : decode cX12_goesToNextOrder 22 = .ok (.if_icmp .le 10, 3) := by decide +kernel
theorem dX12_goesToNextOrder_25 : decode cX12_goesToNextOrder 25 = .ok (.iload_n 2, 1) := by decide +kernel
theorem dX12_goesToNextOrder_26 : decode cX12_goesToNextOrder 26 = .ok (.iconst 1, 1) := by decide +kernel
theorem dX12_goesToNextOrder_27 : decode cX12_goesToNextOrder 27 = .ok (.isub, 1) := by decide +kernel
theorem dX12_goesToNextOrder_28 : decode cX12_goesToNextOrder 28 = .ok (.istore_n 2, 1) := by decide +kernel
theorem dX12_goesToNextOrder_29 : decode cX12_goesToNextOrder 29 = .ok (.goto (-25), 3) := by decide +kernel
theorem dX12_goesToNextOrder_32 : decode cX12_goesToNextOrder 32 = .ok (.iload_n 2, 1) := by decide +kernel
theorem dX12_goesToNextOrder_33 : decode cX12_goesToNextOrder 33 = .ok (.ifCond .ge 5, 3) := by decide +kernel
theorem dX12_goesToNextOrder_36 : decode cX12_goesToNextOrder 36 = .ok (.iconst 0, 1) := by decide +kernel
theorem dX12_goesToNextOrder_37 : decode cX12_goesToNextOrder 37 = .ok (.ireturn, 1) := by decide +kernel
theorem dX12_goesToNextOrder_38 : decode cX12_goesToNextOrder 38 = .ok (.iload_n 1, 1) := by decide +kernel
theorem dX12_goesToNextOrder_39 : decode cX12_goesToNextOrder 39 = .ok (.iconst 1, 1) := by decide +kernel
theorem dX12_goesToNextOrder_40 : decode cX12_goesToNextOrder 40 = .ok (.isub, 1) := by decide +kernel
theorem dX12_goesToNextOrder_41 : decode cX12_goesToNextOrder 41 = .ok (.istore_n 3, 1) := by decide +kernel
theorem dX12_goesToNextOrder_42 : decode cX12_goesToNextOrder 42 = .ok (.aload_n 0, 1) := by decide +kernel
theorem dX12_goesToNextOrder_43 : decode cX12_goesToNextOrder 43 = .ok (.getfield 95, 3) := by decide +kernel
theorem dX12_goesToNextOrder_46 : decode cX12_goesToNextOrder 46 = .ok (.iload_n 3, 1) := by decide +kernel
theorem dX12_goesToNextOrder_47 : decode cX12_goesToNextOrder 47 = .ok (.iaload, 1) := by decide +kernel
theorem dX12_goesToNextOrder_48 : decode cX12_goesToNextOrder 48 = .ok (.aload_n 0, 1) := by decide +kernel
theorem dX12_goesToNextOrder_49 : decode cX12_goesToNextOrder 49 = .ok (.getfield 95, 3) := by decide +kernel
theorem dX12_goesToNextOrder_52 : decode cX12_goesToNextOrder 52 = .ok (.iload_n 2, 1) := by decide +kernel
theorem dX12_goesToNextOrder_53 : decode cX12_goesToNextOrder 53 = .ok (.iaload, 1) := by decide +kernel
theorem dX12_goesToNextOrder_54 : decode cX12_goesToNextOrder 54 = .ok (.if_icmp .ge 10, 3) := by decide +kernel
theorem dX12_goesToNextOrder_57 : decode cX12_goesToNextOrder 57 = .ok (.iload_n 3, 1) := by decide +kernel
theorem dX12_goesToNextOrder_58 : decode cX12_goesToNextOrder 58 = .ok (.iconst 1, 1) := by decide +kernel
theorem dX12_goesToNextOrder_59 : decode cX12_goesToNextOrder 59 = .ok (.isub, 1) := by decide +kernel
theorem dX12_goesToNextOrder_60 : decode cX12_goesToNextOrder 60 = .ok (.istore_n 3, 1) := by decide +kernel
theorem dX12_goesToNextOrder_61 : decode cX12_goesToNextOrder 61 = .ok (.goto (-19), 3) := by decide +kernel
theorem dX12_goesToNextOrder_64 : decode cX12_goesToNextOrder 64 = .ok (.aload_n 0, 1) := by decide +kernel
theorem dX12_goesToNextOrder_65 : decode cX12_goesToNextOrder 65 = .ok (.getfield 95, 3) := by decide +kernel
theorem dX12_goesToNextOrder_68 : decode cX12_goesToNextOrder 68 = .ok (.iload_n 2, 1) := by decide +kernel
theorem dX12_goesToNextOrder_69 : decode cX12_goesToNextOrder 69 = .ok (.iaload, 1) := by decide +kernel
theorem dX12_goesToNextOrder_70 : decode cX12_goesToNextOrder 70 = .ok (.istore 4, 2) := by decide +kernel
theorem dX12_goesToNextOrder_72 : decode cX12_goesToNextOrder 72 = .ok (.aload_n 0, 1) := by decide +kernel
theorem dX12_goesToNextOrder_73 : decode cX12_goesToNextOrder 73 = .ok (.getfield 95, 3) := by decide +kernel
theorem dX12_goesToNextOrder_76 : decode cX12_goesToNextOrder 76 = .ok (.iload_n 2, 1) := by decide +kernel
theorem dX12_goesToNextOrder_77 : decode cX12_goesToNextOrder 77 = .ok (.aload_n 0, 1) := by decide +kernel
theorem dX12_goesToNextOrder_78 : decode cX12_goesToNextOrder 78 = .ok (.getfield 95, 3) := by decide +kernel
theorem dX12_goesToNextOrder_81 : decode cX12_goesToNextOrder 81 = .ok (.iload_n 3, 1) := by decide +kernel
theorem dX12_goesToNextOrder_82 : decode cX12_goesToNextOrder 82 = .ok (.iaload, 1) := by decide +kernel
theorem dX12_goesToNextOrder_83 : decode cX12_goesToNextOrder 83 = .ok (.iastore, 1) := by decide +kernel
theorem dX12_goesToNextOrder_84 : decode cX12_goesToNextOrder 84 = .ok (.aload_n 0, 1) := by decide +kernel
theorem dX12_goesToNextOrder_85 : decode cX12_goesToNextOrder 85 = .ok (.getfield 95, 3) := by decide +kernel
theorem dX12_goesToNextOrder_88 : decode cX12_goesToNextOrder 88 = .ok (.iload_n 3, 1) := by decide +kernel
theorem dX12_goesToNextOrder_89 : decode cX12_goesToNextOrder 89 = .ok (.iload 4, 2) := by decide +kernel
theorem dX12_goesToNextOrder_91 : decode cX12_goesToNextOrder 91 = .ok (.iastore, 1) := by decide +kernel
theorem dX12_goesToNextOrder_92 : decode cX12_goesToNextOrder 92 = .ok (.iload_n 1, 1) := by decide +kernel
theorem dX12_goesToNextOrder_93 : decode cX12_goesToNextOrder 93 = .ok (.iconst 1, 1) := by decide +kernel
theorem dX12_goesToNextOrder_94 : decode cX12_goesToNextOrder 94 = .ok (.isub, 1) := by decide +kernel
theorem dX12_goesToNextOrder_95 : decode cX12_goesToNextOrder 95 = .ok (.istore 5, 2) := by decide +kernel
theorem dX12_goesToNextOrder_97 : decode cX12_goesToNextOrder 97 = .ok (.iload_n 2, 1) := by decide +kernel
theorem dX12_goesToNextOrder_98 : decode cX12_goesToNextOrder 98 = .ok (.iconst 1, 1) := by decide +kernel
theorem dX12_goesToNextOrder_99 : decode cX12_goesToNextOrder 99 = .ok (.iadd, 1) := by decide +kernel
theorem dX12_goesToNextOrder_100 : decode cX12_goesToNextOrder 100 = .ok (.istore 6, 2) := by decide +kernel
theorem dX12_goesToNextOrder_102 : decode cX12_goesToNextOrder 102 = .ok (.iload 6, 2) := by decide +kernel
theorem dX12_goesToNextOrder_104 : decode cX12_goesToNextOrder 104 = .ok (.iload 5, 2) := by decide +kernel
theorem dX12_goesToNextOrder_106 : decode cX12_goesToNextOrder 106 = .ok (.if_icmp .ge 47, 3) := by decide +kernel
theorem dX12_goesToNextOrder_109 : decode cX12_goesToNextOrder 109 = .ok (.aload_n 0, 1) := by decide +kernel
theorem dX12_goesToNextOrder_110 : decode cX12_goesToNextOrder 110 = .ok (.getfield 95, 3) := by decide +kernel
theorem dX12_goesToNextOrder_113 : decode cX12_goesToNextOrder 113 = .ok (.iload 6, 2) := by decide +kernel
theorem dX12_goesToNextOrder_115 : decode cX12_goesToNextOrder 115 = .ok (.iaload, 1) := by decide +kernel
theorem dX12_goesToNextOrder_116 : decode cX12_goesToNextOrder 116 = .ok (.istore 4, 2) := by decide +kernel
theorem dX12_goesToNextOrder_118 : decode cX12_goesToNextOrder 118 = .ok (.aload_n 0, 1) := by decide +kernel
theorem dX12_goesToNextOrder_119 : decode cX12_goesToNextOrder 119 = .ok (.getfield 95, 3) := by decide +kernel
theorem dX12_goesToNextOrder_122 : decode cX12_goesToNextOrder 122 = .ok (.iload 6, 2) := by decide +kernel
theorem dX12_goesToNextOrder_124 : decode cX12_goesToNextOrder 124 = .ok (.aload_n 0, 1) := by decide +kernel
theorem dX12_goesToNextOrder_125 : decode cX12_goesToNextOrder 125 = .ok (.getfield 95, 3) := by decide +kernel
theorem dX12_goesToNextOrder_128 : decode cX12_goesToNextOrder 128 = .ok (.iload 5, 2) := by decide +kernel
theorem dX12_goesToNextOrder_130 : decode cX12_goesToNextOrder 130 = .ok (.iaload, 1) := by decide +kernel
theorem dX12_goesToNextOrder_131 : decode cX12_goesToNextOrder 131 = .ok (.iastore, 1) := by decide +kernel
theorem dX12_goesToNextOrder_132 : decode cX12_goesToNextOrder 132 = .ok (.aload_n 0, 1) := by decide +kernel
theorem dX12_goesToNextOrder_133 : decode cX12_goesToNextOrder 133 = .ok (.getfield 95, 3) := by decide +kernel
theorem dX12_goesToNextOrder_136 : decode cX12_goesToNextOrder 136 = .ok (.iload 5, 2) := by decide +kernel
theorem dX12_goesToNextOrder_138 : decode cX12_goesToNextOrder 138 = .ok (.iload 4, 2) := by decide +kernel
theorem dX12_goesToNextOrder_140 : decode cX12_goesToNextOrder 140 = .ok (.iastore, 1) := by decide +kernel
theorem dX12_goesToNextOrder_141 : decode cX12_goesToNextOrder 141 = .ok (.iload 5, 2) := by decide +kernel
theorem dX12_goesToNextOrder_143 : decode cX12_goesToNextOrder 143 = .ok (.iconst 1, 1) := by decide +kernel
theorem dX12_goesToNextOrder_144 : decode cX12_goesToNextOrder 144 = .ok (.isub, 1) := by decide +kernel
theorem dX12_goesToNextOrder_145 : decode cX12_goesToNextOrder 145 = .ok (.istore 5, 2) := by decide +kernel
theorem dX12_goesToNextOrder_147 : decode cX12_goesToNextOrder 147 = .ok (.iinc 6 1, 3) := by decide +kernel
theorem dX12_goesToNextOrder_150 : decode cX12_goesToNextOrder 150 = .ok (.goto (-48), 3) := by decide +kernel
theorem dX12_goesToNextOrder_153 : decode cX12_goesToNextOrder 153 = .ok (.iconst 1, 1) := by decide +kernel
theorem dX12_goesToNextOrder_154 : decode cX12_goesToNextOrder 154 = .ok (.ireturn, 1) := by decide +kernel
theorem dX12_settledWays_0 : decode cX12_settledWays 0 = .ok (.iconst 0, 1) := by decide +kernel
theorem dX12_settledWays_1 : decode cX12_settledWays 1 = .ok (.istore_n 1, 1) := by decide +kernel
theorem dX12_settledWays_2 : decode cX12_settledWays 2 = .ok (.iload_n 1, 1) := by decide +kernel
theorem dX12_settledWays_3 : decode cX12_settledWays 3 = .ok (.iconst 5, 1) := by decide +kernel
theorem dX12_settledWays_4 : decode cX12_settledWays 4 = .ok (.if_icmp .ge 16, 3) := by decide +kernel
theorem dX12_settledWays_7 : decode cX12_settledWays 7 = .ok (.aload_n 0, 1) := by decide +kernel
theorem dX12_settledWays_8 : decode cX12_settledWays 8 = .ok (.getfield 95, 3) := by decide +kernel
theorem dX12_settledWays_11 : decode cX12_settledWays 11 = .ok (.iload_n 1, 1) := by decide +kernel
theorem dX12_settledWays_12 : decode cX12_settledWays 12 = .ok (.iload_n 1, 1) := by decide +kernel
theorem dX12_settledWays_13 : decode cX12_settledWays 13 = .ok (.iastore, 1) := by decide +kernel
theorem dX12_settledWays_14 : decode cX12_settledWays 14 = .ok (.iinc 1 1, 3) := by decide +kernel
theorem dX12_settledWays_17 : decode cX12_settledWays 17 = .ok (.goto (-15), 3) := by decide +kernel
theorem dX12_settledWays_20 : decode cX12_settledWays 20 = .ok (.iconst 0, 1) := by decide +kernel
theorem dX12_settledWays_21 : decode cX12_settledWays 21 = .ok (.istore_n 1, 1) := by decide +kernel
theorem dX12_settledWays_22 : decode cX12_settledWays 22 = .ok (.iconst 1, 1) := by decide +kernel
theorem dX12_settledWays_23 : decode cX12_settledWays 23 = .ok (.istore_n 2, 1) := by decide +kernel
theorem dX12_settledWays_24 : decode cX12_settledWays 24 = .ok (.iload_n 2, 1) := by decide +kernel
theorem dX12_settledWays_25 : decode cX12_settledWays 25 = .ok (.ifCond .eq 23, 3) := by decide +kernel
theorem dX12_settledWays_28 : decode cX12_settledWays 28 = .ok (.aload_n 0, 1) := by decide +kernel
theorem dX12_settledWays_29 : decode cX12_settledWays 29 = .ok (.invokevirtual 472, 3) := by decide +kernel
theorem dX12_settledWays_32 : decode cX12_settledWays 32 = .ok (.ifCond .eq 7, 3) := by decide +kernel
theorem dX12_settledWays_35 : decode cX12_settledWays 35 = .ok (.iload_n 1, 1) := by decide +kernel
theorem dX12_settledWays_36 : decode cX12_settledWays 36 = .ok (.iconst 1, 1) := by decide +kernel
theorem dX12_settledWays_37 : decode cX12_settledWays 37 = .ok (.iadd, 1) := by decide +kernel
theorem dX12_settledWays_38 : decode cX12_settledWays 38 = .ok (.istore_n 1, 1) := by decide +kernel
theorem dX12_settledWays_39 : decode cX12_settledWays 39 = .ok (.aload_n 0, 1) := by decide +kernel
theorem dX12_settledWays_40 : decode cX12_settledWays 40 = .ok (.iconst 5, 1) := by decide +kernel
theorem dX12_settledWays_41 : decode cX12_settledWays 41 = .ok (.invokevirtual 475, 3) := by decide +kernel
theorem dX12_settledWays_44 : decode cX12_settledWays 44 = .ok (.istore_n 2, 1) := by decide +kernel
theorem dX12_settledWays_45 : decode cX12_settledWays 45 = .ok (.goto (-21), 3) := by decide +kernel
theorem dX12_settledWays_48 : decode cX12_settledWays 48 = .ok (.iload_n 1, 1) := by decide +kernel
theorem dX12_settledWays_49 : decode cX12_settledWays 49 = .ok (.ireturn, 1) := by decide +kernel
theorem dX12_matched_0 : decode cX12_matched 0 = .ok (.aload_n 0, 1) := by decide +kernel
theorem dX12_matched_1 : decode cX12_matched 1 = .ok (.iconst 0, 1) := by decide +kernel
theorem dX12_matched_2 : decode cX12_matched 2 = .ok (.putfield 183, 3) := by decide +kernel
theorem dX12_matched_5 : decode cX12_matched 5 = .ok (.aload_n 0, 1) := by decide +kernel
theorem dX12_matched_6 : decode cX12_matched 6 = .ok (.invokevirtual 478, 3) := by decide +kernel
theorem dX12_matched_9 : decode cX12_matched 9 = .ok (.iload_n 1, 1) := by decide +kernel
theorem dX12_matched_10 : decode cX12_matched 10 = .ok (.iconst (-1), 1) := by decide +kernel
theorem dX12_matched_11 : decode cX12_matched 11 = .ok (.if_icmp .ne 8, 3) := by decide +kernel
theorem dX12_matched_14 : decode cX12_matched 14 = .ok (.aload_n 0, 1) := by decide +kernel
theorem dX12_matched_15 : decode cX12_matched 15 = .ok (.invokevirtual 481, 3) := by decide +kernel
theorem dX12_matched_18 : decode cX12_matched 18 = .ok (.ireturn, 1) := by decide +kernel
theorem dX12_matched_19 : decode cX12_matched 19 = .ok (.aload_n 0, 1) := by decide +kernel
theorem dX12_matched_20 : decode cX12_matched 20 = .ok (.iload_n 1, 1) := by decide +kernel
theorem dX12_matched_21 : decode cX12_matched 21 = .ok (.iconst 0, 1) := by decide +kernel
theorem dX12_matched_22 : decode cX12_matched 22 = .ok (.iconst 1, 1) := by decide +kernel
theorem dX12_matched_23 : decode cX12_matched 23 = .ok (.invokevirtual 206, 3) := by decide +kernel
theorem dX12_matched_26 : decode cX12_matched 26 = .ok (.ifCond .eq 23, 3) := by decide +kernel
theorem dX12_matched_29 : decode cX12_matched 29 = .ok (.aload_n 0, 1) := by decide +kernel
theorem dX12_matched_30 : decode cX12_matched 30 = .ok (.iload_n 2, 1) := by decide +kernel
theorem dX12_matched_31 : decode cX12_matched 31 = .ok (.iconst 0, 1) := by decide +kernel
theorem dX12_matched_32 : decode cX12_matched 32 = .ok (.iconst 4, 1) := by decide +kernel
theorem dX12_matched_33 : decode cX12_matched 33 = .ok (.invokevirtual 206, 3) := by decide +kernel
theorem dX12_matched_36 : decode cX12_matched 36 = .ok (.ifCond .eq 13, 3) := by decide +kernel
theorem dX12_matched_39 : decode cX12_matched 39 = .ok (.aload_n 0, 1) := by decide +kernel
theorem dX12_matched_40 : decode cX12_matched 40 = .ok (.iload_n 3, 1) := by decide +kernel
theorem dX12_matched_41 : decode cX12_matched 41 = .ok (.iconst 0, 1) := by decide +kernel
theorem dX12_matched_42 : decode cX12_matched 42 = .ok (.iconst 1, 1) := by decide +kernel
theorem dX12_matched_43 : decode cX12_matched 43 = .ok (.invokevirtual 206, 3) := by decide +kernel
theorem dX12_matched_46 : decode cX12_matched 46 = .ok (.ifCond .ne 5, 3) := by decide +kernel
theorem dX12_matched_49 : decode cX12_matched 49 = .ok (.iconst (-1), 1) := by decide +kernel
theorem dX12_matched_50 : decode cX12_matched 50 = .ok (.ireturn, 1) := by decide +kernel
theorem dX12_matched_51 : decode cX12_matched 51 = .ok (.aload_n 0, 1) := by decide +kernel
theorem dX12_matched_52 : decode cX12_matched 52 = .ok (.iload_n 3, 1) := by decide +kernel
theorem dX12_matched_53 : decode cX12_matched 53 = .ok (.invokevirtual 484, 3) := by decide +kernel
theorem dX12_matched_56 : decode cX12_matched 56 = .ok (.iload_n 1, 1) := by decide +kernel
theorem dX12_matched_57 : decode cX12_matched 57 = .ok (.iload_n 3, 1) := by decide +kernel
theorem dX12_matched_58 : decode cX12_matched 58 = .ok (.if_icmp .eq 10, 3) := by decide +kernel
theorem dX12_matched_61 : decode cX12_matched 61 = .ok (.aload_n 0, 1) := by decide +kernel
theorem dX12_matched_62 : decode cX12_matched 62 = .ok (.getfield 89, 3) := by decide +kernel
theorem dX12_matched_65 : decode cX12_matched 65 = .ok (.iload_n 2, 1) := by decide +kernel
theorem dX12_matched_66 : decode cX12_matched 66 = .ok (.iaload, 1) := by decide +kernel
theorem dX12_matched_67 : decode cX12_matched 67 = .ok (.ireturn, 1) := by decide +kernel
theorem dX12_matched_68 : decode cX12_matched 68 = .ok (.iconst 0, 1) := by decide +kernel
theorem dX12_matched_69 : decode cX12_matched 69 = .ok (.istore 4, 2) := by decide +kernel
theorem dX12_matched_71 : decode cX12_matched 71 = .ok (.iload 4, 2) := by decide +kernel
theorem dX12_matched_73 : decode cX12_matched 73 = .ok (.iconst 5, 1) := by decide +kernel
theorem dX12_matched_74 : decode cX12_matched 74 = .ok (.if_icmp .ge 23, 3) := by decide +kernel
theorem dX12_matched_77 : decode cX12_matched 77 = .ok (.aload_n 0, 1) := by decide +kernel
theorem dX12_matched_78 : decode cX12_matched 78 = .ok (.getfield 89, 3) := by decide +kernel
theorem dX12_matched_81 : decode cX12_matched 81 = .ok (.iload 4, 2) := by decide +kernel
theorem dX12_matched_83 : decode cX12_matched 83 = .ok (.iaload, 1) := by decide +kernel
theorem dX12_matched_84 : decode cX12_matched 84 = .ok (.iload_n 2, 1) := by decide +kernel
theorem dX12_matched_85 : decode cX12_matched 85 = .ok (.if_icmp .ne 6, 3) := by decide +kernel
theorem dX12_matched_88 : decode cX12_matched 88 = .ok (.iload 4, 2) := by decide +kernel
theorem dX12_matched_90 : decode cX12_matched 90 = .ok (.ireturn, 1) := by decide +kernel
theorem dX12_matched_91 : decode cX12_matched 91 = .ok (.iinc 4 1, 3) := by decide +kernel
theorem dX12_matched_94 : decode cX12_matched 94 = .ok (.goto (-23), 3) := by decide +kernel
theorem dX12_matched_97 : decode cX12_matched 97 = .ok (.iconst (-1), 1) := by decide +kernel
theorem dX12_matched_98 : decode cX12_matched 98 = .ok (.ireturn, 1) := by decide +kernel
theorem dX12_chair_0 : decode cX12_chair 0 = .ok (.aload_n 0, 1) := by decide +kernel
theorem dX12_chair_1 : decode cX12_chair 1 = .ok (.iconst 0, 1) := by decide +kernel
theorem dX12_chair_2 : decode cX12_chair 2 = .ok (.putfield 183, 3) := by decide +kernel
theorem dX12_chair_5 : decode cX12_chair 5 = .ok (.iload_n 1, 1) := by decide +kernel
theorem dX12_chair_6 : decode cX12_chair 6 = .ok (.iconst (-1), 1) := by decide +kernel
theorem dX12_chair_7 : decode cX12_chair 7 = .ok (.if_icmp .ne 10, 3) := by decide +kernel
theorem dX12_chair_10 : decode cX12_chair 10 = .ok (.aload_n 0, 1) := by decide +kernel
theorem dX12_chair_11 : decode cX12_chair 11 = .ok (.iconst 0, 1) := by decide +kernel
theorem dX12_chair_12 : decode cX12_chair 12 = .ok (.putfield 487, 3) := by decide +kernel
theorem dX12_chair_15 : decode cX12_chair 15 = .ok (.iconst 0, 1) := by decide +kernel
theorem dX12_chair_16 : decode cX12_chair 16 = .ok (.ireturn, 1) := by decide +kernel
theorem dX12_chair_17 : decode cX12_chair 17 = .ok (.aload_n 0, 1) := by decide +kernel
theorem dX12_chair_18 : decode cX12_chair 18 = .ok (.iload_n 1, 1) := by decide +kernel
theorem dX12_chair_19 : decode cX12_chair 19 = .ok (.iconst 1, 1) := by decide +kernel
theorem dX12_chair_20 : decode cX12_chair 20 = .ok (.bipush 30, 2) := by decide +kernel
theorem dX12_chair_22 : decode cX12_chair 22 = .ok (.invokevirtual 206, 3) := by decide +kernel
theorem dX12_chair_25 : decode cX12_chair 25 = .ok (.ifCond .eq 23, 3) := by decide +kernel
theorem dX12_chair_28 : decode cX12_chair 28 = .ok (.aload_n 0, 1) := by decide +kernel
theorem dX12_chair_29 : decode cX12_chair 29 = .ok (.iload_n 2, 1) := by decide +kernel
theorem dX12_chair_30 : decode cX12_chair 30 = .ok (.iconst 0, 1) := by decide +kernel
theorem dX12_chair_31 : decode cX12_chair 31 = .ok (.iload_n 1, 1) := by decide +kernel
theorem dX12_chair_32 : decode cX12_chair 32 = .ok (.iconst 1, 1) := by decide +kernel
theorem dX12_chair_33 : decode cX12_chair 33 = .ok (.isub, 1) := by decide +kernel
theorem dX12_chair_34 : decode cX12_chair 34 = .ok (.invokevirtual 206, 3) := by decide +kernel
theorem dX12_chair_37 : decode cX12_chair 37 = .ok (.ifCond .eq 11, 3) := by decide +kernel
theorem dX12_chair_40 : decode cX12_chair 40 = .ok (.aload_n 0, 1) := by decide +kernel
theorem dX12_chair_41 : decode cX12_chair 41 = .ok (.getfield 487, 3) := by decide +kernel
theorem dX12_chair_44 : decode cX12_chair 44 = .ok (.iconst 5, 1) := by decide +kernel
theorem dX12_chair_45 : decode cX12_chair 45 = .ok (.if_icmp .ne 5, 3) := by decide +kernel
theorem dX12_chair_48 : decode cX12_chair 48 = .ok (.iconst (-1), 1) := by decide +kernel
theorem dX12_chair_49 : decode cX12_chair 49 = .ok (.ireturn, 1) := by decide +kernel
theorem dX12_chair_50 : decode cX12_chair 50 = .ok (.aload_n 0, 1) := by decide +kernel
theorem dX12_chair_51 : decode cX12_chair 51 = .ok (.getfield 98, 3) := by decide +kernel
theorem dX12_chair_54 : decode cX12_chair 54 = .ok (.aload_n 0, 1) := by decide +kernel
theorem dX12_chair_55 : decode cX12_chair 55 = .ok (.getfield 487, 3) := by decide +kernel
theorem dX12_chair_58 : decode cX12_chair 58 = .ok (.iload_n 1, 1) := by decide +kernel
theorem dX12_chair_59 : decode cX12_chair 59 = .ok (.iastore, 1) := by decide +kernel
theorem dX12_chair_60 : decode cX12_chair 60 = .ok (.aload_n 0, 1) := by decide +kernel
theorem dX12_chair_61 : decode cX12_chair 61 = .ok (.getfield 101, 3) := by decide +kernel
theorem dX12_chair_64 : decode cX12_chair 64 = .ok (.aload_n 0, 1) := by decide +kernel
theorem dX12_chair_65 : decode cX12_chair 65 = .ok (.getfield 487, 3) := by decide +kernel
theorem dX12_chair_68 : decode cX12_chair 68 = .ok (.iload_n 2, 1) := by decide +kernel
theorem dX12_chair_69 : decode cX12_chair 69 = .ok (.iastore, 1) := by decide +kernel
theorem dX12_chair_70 : decode cX12_chair 70 = .ok (.aload_n 0, 1) := by decide +kernel
theorem dX12_chair_71 : decode cX12_chair 71 = .ok (.aload_n 0, 1) := by decide +kernel
theorem dX12_chair_72 : decode cX12_chair 72 = .ok (.getfield 487, 3) := by decide +kernel
theorem dX12_chair_75 : decode cX12_chair 75 = .ok (.iconst 1, 1) := by decide +kernel
theorem dX12_chair_76 : decode cX12_chair 76 = .ok (.iadd, 1) := by decide +kernel
theorem dX12_chair_77 : decode cX12_chair 77 = .ok (.putfield 487, 3) := by decide +kernel
theorem dX12_chair_80 : decode cX12_chair 80 = .ok (.aload_n 0, 1) := by decide +kernel
theorem dX12_chair_81 : decode cX12_chair 81 = .ok (.getfield 487, 3) := by decide +kernel
theorem dX12_chair_84 : decode cX12_chair 84 = .ok (.ireturn, 1) := by decide +kernel
theorem dX12_forwardAt_0 : decode cX12_forwardAt 0 = .ok (.iconst 0, 1) := by decide +kernel
theorem dX12_forwardAt_1 : decode cX12_forwardAt 1 = .ok (.istore_n 2, 1) := by decide +kernel
theorem dX12_forwardAt_2 : decode cX12_forwardAt 2 = .ok (.iconst 0, 1) := by decide +kernel
theorem dX12_forwardAt_3 : decode cX12_forwardAt 3 = .ok (.istore_n 3, 1) := by decide +kernel
theorem dX12_forwardAt_4 : decode cX12_forwardAt 4 = .ok (.iload_n 3, 1) := by decide +kernel
theorem dX12_forwardAt_5 : decode cX12_forwardAt 5 = .ok (.aload_n 0, 1) := by decide +kernel
theorem dX12_forwardAt_6 : decode cX12_forwardAt 6 = .ok (.getfield 487, 3) := by decide +kernel
theorem dX12_forwardAt_9 : decode cX12_forwardAt 9 = .ok (.if_icmp .ge 30, 3) := by decide +kernel
theorem dX12_forwardAt_12 : decode cX12_forwardAt 12 = .ok (.iload_n 1, 1) := by decide +kernel
theorem dX12_forwardAt_13 : decode cX12_forwardAt 13 = .ok (.aload_n 0, 1) := by decide +kernel
theorem dX12_forwardAt_14 : decode cX12_forwardAt 14 = .ok (.getfield 98, 3) := by decide +kernel
theorem dX12_forwardAt_17 : decode cX12_forwardAt 17 = .ok (.iload_n 3, 1) := by decide +kernel
theorem dX12_forwardAt_18 : decode cX12_forwardAt 18 = .ok (.iaload, 1) := by decide +kernel
theorem dX12_forwardAt_19 : decode cX12_forwardAt 19 = .ok (.irem, 1) := by decide +kernel
theorem dX12_forwardAt_20 : decode cX12_forwardAt 20 = .ok (.aload_n 0, 1) := by decide +kernel
theorem dX12_forwardAt_21 : decode cX12_forwardAt 21 = .ok (.getfield 101, 3) := by decide +kernel
theorem dX12_forwardAt_24 : decode cX12_forwardAt 24 = .ok (.iload_n 3, 1) := by decide +kernel
theorem dX12_forwardAt_25 : decode cX12_forwardAt 25 = .ok (.iaload, 1) := by decide +kernel
theorem dX12_forwardAt_26 : decode cX12_forwardAt 26 = .ok (.if_icmp .ne 7, 3) := by decide +kernel
theorem dX12_forwardAt_29 : decode cX12_forwardAt 29 = .ok (.iload_n 2, 1) := by decide +kernel
theorem dX12_forwardAt_30 : decode cX12_forwardAt 30 = .ok (.iconst 1, 1) := by decide +kernel
theorem dX12_forwardAt_31 : decode cX12_forwardAt 31 = .ok (.iadd, 1) := by decide +kernel
theorem dX12_forwardAt_32 : decode cX12_forwardAt 32 = .ok (.istore_n 2, 1) := by decide +kernel
theorem dX12_forwardAt_33 : decode cX12_forwardAt 33 = .ok (.iinc 3 1, 3) := by decide +kernel
theorem dX12_forwardAt_36 : decode cX12_forwardAt 36 = .ok (.goto (-32), 3) := by decide +kernel
theorem dX12_forwardAt_39 : decode cX12_forwardAt 39 = .ok (.iload_n 2, 1) := by decide +kernel
theorem dX12_forwardAt_40 : decode cX12_forwardAt 40 = .ok (.ireturn, 1) := by decide +kernel
theorem dX12_rocks_0 : decode cX12_rocks 0 = .ok (.aload_n 0, 1) := by decide +kernel
theorem dX12_rocks_1 : decode cX12_rocks 1 = .ok (.iconst 0, 1) := by decide +kernel
theorem dX12_rocks_2 : decode cX12_rocks 2 = .ok (.putfield 183, 3) := by decide +kernel
theorem dX12_rocks_5 : decode cX12_rocks 5 = .ok (.aload_n 0, 1) := by decide +kernel
theorem dX12_rocks_6 : decode cX12_rocks 6 = .ok (.iload_n 1, 1) := by decide +kernel
theorem dX12_rocks_7 : decode cX12_rocks 7 = .ok (.iconst 0, 1) := by decide +kernel
theorem dX12_rocks_8 : decode cX12_rocks 8 = .ok (.iconst 1, 1) := by decide +kernel
theorem dX12_rocks_9 : decode cX12_rocks 9 = .ok (.invokevirtual 206, 3) := by decide +kernel
theorem dX12_rocks_12 : decode cX12_rocks 12 = .ok (.ifCond .ne 5, 3) := by decide +kernel
theorem dX12_rocks_15 : decode cX12_rocks 15 = .ok (.iconst (-1), 1) := by decide +kernel
theorem dX12_rocks_16 : decode cX12_rocks 16 = .ok (.ireturn, 1) := by decide +kernel
theorem dX12_rocks_17 : decode cX12_rocks 17 = .ok (.iload_n 1, 1) := by decide +kernel
theorem dX12_rocks_18 : decode cX12_rocks 18 = .ok (.ifCond .ne 34, 3) := by decide +kernel
theorem dX12_rocks_21 : decode cX12_rocks 21 = .ok (.iconst 0, 1) := by decide +kernel
theorem dX12_rocks_22 : decode cX12_rocks 22 = .ok (.istore_n 2, 1) := by decide +kernel
theorem dX12_rocks_23 : decode cX12_rocks 23 = .ok (.iload_n 2, 1) := by decide +kernel
theorem dX12_rocks_24 : decode cX12_rocks 24 = .ok (.sipush 9999, 3) := by decide +kernel
theorem dX12_rocks_27 : decode cX12_rocks 27 = .ok (.if_icmp .gt 23, 3) := by decide +kernel
theorem dX12_rocks_30 : decode cX12_rocks 30 = .ok (.aload_n 0, 1) := by decide +kernel
theorem dX12_rocks_31 : decode cX12_rocks 31 = .ok (.iload_n 2, 1) := by decide +kernel
theorem dX12_rocks_32 : decode cX12_rocks 32 = .ok (.invokevirtual 490, 3) := by decide +kernel
theorem dX12_rocks_35 : decode cX12_rocks 35 = .ok (.aload_n 0, 1) := by decide +kernel
theorem dX12_rocks_36 : decode cX12_rocks 36 = .ok (.getfield 487, 3) := by decide +kernel
theorem dX12_rocks_39 : decode cX12_rocks 39 = .ok (.if_icmp .ne 5, 3) := by decide +kernel
theorem dX12_rocks_42 : decode cX12_rocks 42 = .ok (.iload_n 2, 1) := by decide +kernel
theorem dX12_rocks_43 : decode cX12_rocks 43 = .ok (.ireturn, 1) := by decide +kernel
theorem dX12_rocks_44 : decode cX12_rocks 44 = .ok (.iinc 2 1, 3) := by decide +kernel
theorem dX12_rocks_47 : decode cX12_rocks 47 = .ok (.goto (-24), 3) := by decide +kernel
theorem dX12_rocks_50 : decode cX12_rocks 50 = .ok (.iconst (-1), 1) := by decide +kernel
theorem dX12_rocks_51 : decode cX12_rocks 51 = .ok (.ireturn, 1) := by decide +kernel
theorem dX12_rocks_52 : decode cX12_rocks 52 = .ok (.iconst 0, 1) := by decide +kernel
theorem dX12_rocks_53 : decode cX12_rocks 53 = .ok (.istore_n 2, 1) := by decide +kernel
theorem dX12_rocks_54 : decode cX12_rocks 54 = .ok (.iconst 0, 1) := by decide +kernel
theorem dX12_rocks_55 : decode cX12_rocks 55 = .ok (.istore_n 3, 1) := by decide +kernel
theorem dX12_rocks_56 : decode cX12_rocks 56 = .ok (.iload_n 3, 1) := by decide +kernel
theorem dX12_rocks_57 : decode cX12_rocks 57 = .ok (.bipush 99, 2) := by decide +kernel
theorem dX12_rocks_59 : decode cX12_rocks 59 = .ok (.if_icmp .gt 20, 3) := by decide +kernel
theorem dX12_rocks_62 : decode cX12_rocks 62 = .ok (.aload_n 0, 1) := by decide +kernel
theorem dX12_rocks_63 : decode cX12_rocks 63 = .ok (.iload_n 2, 1) := by decide +kernel
theorem dX12_rocks_64 : decode cX12_rocks 64 = .ok (.aload_n 0, 1) := by decide +kernel
theorem dX12_rocks_65 : decode cX12_rocks 65 = .ok (.iload_n 3, 1) := by decide +kernel
theorem dX12_rocks_66 : decode cX12_rocks 66 = .ok (.invokevirtual 490, 3) := by decide +kernel
theorem dX12_rocks_69 : decode cX12_rocks 69 = .ok (.invokevirtual 493, 3) := by decide +kernel
theorem dX12_rocks_72 : decode cX12_rocks 72 = .ok (.istore_n 2, 1) := by decide +kernel
theorem dX12_rocks_73 : decode cX12_rocks 73 = .ok (.iinc 3 1, 3) := by decide +kernel
theorem dX12_rocks_76 : decode cX12_rocks 76 = .ok (.goto (-20), 3) := by decide +kernel
theorem dX12_rocks_79 : decode cX12_rocks 79 = .ok (.iload_n 2, 1) := by decide +kernel
theorem dX12_rocks_80 : decode cX12_rocks 80 = .ok (.ireturn, 1) := by decide +kernel
theorem dX12_cat_0 : decode cX12_cat 0 = .ok (.aload_n 0, 1) := by decide +kernel
theorem dX12_cat_1 : decode cX12_cat 1 = .ok (.iconst 0, 1) := by decide +kernel
theorem dX12_cat_2 : decode cX12_cat 2 = .ok (.putfield 183, 3) := by decide +kernel
theorem dX12_cat_5 : decode cX12_cat 5 = .ok (.iload_n 1, 1) := by decide +kernel
theorem dX12_cat_6 : decode cX12_cat 6 = .ok (.iconst (-1), 1) := by decide +kernel
theorem dX12_cat_7 : decode cX12_cat 7 = .ok (.if_icmp .ne 10, 3) := by decide +kernel
theorem dX12_cat_10 : decode cX12_cat 10 = .ok (.aload_n 0, 1) := by decide +kernel
theorem dX12_cat_11 : decode cX12_cat 11 = .ok (.iconst 0, 1) := by decide +kernel
theorem dX12_cat_12 : decode cX12_cat 12 = .ok (.putfield 496, 3) := by decide +kernel
theorem dX12_cat_15 : decode cX12_cat 15 = .ok (.iconst 0, 1) := by decide +kernel
theorem dX12_cat_16 : decode cX12_cat 16 = .ok (.ireturn, 1) := by decide +kernel
theorem dX12_cat_17 : decode cX12_cat 17 = .ok (.aload_n 0, 1) := by decide +kernel
theorem dX12_cat_18 : decode cX12_cat 18 = .ok (.iload_n 1, 1) := by decide +kernel
theorem dX12_cat_19 : decode cX12_cat 19 = .ok (.iconst 0, 1) := by decide +kernel
theorem dX12_cat_20 : decode cX12_cat 20 = .ok (.bipush 7, 2) := by decide +kernel
theorem dX12_cat_22 : decode cX12_cat 22 = .ok (.invokevirtual 206, 3) := by decide +kernel
theorem dX12_cat_25 : decode cX12_cat 25 = .ok (.ifCond .eq 46, 3) := by decide +kernel
theorem dX12_cat_28 : decode cX12_cat 28 = .ok (.aload_n 0, 1) := by decide +kernel
theorem dX12_cat_29 : decode cX12_cat 29 = .ok (.iload_n 2, 1) := by decide +kernel
theorem dX12_cat_30 : decode cX12_cat 30 = .ok (.iconst 0, 1) := by decide +kernel
theorem dX12_cat_31 : decode cX12_cat 31 = .ok (.bipush 7, 2) := by decide +kernel
theorem dX12_cat_33 : decode cX12_cat 33 = .ok (.invokevirtual 206, 3) := by decide +kernel
theorem dX12_cat_36 : decode cX12_cat 36 = .ok (.ifCond .eq 35, 3) := by decide +kernel
theorem dX12_cat_39 : decode cX12_cat 39 = .ok (.aload_n 0, 1) := by decide +kernel
theorem dX12_cat_40 : decode cX12_cat 40 = .ok (.iload_n 3, 1) := by decide +kernel
theorem dX12_cat_41 : decode cX12_cat 41 = .ok (.iconst 0, 1) := by decide +kernel
theorem dX12_cat_42 : decode cX12_cat 42 = .ok (.sipush 9999, 3) := by decide +kernel
theorem dX12_cat_45 : decode cX12_cat 45 = .ok (.invokevirtual 206, 3) := by decide +kernel
theorem dX12_cat_48 : decode cX12_cat 48 = .ok (.ifCond .eq 23, 3) := by decide +kernel
theorem dX12_cat_51 : decode cX12_cat 51 = .ok (.iload_n 3, 1) := by decide +kernel
theorem dX12_cat_52 : decode cX12_cat 52 = .ok (.bipush 100, 2) := by decide +kernel
theorem dX12_cat_54 : decode cX12_cat 54 = .ok (.idiv, 1) := by decide +kernel
theorem dX12_cat_55 : decode cX12_cat 55 = .ok (.iload_n 3, 1) := by decide +kernel
theorem dX12_cat_56 : decode cX12_cat 56 = .ok (.bipush 100, 2) := by decide +kernel
theorem dX12_cat_58 : decode cX12_cat 58 = .ok (.irem, 1) := by decide +kernel
theorem dX12_cat_59 : decode cX12_cat 59 = .ok (.if_icmp .ge 12, 3) := by decide +kernel
theorem dX12_cat_62 : decode cX12_cat 62 = .ok (.aload_n 0, 1) := by decide +kernel
theorem dX12_cat_63 : decode cX12_cat 63 = .ok (.getfield 496, 3) := by decide +kernel
theorem dX12_cat_66 : decode cX12_cat 66 = .ok (.bipush 12, 2) := by decide +kernel
theorem dX12_cat_68 : decode cX12_cat 68 = .ok (.if_icmp .ne 5, 3) := by decide +kernel
theorem dX12_cat_71 : decode cX12_cat 71 = .ok (.iconst (-1), 1) := by decide +kernel
theorem dX12_cat_72 : decode cX12_cat 72 = .ok (.ireturn, 1) := by decide +kernel
theorem dX12_cat_73 : decode cX12_cat 73 = .ok (.aload_n 0, 1) := by decide +kernel
theorem dX12_cat_74 : decode cX12_cat 74 = .ok (.getfield 104, 3) := by decide +kernel
theorem dX12_cat_77 : decode cX12_cat 77 = .ok (.aload_n 0, 1) := by decide +kernel
theorem dX12_cat_78 : decode cX12_cat 78 = .ok (.getfield 496, 3) := by decide +kernel
theorem dX12_cat_81 : decode cX12_cat 81 = .ok (.iload_n 1, 1) := by decide +kernel
theorem dX12_cat_82 : decode cX12_cat 82 = .ok (.iastore, 1) := by decide +kernel
theorem dX12_cat_83 : decode cX12_cat 83 = .ok (.aload_n 0, 1) := by decide +kernel
theorem dX12_cat_84 : decode cX12_cat 84 = .ok (.getfield 107, 3) := by decide +kernel
theorem dX12_cat_87 : decode cX12_cat 87 = .ok (.aload_n 0, 1) := by decide +kernel
theorem dX12_cat_88 : decode cX12_cat 88 = .ok (.getfield 496, 3) := by decide +kernel
theorem dX12_cat_91 : decode cX12_cat 91 = .ok (.iload_n 2, 1) := by decide +kernel
theorem dX12_cat_92 : decode cX12_cat 92 = .ok (.iastore, 1) := by decide +kernel
theorem dX12_cat_93 : decode cX12_cat 93 = .ok (.aload_n 0, 1) := by decide +kernel
theorem dX12_cat_94 : decode cX12_cat 94 = .ok (.getfield 110, 3) := by decide +kernel
theorem dX12_cat_97 : decode cX12_cat 97 = .ok (.aload_n 0, 1) := by decide +kernel
theorem dX12_cat_98 : decode cX12_cat 98 = .ok (.getfield 496, 3) := by decide +kernel
theorem dX12_cat_101 : decode cX12_cat 101 = .ok (.iload_n 3, 1) := by decide +kernel
theorem dX12_cat_102 : decode cX12_cat 102 = .ok (.bipush 100, 2) := by decide +kernel
theorem dX12_cat_104 : decode cX12_cat 104 = .ok (.idiv, 1) := by decide +kernel
theorem dX12_cat_105 : decode cX12_cat 105 = .ok (.iastore, 1) := by decide +kernel
theorem dX12_cat_106 : decode cX12_cat 106 = .ok (.aload_n 0, 1) := by decide +kernel
theorem dX12_cat_107 : decode cX12_cat 107 = .ok (.getfield 113, 3) := by decide +kernel
theorem dX12_cat_110 : decode cX12_cat 110 = .ok (.aload_n 0, 1) := by decide +kernel
theorem dX12_cat_111 : decode cX12_cat 111 = .ok (.getfield 496, 3) := by decide +kernel
theorem dX12_cat_114 : decode cX12_cat 114 = .ok (.iload_n 3, 1) := by decide +kernel
theorem dX12_cat_115 : decode cX12_cat 115 = .ok (.bipush 100, 2) := by decide +kernel
theorem dX12_cat_117 : decode cX12_cat 117 = .ok (.irem, 1) := by decide +kernel
theorem dX12_cat_118 : decode cX12_cat 118 = .ok (.iastore, 1) := by decide +kernel
theorem dX12_cat_119 : decode cX12_cat 119 = .ok (.aload_n 0, 1) := by decide +kernel
theorem dX12_cat_120 : decode cX12_cat 120 = .ok (.aload_n 0, 1) := by decide +kernel
theorem dX12_cat_121 : decode cX12_cat 121 = .ok (.getfield 496, 3) := by decide +kernel
theorem dX12_cat_124 : decode cX12_cat 124 = .ok (.iconst 1, 1) := by decide +kernel
theorem dX12_cat_125 : decode cX12_cat 125 = .ok (.iadd, 1) := by decide +kernel
theorem dX12_cat_126 : decode cX12_cat 126 = .ok (.putfield 496, 3) := by decide +kernel
theorem dX12_cat_129 : decode cX12_cat 129 = .ok (.aload_n 0, 1) := by decide +kernel
theorem dX12_cat_130 : decode cX12_cat 130 = .ok (.getfield 496, 3) := by decide +kernel
theorem dX12_cat_133 : decode cX12_cat 133 = .ok (.ireturn, 1) := by decide +kernel
theorem dX12_reply_0 : decode cX12_reply 0 = .ok (.aload_n 0, 1) := by decide +kernel
theorem dX12_reply_1 : decode cX12_reply 1 = .ok (.iconst 0, 1) := by decide +kernel
theorem dX12_reply_2 : decode cX12_reply 2 = .ok (.putfield 183, 3) := by decide +kernel
theorem dX12_reply_5 : decode cX12_reply 5 = .ok (.aload_n 0, 1) := by decide +kernel
theorem dX12_reply_6 : decode cX12_reply 6 = .ok (.iload_n 1, 1) := by decide +kernel
theorem dX12_reply_7 : decode cX12_reply 7 = .ok (.iconst 0, 1) := by decide +kernel
theorem dX12_reply_8 : decode cX12_reply 8 = .ok (.bipush 7, 2) := by decide +kernel
theorem dX12_reply_10 : decode cX12_reply 10 = .ok (.invokevirtual 206, 3) := by decide +kernel
theorem dX12_reply_13 : decode cX12_reply 13 = .ok (.ifCond .eq 25, 3) := by decide +kernel
theorem dX12_reply_16 : decode cX12_reply 16 = .ok (.aload_n 0, 1) := by decide +kernel
theorem dX12_reply_17 : decode cX12_reply 17 = .ok (.iload_n 2, 1) := by decide +kernel
theorem dX12_reply_18 : decode cX12_reply 18 = .ok (.iconst 0, 1) := by decide +kernel
theorem dX12_reply_19 : decode cX12_reply 19 = .ok (.bipush 99, 2) := by decide +kernel
theorem dX12_reply_21 : decode cX12_reply 21 = .ok (.invokevirtual 206, 3) := by decide +kernel
theorem dX12_reply_24 : decode cX12_reply 24 = .ok (.ifCond .eq 14, 3) := by decide +kernel
theorem dX12_reply_27 : decode cX12_reply 27 = .ok (.aload_n 0, 1) := by decide +kernel
theorem dX12_reply_28 : decode cX12_reply 28 = .ok (.iload_n 3, 1) := by decide +kernel
theorem dX12_reply_29 : decode cX12_reply 29 = .ok (.iconst 0, 1) := by decide +kernel
theorem dX12_reply_30 : decode cX12_reply 30 = .ok (.bipush 7, 2) := by decide +kernel
theorem dX12_reply_32 : decode cX12_reply 32 = .ok (.invokevirtual 206, 3) := by decide +kernel
theorem dX12_reply_35 : decode cX12_reply 35 = .ok (.ifCond .ne 5, 3) := by decide +kernel
theorem dX12_reply_38 : decode cX12_reply 38 = .ok (.iconst (-1), 1) := by decide +kernel
theorem dX12_reply_39 : decode cX12_reply 39 = .ok (.ireturn, 1) := by decide +kernel
theorem dX12_reply_40 : decode cX12_reply 40 = .ok (.iconst 0, 1) := by decide +kernel
theorem dX12_reply_41 : decode cX12_reply 41 = .ok (.istore 4, 2) := by decide +kernel
theorem dX12_reply_43 : decode cX12_reply 43 = .ok (.iload 4, 2) := by decide +kernel
theorem dX12_reply_45 : decode cX12_reply 45 = .ok (.bipush 8, 2) := by decide +kernel
theorem dX12_reply_47 : decode cX12_reply 47 = .ok (.if_icmp .ge 29, 3) := by decide +kernel
theorem dX12_reply_50 : decode cX12_reply 50 = .ok (.aload_n 0, 1) := by decide +kernel
theorem dX12_reply_51 : decode cX12_reply 51 = .ok (.getfield 116, 3) := by decide +kernel
theorem dX12_reply_54 : decode cX12_reply 54 = .ok (.iload 4, 2) := by decide +kernel
theorem dX12_reply_56 : decode cX12_reply 56 = .ok (.iload 4, 2) := by decide +kernel
theorem dX12_reply_58 : decode cX12_reply 58 = .ok (.iload_n 1, 1) := by decide +kernel
theorem dX12_reply_59 : decode cX12_reply 59 = .ok (.if_icmp .ne 7, 3) := by decide +kernel
theorem dX12_reply_62 : decode cX12_reply 62 = .ok (.iload_n 2, 1) := by decide +kernel
theorem dX12_reply_63 : decode cX12_reply 63 = .ok (.goto 6, 3) := by decide +kernel
theorem dX12_reply_66 : decode cX12_reply 66 = .ok (.ldc_w 499, 3) := by decide +kernel
theorem dX12_reply_69 : decode cX12_reply 69 = .ok (.iastore, 1) := by decide +kernel
theorem dX12_reply_70 : decode cX12_reply 70 = .ok (.iinc 4 1, 3) := by decide +kernel
theorem dX12_reply_73 : decode cX12_reply 73 = .ok (.goto (-30), 3) := by decide +kernel
theorem dX12_reply_76 : decode cX12_reply 76 = .ok (.iconst 0, 1) := by decide +kernel
theorem dX12_reply_77 : decode cX12_reply 77 = .ok (.istore 4, 2) := by decide +kernel
theorem dX12_reply_79 : decode cX12_reply 79 = .ok (.iload 4, 2) := by decide +kernel
theorem dX12_reply_81 : decode cX12_reply 81 = .ok (.aload_n 0, 1) := by decide +kernel
theorem dX12_reply_82 : decode cX12_reply 82 = .ok (.getfield 496, 3) := by decide +kernel
theorem dX12_reply_85 : decode cX12_reply 85 = .ok (.if_icmp .ge 84, 3) := by decide +kernel
theorem dX12_reply_88 : decode cX12_reply 88 = .ok (.iconst 0, 1) := by decide +kernel
theorem dX12_reply_89 : decode cX12_reply 89 = .ok (.istore 5, 2) := by decide +kernel
theorem dX12_reply_91 : decode cX12_reply 91 = .ok (.iload 5, 2) := by decide +kernel
theorem dX12_reply_93 : decode cX12_reply 93 = .ok (.aload_n 0, 1) := by decide +kernel
theorem dX12_reply_94 : decode cX12_reply 94 = .ok (.getfield 496, 3) := by decide +kernel
theorem dX12_reply_97 : decode cX12_reply 97 = .ok (.if_icmp .ge 66, 3) := by decide +kernel
theorem dX12_reply_100 : decode cX12_reply 100 = .ok (.aload_n 0, 1) := by decide +kernel
theorem dX12_reply_101 : decode cX12_reply 101 = .ok (.getfield 116, 3) := by decide +kernel
theorem dX12_reply_104 : decode cX12_reply 104 = .ok (.aload_n 0, 1) := by decide +kernel
theorem dX12_reply_105 : decode cX12_reply 105 = .ok (.getfield 104, 3) := by decide +kernel
theorem dX12_reply_108 : decode cX12_reply 108 = .ok (.iload 5, 2) := by decide +kernel
theorem dX12_reply_110 : decode cX12_reply 110 = .ok (.iaload, 1) := by decide +kernel
theorem dX12_reply_111 : decode cX12_reply 111 = .ok (.iaload, 1) := by decide +kernel
theorem dX12_reply_112 : decode cX12_reply 112 = .ok (.aload_n 0, 1) := by decide +kernel
theorem dX12_reply_113 : decode cX12_reply 113 = .ok (.getfield 110, 3) := by decide +kernel
theorem dX12_reply_116 : decode cX12_reply 116 = .ok (.iload 5, 2) := by decide +kernel
theorem dX12_reply_118 : decode cX12_reply 118 = .ok (.iaload, 1) := by decide +kernel
theorem dX12_reply_119 : decode cX12_reply 119 = .ok (.if_icmp .gt 38, 3) := by decide +kernel
theorem dX12_reply_122 : decode cX12_reply 122 = .ok (.aload_n 0, 1) := by decide +kernel
theorem dX12_reply_123 : decode cX12_reply 123 = .ok (.getfield 116, 3) := by decide +kernel
theorem dX12_reply_126 : decode cX12_reply 126 = .ok (.aload_n 0, 1) := by decide +kernel
theorem dX12_reply_127 : decode cX12_reply 127 = .ok (.getfield 107, 3) := by decide +kernel
theorem dX12_reply_130 : decode cX12_reply 130 = .ok (.iload 5, 2) := by decide +kernel
theorem dX12_reply_132 : decode cX12_reply 132 = .ok (.iaload, 1) := by decide +kernel
theorem dX12_reply_133 : decode cX12_reply 133 = .ok (.aload_n 0, 1) := by decide +kernel
theorem dX12_reply_134 : decode cX12_reply 134 = .ok (.aload_n 0, 1) := by decide +kernel
theorem dX12_reply_135 : decode cX12_reply 135 = .ok (.getfield 116, 3) := by decide +kernel
theorem dX12_reply_138 : decode cX12_reply 138 = .ok (.aload_n 0, 1) := by decide +kernel
theorem dX12_reply_139 : decode cX12_reply 139 = .ok (.getfield 107, 3) := by decide +kernel
theorem dX12_reply_142 : decode cX12_reply 142 = .ok (.iload 5, 2) := by decide +kernel
theorem dX12_reply_144 : decode cX12_reply 144 = .ok (.iaload, 1) := by decide +kernel
theorem dX12_reply_145 : decode cX12_reply 145 = .ok (.iaload, 1) := by decide +kernel
theorem dX12_reply_146 : decode cX12_reply 146 = .ok (.aload_n 0, 1) := by decide +kernel
theorem dX12_reply_147 : decode cX12_reply 147 = .ok (.getfield 113, 3) := by decide +kernel
theorem dX12_reply_150 : decode cX12_reply 150 = .ok (.iload 5, 2) := by decide +kernel
theorem dX12_reply_152 : decode cX12_reply 152 = .ok (.iaload, 1) := by decide +kernel
theorem dX12_reply_153 : decode cX12_reply 153 = .ok (.invokevirtual 453, 3) := by decide +kernel
theorem dX12_reply_156 : decode cX12_reply 156 = .ok (.iastore, 1) := by decide +kernel
theorem dX12_reply_157 : decode cX12_reply 157 = .ok (.iinc 5 1, 3) := by decide +kernel
theorem dX12_reply_160 : decode cX12_reply 160 = .ok (.goto (-69), 3) := by decide +kernel
theorem dX12_reply_163 : decode cX12_reply 163 = .ok (.iinc 4 1, 3) := by decide +kernel
theorem dX12_reply_166 : decode cX12_reply 166 = .ok (.goto (-87), 3) := by decide +kernel
theorem dX12_reply_169 : decode cX12_reply 169 = .ok (.aload_n 0, 1) := by decide +kernel
theorem dX12_reply_170 : decode cX12_reply 170 = .ok (.getfield 116, 3) := by decide +kernel
theorem dX12_reply_173 : decode cX12_reply 173 = .ok (.iload_n 3, 1) := by decide +kernel
theorem dX12_reply_174 : decode cX12_reply 174 = .ok (.iaload, 1) := by decide +kernel
theorem dX12_reply_175 : decode cX12_reply 175 = .ok (.ldc_w 499, 3) := by decide +kernel
theorem dX12_reply_178 : decode cX12_reply 178 = .ok (.if_icmp .ne 7, 3) := by decide +kernel
theorem dX12_reply_181 : decode cX12_reply 181 = .ok (.iconst (-1), 1) := by decide +kernel
theorem dX12_reply_182 : decode cX12_reply 182 = .ok (.goto 9, 3) := by decide +kernel
theorem dX12_reply_185 : decode cX12_reply 185 = .ok (.aload_n 0, 1) := by decide +kernel
theorem dX12_reply_186 : decode cX12_reply 186 = .ok (.getfield 116, 3) := by decide +kernel
theorem dX12_reply_189 : decode cX12_reply 189 = .ok (.iload_n 3, 1) := by decide +kernel
theorem dX12_reply_190 : decode cX12_reply 190 = .ok (.iaload, 1) := by decide +kernel
theorem dX12_reply_191 : decode cX12_reply 191 = .ok (.ireturn, 1) := by decide +kernel
theorem dX12_family_0 : decode cX12_family 0 = .ok (.aload_n 0, 1) := by decide +kernel
theorem dX12_family_1 : decode cX12_family 1 = .ok (.iconst 0, 1) := by decide +kernel
theorem dX12_family_2 : decode cX12_family 2 = .ok (.putfield 183, 3) := by decide +kernel
theorem dX12_family_5 : decode cX12_family 5 = .ok (.iload_n 1, 1) := by decide +kernel
theorem dX12_family_6 : decode cX12_family 6 = .ok (.iconst (-1), 1) := by decide +kernel
theorem dX12_family_7 : decode cX12_family 7 = .ok (.if_icmp .ne 10, 3) := by decide +kernel
theorem dX12_family_10 : decode cX12_family 10 = .ok (.aload_n 0, 1) := by decide +kernel
theorem dX12_family_11 : decode cX12_family 11 = .ok (.iconst 0, 1) := by decide +kernel
theorem dX12_family_12 : decode cX12_family 12 = .ok (.putfield 500, 3) := by decide +kernel
theorem dX12_family_15 : decode cX12_family 15 = .ok (.iconst 0, 1) := by decide +kernel
theorem dX12_family_16 : decode cX12_family 16 = .ok (.ireturn, 1) := by decide +kernel
theorem dX12_family_17 : decode cX12_family 17 = .ok (.aload_n 0, 1) := by decide +kernel
theorem dX12_family_18 : decode cX12_family 18 = .ok (.iload_n 1, 1) := by decide +kernel
theorem dX12_family_19 : decode cX12_family 19 = .ok (.iconst 1, 1) := by decide +kernel
theorem dX12_family_20 : decode cX12_family 20 = .ok (.bipush 9, 2) := by decide +kernel
theorem dX12_family_22 : decode cX12_family 22 = .ok (.invokevirtual 206, 3) := by decide +kernel
theorem dX12_family_25 : decode cX12_family 25 = .ok (.ifCond .eq 12, 3) := by decide +kernel
theorem dX12_family_28 : decode cX12_family 28 = .ok (.aload_n 0, 1) := by decide +kernel
theorem dX12_family_29 : decode cX12_family 29 = .ok (.getfield 500, 3) := by decide +kernel
theorem dX12_family_32 : decode cX12_family 32 = .ok (.bipush 8, 2) := by decide +kernel
theorem dX12_family_34 : decode cX12_family 34 = .ok (.if_icmp .ne 5, 3) := by decide +kernel
theorem dX12_family_37 : decode cX12_family 37 = .ok (.iconst (-1), 1) := by decide +kernel
theorem dX12_family_38 : decode cX12_family 38 = .ok (.ireturn, 1) := by decide +kernel
theorem dX12_family_39 : decode cX12_family 39 = .ok (.aload_n 0, 1) := by decide +kernel
theorem dX12_family_40 : decode cX12_family 40 = .ok (.getfield 119, 3) := by decide +kernel
theorem dX12_family_43 : decode cX12_family 43 = .ok (.aload_n 0, 1) := by decide +kernel
theorem dX12_family_44 : decode cX12_family 44 = .ok (.getfield 500, 3) := by decide +kernel
theorem dX12_family_47 : decode cX12_family 47 = .ok (.iload_n 1, 1) := by decide +kernel
theorem dX12_family_48 : decode cX12_family 48 = .ok (.iastore, 1) := by decide +kernel
theorem dX12_family_49 : decode cX12_family 49 = .ok (.aload_n 0, 1) := by decide +kernel
theorem dX12_family_50 : decode cX12_family 50 = .ok (.aload_n 0, 1) := by decide +kernel
theorem dX12_family_51 : decode cX12_family 51 = .ok (.getfield 500, 3) := by decide +kernel
theorem dX12_family_54 : decode cX12_family 54 = .ok (.iconst 1, 1) := by decide +kernel
theorem dX12_family_55 : decode cX12_family 55 = .ok (.iadd, 1) := by decide +kernel
theorem dX12_family_56 : decode cX12_family 56 = .ok (.putfield 500, 3) := by decide +kernel
theorem dX12_family_59 : decode cX12_family 59 = .ok (.aload_n 0, 1) := by decide +kernel
theorem dX12_family_60 : decode cX12_family 60 = .ok (.getfield 500, 3) := by decide +kernel
theorem dX12_family_63 : decode cX12_family 63 = .ok (.ireturn, 1) := by decide +kernel
theorem dX12_withFamily_0 : decode cX12_withFamily 0 = .ok (.iload_n 1, 1) := by decide +kernel
theorem dX12_withFamily_1 : decode cX12_withFamily 1 = .ok (.bipush 100, 2) := by decide +kernel
theorem dX12_withFamily_3 : decode cX12_withFamily 3 = .ok (.idiv, 1) := by decide +kernel
theorem dX12_withFamily_4 : decode cX12_withFamily 4 = .ok (.istore 4, 2) := by decide +kernel
theorem dX12_withFamily_6 : decode cX12_withFamily 6 = .ok (.iload_n 1, 1) := by decide +kernel
theorem dX12_withFamily_7 : decode cX12_withFamily 7 = .ok (.bipush 100, 2) := by decide +kernel
theorem dX12_withFamily_9 : decode cX12_withFamily 9 = .ok (.irem, 1) := by decide +kernel
theorem dX12_withFamily_10 : decode cX12_withFamily 10 = .ok (.istore 5, 2) := by decide +kernel
theorem dX12_withFamily_12 : decode cX12_withFamily 12 = .ok (.iload 4, 2) := by decide +kernel
theorem dX12_withFamily_14 : decode cX12_withFamily 14 = .ok (.ifCond .le 24, 3) := by decide +kernel
theorem dX12_withFamily_17 : decode cX12_withFamily 17 = .ok (.iload 5, 2) := by decide +kernel
theorem dX12_withFamily_19 : decode cX12_withFamily 19 = .ok (.iload_n 2, 1) := by decide +kernel
theorem dX12_withFamily_20 : decode cX12_withFamily 20 = .ok (.iadd, 1) := by decide +kernel
theorem dX12_withFamily_21 : decode cX12_withFamily 21 = .ok (.iload_n 3, 1) := by decide +kernel
theorem dX12_withFamily_22 : decode cX12_withFamily 22 = .ok (.if_icmp .gt 16, 3) := by decide +kernel
theorem dX12_withFamily_25 : decode cX12_withFamily 25 = .ok (.bipush 100, 2) := by decide +kernel
theorem dX12_withFamily_27 : decode cX12_withFamily 27 = .ok (.iload 4, 2) := by decide +kernel
theorem dX12_withFamily_29 : decode cX12_withFamily 29 = .ok (.imul, 1) := by decide +kernel
theorem dX12_withFamily_30 : decode cX12_withFamily 30 = .ok (.iload 5, 2) := by decide +kernel
theorem dX12_withFamily_32 : decode cX12_withFamily 32 = .ok (.iadd, 1) := by decide +kernel
theorem dX12_withFamily_33 : decode cX12_withFamily 33 = .ok (.iload_n 2, 1) := by decide +kernel
theorem dX12_withFamily_34 : decode cX12_withFamily 34 = .ok (.iadd, 1) := by decide +kernel
theorem dX12_withFamily_35 : decode cX12_withFamily 35 = .ok (.goto 12, 3) := by decide +kernel
theorem dX12_withFamily_38 : decode cX12_withFamily 38 = .ok (.bipush 100, 2) := by decide +kernel
theorem dX12_withFamily_40 : decode cX12_withFamily 40 = .ok (.iload 4, 2) := by decide +kernel
theorem dX12_withFamily_42 : decode cX12_withFamily 42 = .ok (.iconst 1, 1) := by decide +kernel
theorem dX12_withFamily_43 : decode cX12_withFamily 43 = .ok (.iadd, 1) := by decide +kernel
theorem dX12_withFamily_44 : decode cX12_withFamily 44 = .ok (.imul, 1) := by decide +kernel
theorem dX12_withFamily_45 : decode cX12_withFamily 45 = .ok (.iload_n 2, 1) := by decide +kernel
theorem dX12_withFamily_46 : decode cX12_withFamily 46 = .ok (.iadd, 1) := by decide +kernel
theorem dX12_withFamily_47 : decode cX12_withFamily 47 = .ok (.ireturn, 1) := by decide +kernel
theorem dX12_fewestPorches_0 : decode cX12_fewestPorches 0 = .ok (.iconst 0, 1) := by decide +kernel
theorem dX12_fewestPorches_1 : decode cX12_fewestPorches 1 = .ok (.istore_n 2, 1) := by decide +kernel
theorem dX12_fewestPorches_2 : decode cX12_fewestPorches 2 = .ok (.iload_n 2, 1) := by decide +kernel
theorem dX12_fewestPorches_3 : decode cX12_fewestPorches 3 = .ok (.aload_n 0, 1) := by decide +kernel
theorem dX12_fewestPorches_4 : decode cX12_fewestPorches 4 = .ok (.getfield 500, 3) := by decide +kernel
theorem dX12_fewestPorches_7 : decode cX12_fewestPorches 7 = .ok (.if_icmp .ge 21, 3) := by decide +kernel
theorem dX12_fewestPorches_10 : decode cX12_fewestPorches 10 = .ok (.aload_n 0, 1) := by decide +kernel
theorem dX12_fewestPorches_11 : decode cX12_fewestPorches 11 = .ok (.getfield 119, 3) := by decide +kernel
theorem dX12_fewestPorches_14 : decode cX12_fewestPorches 14 = .ok (.iload_n 2, 1) := by decide +kernel
theorem dX12_fewestPorches_15 : decode cX12_fewestPorches 15 = .ok (.iaload, 1) := by decide +kernel
theorem dX12_fewestPorches_16 : decode cX12_fewestPorches 16 = .ok (.iload_n 1, 1) := by decide +kernel
theorem dX12_fewestPorches_17 : decode cX12_fewestPorches 17 = .ok (.if_icmp .le 5, 3) := by decide +kernel
theorem dX12_fewestPorches_20 : decode cX12_fewestPorches 20 = .ok (.iconst (-1), 1) := by decide +kernel
theorem dX12_fewestPorches_21 : decode cX12_fewestPorches 21 = .ok (.ireturn, 1) := by decide +kernel
theorem dX12_fewestPorches_22 : decode cX12_fewestPorches 22 = .ok (.iinc 2 1, 3) := by decide +kernel
theorem dX12_fewestPorches_25 : decode cX12_fewestPorches 25 = .ok (.goto (-23), 3) := by decide +kernel
theorem dX12_fewestPorches_28 : decode cX12_fewestPorches 28 = .ok (.aload_n 0, 1) := by decide +kernel
theorem dX12_fewestPorches_29 : decode cX12_fewestPorches 29 = .ok (.getfield 122, 3) := by decide +kernel
theorem dX12_fewestPorches_32 : decode cX12_fewestPorches 32 = .ok (.iconst 0, 1) := by decide +kernel
theorem dX12_fewestPorches_33 : decode cX12_fewestPorches 33 = .ok (.iconst 0, 1) := by decide +kernel
theorem dX12_fewestPorches_34 : decode cX12_fewestPorches 34 = .ok (.iastore, 1) := by decide +kernel
theorem dX12_fewestPorches_35 : decode cX12_fewestPorches 35 = .ok (.iconst 1, 1) := by decide +kernel
theorem dX12_fewestPorches_36 : decode cX12_fewestPorches 36 = .ok (.istore_n 2, 1) := by decide +kernel
theorem dX12_fewestPorches_37 : decode cX12_fewestPorches 37 = .ok (.iload_n 2, 1) := by decide +kernel
theorem dX12_fewestPorches_38 : decode cX12_fewestPorches 38 = .ok (.iconst 1, 1) := by decide +kernel
theorem dX12_fewestPorches_39 : decode cX12_fewestPorches 39 = .ok (.aload_n 0, 1) := by decide +kernel
theorem dX12_fewestPorches_40 : decode cX12_fewestPorches 40 = .ok (.getfield 500, 3) := by decide +kernel
theorem dX12_fewestPorches_43 : decode cX12_fewestPorches 43 = .ok (.ishl, 1) := by decide +kernel
theorem dX12_fewestPorches_44 : decode cX12_fewestPorches 44 = .ok (.if_icmp .ge 82, 3) := by decide +kernel
theorem dX12_fewestPorches_47 : decode cX12_fewestPorches 47 = .ok (.aload_n 0, 1) := by decide +kernel
theorem dX12_fewestPorches_48 : decode cX12_fewestPorches 48 = .ok (.getfield 122, 3) := by decide +kernel
theorem dX12_fewestPorches_51 : decode cX12_fewestPorches 51 = .ok (.iload_n 2, 1) := by decide +kernel
theorem dX12_fewestPorches_52 : decode cX12_fewestPorches 52 = .ok (.ldc_w 499, 3) := by decide +kernel
theorem dX12_fewestPorches_55 : decode cX12_fewestPorches 55 = .ok (.iastore, 1) := by decide +kernel
theorem dX12_fewestPorches_56 : decode cX12_fewestPorches 56 = .ok (.iconst 0, 1) := by decide +kernel
theorem dX12_fewestPorches_57 : decode cX12_fewestPorches 57 = .ok (.istore_n 3, 1) := by decide +kernel
theorem dX12_fewestPorches_58 : decode cX12_fewestPorches 58 = .ok (.iload_n 3, 1) := by decide +kernel
theorem dX12_fewestPorches_59 : decode cX12_fewestPorches 59 = .ok (.aload_n 0, 1) := by decide +kernel
theorem dX12_fewestPorches_60 : decode cX12_fewestPorches 60 = .ok (.getfield 500, 3) := by decide +kernel
theorem dX12_fewestPorches_63 : decode cX12_fewestPorches 63 = .ok (.if_icmp .ge 57, 3) := by decide +kernel
theorem dX12_fewestPorches_66 : decode cX12_fewestPorches 66 = .ok (.aload_n 0, 1) := by decide +kernel
theorem dX12_fewestPorches_67 : decode cX12_fewestPorches 67 = .ok (.iload_n 2, 1) := by decide +kernel
theorem dX12_fewestPorches_68 : decode cX12_fewestPorches 68 = .ok (.iload_n 3, 1) := by decide +kernel
theorem dX12_fewestPorches_69 : decode cX12_fewestPorches 69 = .ok (.invokevirtual 469, 3) := by decide +kernel
theorem dX12_fewestPorches_72 : decode cX12_fewestPorches 72 = .ok (.ifCond .eq 42, 3) := by decide +kernel
theorem dX12_fewestPorches_75 : decode cX12_fewestPorches 75 = .ok (.aload_n 0, 1) := by decide +kernel
theorem dX12_fewestPorches_76 : decode cX12_fewestPorches 76 = .ok (.getfield 122, 3) := by decide +kernel
theorem dX12_fewestPorches_79 : decode cX12_fewestPorches 79 = .ok (.iload_n 2, 1) := by decide +kernel
theorem dX12_fewestPorches_80 : decode cX12_fewestPorches 80 = .ok (.aload_n 0, 1) := by decide +kernel
theorem dX12_fewestPorches_81 : decode cX12_fewestPorches 81 = .ok (.aload_n 0, 1) := by decide +kernel
theorem dX12_fewestPorches_82 : decode cX12_fewestPorches 82 = .ok (.getfield 122, 3) := by decide +kernel
theorem dX12_fewestPorches_85 : decode cX12_fewestPorches 85 = .ok (.iload_n 2, 1) := by decide +kernel
theorem dX12_fewestPorches_86 : decode cX12_fewestPorches 86 = .ok (.iaload, 1) := by decide +kernel
theorem dX12_fewestPorches_87 : decode cX12_fewestPorches 87 = .ok (.aload_n 0, 1) := by decide +kernel
theorem dX12_fewestPorches_88 : decode cX12_fewestPorches 88 = .ok (.aload_n 0, 1) := by decide +kernel
theorem dX12_fewestPorches_89 : decode cX12_fewestPorches 89 = .ok (.getfield 122, 3) := by decide +kernel
theorem dX12_fewestPorches_92 : decode cX12_fewestPorches 92 = .ok (.iload_n 2, 1) := by decide +kernel
theorem dX12_fewestPorches_93 : decode cX12_fewestPorches 93 = .ok (.iconst 1, 1) := by decide +kernel
theorem dX12_fewestPorches_94 : decode cX12_fewestPorches 94 = .ok (.iload_n 3, 1) := by decide +kernel
theorem dX12_fewestPorches_95 : decode cX12_fewestPorches 95 = .ok (.ishl, 1) := by decide +kernel
theorem dX12_fewestPorches_96 : decode cX12_fewestPorches 96 = .ok (.iconst (-1), 1) := by decide +kernel
theorem dX12_fewestPorches_97 : decode cX12_fewestPorches 97 = .ok (.ixor, 1) := by decide +kernel
theorem dX12_fewestPorches_98 : decode cX12_fewestPorches 98 = .ok (.iand, 1) := by decide +kernel
theorem dX12_fewestPorches_99 : decode cX12_fewestPorches 99 = .ok (.iaload, 1) := by decide +kernel
theorem dX12_fewestPorches_100 : decode cX12_fewestPorches 100 = .ok (.aload_n 0, 1) := by decide +kernel
theorem dX12_fewestPorches_101 : decode cX12_fewestPorches 101 = .ok (.getfield 119, 3) := by decide +kernel
theorem dX12_fewestPorches_104 : decode cX12_fewestPorches 104 = .ok (.iload_n 3, 1) := by decide +kernel
theorem dX12_fewestPorches_105 : decode cX12_fewestPorches 105 = .ok (.iaload, 1) := by decide +kernel
theorem dX12_fewestPorches_106 : decode cX12_fewestPorches 106 = .ok (.iload_n 1, 1) := by decide +kernel
theorem dX12_fewestPorches_107 : decode cX12_fewestPorches 107 = .ok (.invokevirtual 503, 3) := by decide +kernel
theorem dX12_fewestPorches_110 : decode cX12_fewestPorches 110 = .ok (.invokevirtual 453, 3) := by decide +kernel
theorem dX12_fewestPorches_113 : decode cX12_fewestPorches 113 = .ok (.iastore, 1) := by decide +kernel
theorem dX12_fewestPorches_114 : decode cX12_fewestPorches 114 = .ok (.iinc 3 1, 3) := by decide +kernel
theorem dX12_fewestPorches_117 : decode cX12_fewestPorches 117 = .ok (.goto (-59), 3) := by decide +kernel
theorem dX12_fewestPorches_120 : decode cX12_fewestPorches 120 = .ok (.iinc 2 1, 3) := by decide +kernel
theorem dX12_fewestPorches_123 : decode cX12_fewestPorches 123 = .ok (.goto (-86), 3) := by decide +kernel
theorem dX12_fewestPorches_126 : decode cX12_fewestPorches 126 = .ok (.aload_n 0, 1) := by decide +kernel
theorem dX12_fewestPorches_127 : decode cX12_fewestPorches 127 = .ok (.getfield 122, 3) := by decide +kernel
theorem dX12_fewestPorches_130 : decode cX12_fewestPorches 130 = .ok (.iconst 1, 1) := by decide +kernel
theorem dX12_fewestPorches_131 : decode cX12_fewestPorches 131 = .ok (.aload_n 0, 1) := by decide +kernel
theorem dX12_fewestPorches_132 : decode cX12_fewestPorches 132 = .ok (.getfield 500, 3) := by decide +kernel
theorem dX12_fewestPorches_135 : decode cX12_fewestPorches 135 = .ok (.ishl, 1) := by decide +kernel
theorem dX12_fewestPorches_136 : decode cX12_fewestPorches 136 = .ok (.iconst 1, 1) := by decide +kernel
theorem dX12_fewestPorches_137 : decode cX12_fewestPorches 137 = .ok (.isub, 1) := by decide +kernel
theorem dX12_fewestPorches_138 : decode cX12_fewestPorches 138 = .ok (.iaload, 1) := by decide +kernel
theorem dX12_fewestPorches_139 : decode cX12_fewestPorches 139 = .ok (.bipush 100, 2) := by decide +kernel
theorem dX12_fewestPorches_141 : decode cX12_fewestPorches 141 = .ok (.idiv, 1) := by decide +kernel
theorem dX12_fewestPorches_142 : decode cX12_fewestPorches 142 = .ok (.ireturn, 1) := by decide +kernel
theorem dX12_isDry_0 : decode cX12_isDry 0 = .ok (.iconst 0, 1) := by decide +kernel
theorem dX12_isDry_1 : decode cX12_isDry 1 = .ok (.istore 4, 2) := by decide +kernel
theorem dX12_isDry_3 : decode cX12_isDry 3 = .ok (.iload 4, 2) := by decide +kernel
theorem dX12_isDry_5 : decode cX12_isDry 5 = .ok (.iconst 4, 1) := by decide +kernel
theorem dX12_isDry_6 : decode cX12_isDry 6 = .ok (.if_icmp .ge 17, 3) := by decide +kernel
theorem dX12_isDry_9 : decode cX12_isDry 9 = .ok (.aload_n 0, 1) := by decide +kernel
theorem dX12_isDry_10 : decode cX12_isDry 10 = .ok (.getfield 125, 3) := by decide +kernel
theorem dX12_isDry_13 : decode cX12_isDry 13 = .ok (.iload 4, 2) := by decide +kernel
theorem dX12_isDry_15 : decode cX12_isDry 15 = .ok (.iconst 0, 1) := by decide +kernel
theorem dX12_isDry_16 : decode cX12_isDry 16 = .ok (.iastore, 1) := by decide +kernel
theorem dX12_isDry_17 : decode cX12_isDry 17 = .ok (.iinc 4 1, 3) := by decide +kernel
theorem dX12_isDry_20 : decode cX12_isDry 20 = .ok (.goto (-17), 3) := by decide +kernel
theorem dX12_isDry_23 : decode cX12_isDry 23 = .ok (.iload_n 1, 1) := by decide +kernel
theorem dX12_isDry_24 : decode cX12_isDry 24 = .ok (.istore 4, 2) := by decide +kernel
theorem dX12_isDry_26 : decode cX12_isDry 26 = .ok (.iconst 0, 1) := by decide +kernel
theorem dX12_isDry_27 : decode cX12_isDry 27 = .ok (.istore 5, 2) := by decide +kernel
theorem dX12_isDry_29 : decode cX12_isDry 29 = .ok (.iload 5, 2) := by decide +kernel
theorem dX12_isDry_31 : decode cX12_isDry 31 = .ok (.aload_n 0, 1) := by decide +kernel
theorem dX12_isDry_32 : decode cX12_isDry 32 = .ok (.getfield 500, 3) := by decide +kernel
theorem dX12_isDry_35 : decode cX12_isDry 35 = .ok (.if_icmp .ge 56, 3) := by decide +kernel
theorem dX12_isDry_38 : decode cX12_isDry 38 = .ok (.aload_n 0, 1) := by decide +kernel
theorem dX12_isDry_39 : decode cX12_isDry 39 = .ok (.getfield 125, 3) := by decide +kernel
theorem dX12_isDry_42 : decode cX12_isDry 42 = .ok (.iload 4, 2) := by decide +kernel
theorem dX12_isDry_44 : decode cX12_isDry 44 = .ok (.iload_n 3, 1) := by decide +kernel
theorem dX12_isDry_45 : decode cX12_isDry 45 = .ok (.irem, 1) := by decide +kernel
theorem dX12_isDry_46 : decode cX12_isDry 46 = .ok (.aload_n 0, 1) := by decide +kernel
theorem dX12_isDry_47 : decode cX12_isDry 47 = .ok (.getfield 125, 3) := by decide +kernel
theorem dX12_isDry_50 : decode cX12_isDry 50 = .ok (.iload 4, 2) := by decide +kernel
theorem dX12_isDry_52 : decode cX12_isDry 52 = .ok (.iload_n 3, 1) := by decide +kernel
theorem dX12_isDry_53 : decode cX12_isDry 53 = .ok (.irem, 1) := by decide +kernel
theorem dX12_isDry_54 : decode cX12_isDry 54 = .ok (.iaload, 1) := by decide +kernel
theorem dX12_isDry_55 : decode cX12_isDry 55 = .ok (.aload_n 0, 1) := by decide +kernel
theorem dX12_isDry_56 : decode cX12_isDry 56 = .ok (.getfield 119, 3) := by decide +kernel
theorem dX12_isDry_59 : decode cX12_isDry 59 = .ok (.iload 5, 2) := by decide +kernel
theorem dX12_isDry_61 : decode cX12_isDry 61 = .ok (.iaload, 1) := by decide +kernel
theorem dX12_isDry_62 : decode cX12_isDry 62 = .ok (.iadd, 1) := by decide +kernel
theorem dX12_isDry_63 : decode cX12_isDry 63 = .ok (.iastore, 1) := by decide +kernel
theorem dX12_isDry_64 : decode cX12_isDry 64 = .ok (.aload_n 0, 1) := by decide +kernel
theorem dX12_isDry_65 : decode cX12_isDry 65 = .ok (.getfield 125, 3) := by decide +kernel
theorem dX12_isDry_68 : decode cX12_isDry 68 = .ok (.iload 4, 2) := by decide +kernel
theorem dX12_isDry_70 : decode cX12_isDry 70 = .ok (.iload_n 3, 1) := by decide +kernel
theorem dX12_isDry_71 : decode cX12_isDry 71 = .ok (.irem, 1) := by decide +kernel
theorem dX12_isDry_72 : decode cX12_isDry 72 = .ok (.iaload, 1) := by decide +kernel
theorem dX12_isDry_73 : decode cX12_isDry 73 = .ok (.iload_n 2, 1) := by decide +kernel
theorem dX12_isDry_74 : decode cX12_isDry 74 = .ok (.if_icmp .le 5, 3) := by decide +kernel
theorem dX12_isDry_77 : decode cX12_isDry 77 = .ok (.iconst 0, 1) := by decide +kernel
theorem dX12_isDry_78 : decode cX12_isDry 78 = .ok (.ireturn, 1) := by decide +kernel
theorem dX12_isDry_79 : decode cX12_isDry 79 = .ok (.iload 4, 2) := by decide +kernel
theorem dX12_isDry_81 : decode cX12_isDry 81 = .ok (.iload_n 3, 1) := by decide +kernel
theorem dX12_isDry_82 : decode cX12_isDry 82 = .ok (.idiv, 1) := by decide +kernel
theorem dX12_isDry_83 : decode cX12_isDry 83 = .ok (.istore 4, 2) := by decide +kernel
theorem dX12_isDry_85 : decode cX12_isDry 85 = .ok (.iinc 5 1, 3) := by decide +kernel
theorem dX12_isDry_88 : decode cX12_isDry 88 = .ok (.goto (-59), 3) := by decide +kernel
theorem dX12_isDry_91 : decode cX12_isDry 91 = .ok (.iconst 1, 1) := by decide +kernel
theorem dX12_isDry_92 : decode cX12_isDry 92 = .ok (.ireturn, 1) := by decide +kernel
theorem dX12_storm_0 : decode cX12_storm 0 = .ok (.aload_n 0, 1) := by decide +kernel
theorem dX12_storm_1 : decode cX12_storm 1 = .ok (.iconst 0, 1) := by decide +kernel
theorem dX12_storm_2 : decode cX12_storm 2 = .ok (.putfield 183, 3) := by decide +kernel
theorem dX12_storm_5 : decode cX12_storm 5 = .ok (.aload_n 0, 1) := by decide +kernel
theorem dX12_storm_6 : decode cX12_storm 6 = .ok (.iload_n 1, 1) := by decide +kernel
theorem dX12_storm_7 : decode cX12_storm 7 = .ok (.iconst 1, 1) := by decide +kernel
theorem dX12_storm_8 : decode cX12_storm 8 = .ok (.bipush 30, 2) := by decide +kernel
theorem dX12_storm_10 : decode cX12_storm 10 = .ok (.invokevirtual 206, 3) := by decide +kernel
theorem dX12_storm_13 : decode cX12_storm 13 = .ok (.ifCond .eq 18, 3) := by decide +kernel
theorem dX12_storm_16 : decode cX12_storm 16 = .ok (.iload_n 2, 1) := by decide +kernel
theorem dX12_storm_17 : decode cX12_storm 17 = .ok (.iconst (-1), 1) := by decide +kernel
theorem dX12_storm_18 : decode cX12_storm 18 = .ok (.if_icmp .eq 15, 3) := by decide +kernel
theorem dX12_storm_21 : decode cX12_storm 21 = .ok (.aload_n 0, 1) := by decide +kernel
theorem dX12_storm_22 : decode cX12_storm 22 = .ok (.iload_n 2, 1) := by decide +kernel
theorem dX12_storm_23 : decode cX12_storm 23 = .ok (.iconst 1, 1) := by decide +kernel
theorem dX12_storm_24 : decode cX12_storm 24 = .ok (.iconst 4, 1) := by decide +kernel
theorem dX12_storm_25 : decode cX12_storm 25 = .ok (.invokevirtual 206, 3) := by decide +kernel
theorem dX12_storm_28 : decode cX12_storm 28 = .ok (.ifCond .ne 5, 3) := by decide +kernel
theorem dX12_storm_31 : decode cX12_storm 31 = .ok (.iconst (-1), 1) := by decide +kernel
theorem dX12_storm_32 : decode cX12_storm 32 = .ok (.ireturn, 1) := by decide +kernel
theorem dX12_storm_33 : decode cX12_storm 33 = .ok (.iload_n 2, 1) := by decide +kernel
theorem dX12_storm_34 : decode cX12_storm 34 = .ok (.iconst (-1), 1) := by decide +kernel
theorem dX12_storm_35 : decode cX12_storm 35 = .ok (.if_icmp .ne 9, 3) := by decide +kernel
theorem dX12_storm_38 : decode cX12_storm 38 = .ok (.aload_n 0, 1) := by decide +kernel
theorem dX12_storm_39 : decode cX12_storm 39 = .ok (.iload_n 1, 1) := by decide +kernel
theorem dX12_storm_40 : decode cX12_storm 40 = .ok (.invokevirtual 506, 3) := by decide +kernel
theorem dX12_storm_43 : decode cX12_storm 43 = .ok (.ireturn, 1) := by decide +kernel
theorem dX12_storm_44 : decode cX12_storm 44 = .ok (.iconst 1, 1) := by decide +kernel
theorem dX12_storm_45 : decode cX12_storm 45 = .ok (.istore_n 3, 1) := by decide +kernel
theorem dX12_storm_46 : decode cX12_storm 46 = .ok (.iconst 0, 1) := by decide +kernel
theorem dX12_storm_47 : decode cX12_storm 47 = .ok (.istore 4, 2) := by decide +kernel
theorem dX12_storm_49 : decode cX12_storm 49 = .ok (.iload 4, 2) := by decide +kernel
theorem dX12_storm_51 : decode cX12_storm 51 = .ok (.aload_n 0, 1) := by decide +kernel
theorem dX12_storm_52 : decode cX12_storm 52 = .ok (.getfield 500, 3) := by decide +kernel
theorem dX12_storm_55 : decode cX12_storm 55 = .ok (.if_icmp .ge 13, 3) := by decide +kernel
theorem dX12_storm_58 : decode cX12_storm 58 = .ok (.iload_n 3, 1) := by decide +kernel
theorem dX12_storm_59 : decode cX12_storm 59 = .ok (.iload_n 2, 1) := by decide +kernel
theorem dX12_storm_60 : decode cX12_storm 60 = .ok (.imul, 1) := by decide +kernel
theorem dX12_storm_61 : decode cX12_storm 61 = .ok (.istore_n 3, 1) := by decide +kernel
theorem dX12_storm_62 : decode cX12_storm 62 = .ok (.iinc 4 1, 3) := by decide +kernel
theorem dX12_storm_65 : decode cX12_storm 65 = .ok (.goto (-16), 3) := by decide +kernel
theorem dX12_storm_68 : decode cX12_storm 68 = .ok (.iconst 0, 1) := by decide +kernel
theorem dX12_storm_69 : decode cX12_storm 69 = .ok (.istore 4, 2) := by decide +kernel
theorem dX12_storm_71 : decode cX12_storm 71 = .ok (.iconst 0, 1) := by decide +kernel
theorem dX12_storm_72 : decode cX12_storm 72 = .ok (.istore 5, 2) := by decide +kernel
theorem dX12_storm_74 : decode cX12_storm 74 = .ok (.iload 5, 2) := by decide +kernel
theorem dX12_storm_76 : decode cX12_storm 76 = .ok (.iload_n 3, 1) := by decide +kernel
theorem dX12_storm_77 : decode cX12_storm 77 = .ok (.if_icmp .ge 26, 3) := by decide +kernel
theorem dX12_storm_80 : decode cX12_storm 80 = .ok (.aload_n 0, 1) := by decide +kernel
theorem dX12_storm_81 : decode cX12_storm 81 = .ok (.iload 5, 2) := by decide +kernel
theorem dX12_storm_83 : decode cX12_storm 83 = .ok (.iload_n 1, 1) := by decide +kernel
theorem dX12_storm_84 : decode cX12_storm 84 = .ok (.iload_n 2, 1) := by decide +kernel
theorem dX12_storm_85 : decode cX12_storm 85 = .ok (.invokevirtual 509, 3) := by decide +kernel
theorem dX12_storm_88 : decode cX12_storm 88 = .ok (.ifCond .eq 9, 3) := by decide +kernel
theorem dX12_storm_91 : decode cX12_storm 91 = .ok (.iload 4, 2) := by decide +kernel
theorem dX12_storm_93 : decode cX12_storm 93 = .ok (.iconst 1, 1) := by decide +kernel
theorem dX12_storm_94 : decode cX12_storm 94 = .ok (.iadd, 1) := by decide +kernel
theorem dX12_storm_95 : decode cX12_storm 95 = .ok (.istore 4, 2) := by decide +kernel
theorem dX12_storm_97 : decode cX12_storm 97 = .ok (.iinc 5 1, 3) := by decide +kernel
theorem dX12_storm_100 : decode cX12_storm 100 = .ok (.goto (-26), 3) := by decide +kernel
theorem dX12_storm_103 : decode cX12_storm 103 = .ok (.iload 4, 2) := by decide +kernel
theorem dX12_storm_105 : decode cX12_storm 105 = .ok (.ireturn, 1) := by decide +kernel
theorem dX12_board_0 : decode cX12_board 0 = .ok (.aload_n 0, 1) := by decide +kernel
theorem dX12_board_1 : decode cX12_board 1 = .ok (.iconst 0, 1) := by decide +kernel
theorem dX12_board_2 : decode cX12_board 2 = .ok (.putfield 183, 3) := by decide +kernel
theorem dX12_board_5 : decode cX12_board 5 = .ok (.iload_n 1, 1) := by decide +kernel
theorem dX12_board_6 : decode cX12_board 6 = .ok (.iconst (-1), 1) := by decide +kernel
theorem dX12_board_7 : decode cX12_board 7 = .ok (.if_icmp .ne 10, 3) := by decide +kernel
theorem dX12_board_10 : decode cX12_board 10 = .ok (.aload_n 0, 1) := by decide +kernel
theorem dX12_board_11 : decode cX12_board 11 = .ok (.iconst 0, 1) := by decide +kernel
theorem dX12_board_12 : decode cX12_board 12 = .ok (.putfield 512, 3) := by decide +kernel
theorem dX12_board_15 : decode cX12_board 15 = .ok (.iconst 0, 1) := by decide +kernel
theorem dX12_board_16 : decode cX12_board 16 = .ok (.ireturn, 1) := by decide +kernel
theorem dX12_board_17 : decode cX12_board 17 = .ok (.aload_n 0, 1) := by decide +kernel
theorem dX12_board_18 : decode cX12_board 18 = .ok (.iload_n 1, 1) := by decide +kernel
theorem dX12_board_19 : decode cX12_board 19 = .ok (.iconst 0, 1) := by decide +kernel
theorem dX12_board_20 : decode cX12_board 20 = .ok (.bipush 99, 2) := by decide +kernel
theorem dX12_board_22 : decode cX12_board 22 = .ok (.invokevirtual 206, 3) := by decide +kernel
theorem dX12_board_25 : decode cX12_board 25 = .ok (.ifCond .eq 12, 3) := by decide +kernel
theorem dX12_board_28 : decode cX12_board 28 = .ok (.aload_n 0, 1) := by decide +kernel
theorem dX12_board_29 : decode cX12_board 29 = .ok (.getfield 512, 3) := by decide +kernel
theorem dX12_board_32 : decode cX12_board 32 = .ok (.bipush 12, 2) := by decide +kernel
theorem dX12_board_34 : decode cX12_board 34 = .ok (.if_icmp .ne 5, 3) := by decide +kernel
theorem dX12_board_37 : decode cX12_board 37 = .ok (.iconst (-1), 1) := by decide +kernel
theorem dX12_board_38 : decode cX12_board 38 = .ok (.ireturn, 1) := by decide +kernel
theorem dX12_board_39 : decode cX12_board 39 = .ok (.aload_n 0, 1) := by decide +kernel
theorem dX12_board_40 : decode cX12_board 40 = .ok (.getfield 128, 3) := by decide +kernel
theorem dX12_board_43 : decode cX12_board 43 = .ok (.aload_n 0, 1) := by decide +kernel
theorem dX12_board_44 : decode cX12_board 44 = .ok (.getfield 512, 3) := by decide +kernel
theorem dX12_board_47 : decode cX12_board 47 = .ok (.iload_n 1, 1) := by decide +kernel
theorem dX12_board_48 : decode cX12_board 48 = .ok (.iastore, 1) := by decide +kernel
theorem dX12_board_49 : decode cX12_board 49 = .ok (.aload_n 0, 1) := by decide +kernel
theorem dX12_board_50 : decode cX12_board 50 = .ok (.aload_n 0, 1) := by decide +kernel
theorem dX12_board_51 : decode cX12_board 51 = .ok (.getfield 512, 3) := by decide +kernel
theorem dX12_board_54 : decode cX12_board 54 = .ok (.iconst 1, 1) := by decide +kernel
theorem dX12_board_55 : decode cX12_board 55 = .ok (.iadd, 1) := by decide +kernel
theorem dX12_board_56 : decode cX12_board 56 = .ok (.putfield 512, 3) := by decide +kernel
theorem dX12_board_59 : decode cX12_board 59 = .ok (.aload_n 0, 1) := by decide +kernel
theorem dX12_board_60 : decode cX12_board 60 = .ok (.getfield 512, 3) := by decide +kernel
theorem dX12_board_63 : decode cX12_board 63 = .ok (.ireturn, 1) := by decide +kernel
theorem dX12_levelled_0 : decode cX12_levelled 0 = .ok (.iconst 0, 1) := by decide +kernel
theorem dX12_levelled_1 : decode cX12_levelled 1 = .ok (.istore_n 1, 1) := by decide +kernel
theorem dX12_levelled_2 : decode cX12_levelled 2 = .ok (.iconst 0, 1) := by decide +kernel
theorem dX12_levelled_3 : decode cX12_levelled 3 = .ok (.istore_n 2, 1) := by decide +kernel
theorem dX12_levelled_4 : decode cX12_levelled 4 = .ok (.iload_n 2, 1) := by decide +kernel
theorem dX12_levelled_5 : decode cX12_levelled 5 = .ok (.aload_n 0, 1) := by decide +kernel
theorem dX12_levelled_6 : decode cX12_levelled 6 = .ok (.getfield 512, 3) := by decide +kernel
theorem dX12_levelled_9 : decode cX12_levelled 9 = .ok (.if_icmp .ge 18, 3) := by decide +kernel
theorem dX12_levelled_12 : decode cX12_levelled 12 = .ok (.iload_n 1, 1) := by decide +kernel
theorem dX12_levelled_13 : decode cX12_levelled 13 = .ok (.aload_n 0, 1) := by decide +kernel
theorem dX12_levelled_14 : decode cX12_levelled 14 = .ok (.getfield 128, 3) := by decide +kernel
theorem dX12_levelled_17 : decode cX12_levelled 17 = .ok (.iload_n 2, 1) := by decide +kernel
theorem dX12_levelled_18 : decode cX12_levelled 18 = .ok (.iaload, 1) := by decide +kernel
theorem dX12_levelled_19 : decode cX12_levelled 19 = .ok (.iadd, 1) := by decide +kernel
theorem dX12_levelled_20 : decode cX12_levelled 20 = .ok (.istore_n 1, 1) := by decide +kernel
theorem dX12_levelled_21 : decode cX12_levelled 21 = .ok (.iinc 2 1, 3) := by decide +kernel
theorem dX12_levelled_24 : decode cX12_levelled 24 = .ok (.goto (-20), 3) := by decide +kernel
theorem dX12_levelled_27 : decode cX12_levelled 27 = .ok (.aload_n 0, 1) := by decide +kernel
theorem dX12_levelled_28 : decode cX12_levelled 28 = .ok (.getfield 512, 3) := by decide +kernel
theorem dX12_levelled_31 : decode cX12_levelled 31 = .ok (.ifCond .ne 5, 3) := by decide +kernel
theorem dX12_levelled_34 : decode cX12_levelled 34 = .ok (.iconst 0, 1) := by decide +kernel
theorem dX12_levelled_35 : decode cX12_levelled 35 = .ok (.ireturn, 1) := by decide +kernel
theorem dX12_levelled_36 : decode cX12_levelled 36 = .ok (.iload_n 1, 1) := by decide +kernel
theorem dX12_levelled_37 : decode cX12_levelled 37 = .ok (.aload_n 0, 1) := by decide +kernel
theorem dX12_levelled_38 : decode cX12_levelled 38 = .ok (.getfield 512, 3) := by decide +kernel
theorem dX12_levelled_41 : decode cX12_levelled 41 = .ok (.irem, 1) := by decide +kernel
theorem dX12_levelled_42 : decode cX12_levelled 42 = .ok (.ifCond .eq 5, 3) := by decide +kernel
theorem dX12_levelled_45 : decode cX12_levelled 45 = .ok (.iconst (-1), 1) := by decide +kernel
theorem dX12_levelled_46 : decode cX12_levelled 46 = .ok (.ireturn, 1) := by decide +kernel
theorem dX12_levelled_47 : decode cX12_levelled 47 = .ok (.iconst 0, 1) := by decide +kernel
theorem dX12_levelled_48 : decode cX12_levelled 48 = .ok (.istore_n 2, 1) := by decide +kernel
theorem dX12_levelled_49 : decode cX12_levelled 49 = .ok (.iconst 0, 1) := by decide +kernel
theorem dX12_levelled_50 : decode cX12_levelled 50 = .ok (.istore_n 3, 1) := by decide +kernel
theorem dX12_levelled_51 : decode cX12_levelled 51 = .ok (.iconst 0, 1) := by decide +kernel
theorem dX12_levelled_52 : decode cX12_levelled 52 = .ok (.istore 4, 2) := by decide +kernel
theorem dX12_levelled_54 : decode cX12_levelled 54 = .ok (.iload 4, 2) := by decide +kernel
theorem dX12_levelled_56 : decode cX12_levelled 56 = .ok (.aload_n 0, 1) := by decide +kernel
theorem dX12_levelled_57 : decode cX12_levelled 57 = .ok (.getfield 512, 3) := by decide +kernel
theorem dX12_levelled_60 : decode cX12_levelled 60 = .ok (.if_icmp .ge 35, 3) := by decide +kernel
theorem dX12_levelled_63 : decode cX12_levelled 63 = .ok (.iload_n 3, 1) := by decide +kernel
theorem dX12_levelled_64 : decode cX12_levelled 64 = .ok (.aload_n 0, 1) := by decide +kernel
theorem dX12_levelled_65 : decode cX12_levelled 65 = .ok (.getfield 128, 3) := by decide +kernel
theorem dX12_levelled_68 : decode cX12_levelled 68 = .ok (.iload 4, 2) := by decide +kernel
theorem dX12_levelled_70 : decode cX12_levelled 70 = .ok (.iaload, 1) := by decide +kernel
theorem dX12_levelled_71 : decode cX12_levelled 71 = .ok (.iadd, 1) := by decide +kernel
theorem dX12_levelled_72 : decode cX12_levelled 72 = .ok (.iload_n 1, 1) := by decide +kernel
theorem dX12_levelled_73 : decode cX12_levelled 73 = .ok (.aload_n 0, 1) := by decide +kernel
theorem dX12_levelled_74 : decode cX12_levelled 74 = .ok (.getfield 512, 3) := by decide +kernel
theorem dX12_levelled_77 : decode cX12_levelled 77 = .ok (.idiv, 1) := by decide +kernel
theorem dX12_levelled_78 : decode cX12_levelled 78 = .ok (.isub, 1) := by decide +kernel
theorem dX12_levelled_79 : decode cX12_levelled 79 = .ok (.istore_n 3, 1) := by decide +kernel
theorem dX12_levelled_80 : decode cX12_levelled 80 = .ok (.iload_n 2, 1) := by decide +kernel
theorem dX12_levelled_81 : decode cX12_levelled 81 = .ok (.aload_n 0, 1) := by decide +kernel
theorem dX12_levelled_82 : decode cX12_levelled 82 = .ok (.iload_n 3, 1) := by decide +kernel
theorem dX12_levelled_83 : decode cX12_levelled 83 = .ok (.iconst 0, 1) := by decide +kernel
theorem dX12_levelled_84 : decode cX12_levelled 84 = .ok (.invokevirtual 515, 3) := by decide +kernel
theorem dX12_levelled_87 : decode cX12_levelled 87 = .ok (.iadd, 1) := by decide +kernel
theorem dX12_levelled_88 : decode cX12_levelled 88 = .ok (.istore_n 2, 1) := by decide +kernel
theorem dX12_levelled_89 : decode cX12_levelled 89 = .ok (.iinc 4 1, 3) := by decide +kernel
theorem dX12_levelled_92 : decode cX12_levelled 92 = .ok (.goto (-38), 3) := by decide +kernel
theorem dX12_levelled_95 : decode cX12_levelled 95 = .ok (.iload_n 2, 1) := by decide +kernel
theorem dX12_levelled_96 : decode cX12_levelled 96 = .ok (.ireturn, 1) := by decide +kernel
theorem dX12_ditch_0 : decode cX12_ditch 0 = .ok (.iconst 0, 1) := by decide +kernel
theorem dX12_ditch_1 : decode cX12_ditch 1 = .ok (.istore_n 1, 1) := by decide +kernel
theorem dX12_ditch_2 : decode cX12_ditch 2 = .ok (.iconst 0, 1) := by decide +kernel
theorem dX12_ditch_3 : decode cX12_ditch 3 = .ok (.istore_n 2, 1) := by decide +kernel
theorem dX12_ditch_4 : decode cX12_ditch 4 = .ok (.iload_n 2, 1) := by decide +kernel
theorem dX12_ditch_5 : decode cX12_ditch 5 = .ok (.aload_n 0, 1) := by decide +kernel
theorem dX12_ditch_6 : decode cX12_ditch 6 = .ok (.getfield 512, 3) := by decide +kernel
theorem dX12_ditch_9 : decode cX12_ditch 9 = .ok (.if_icmp .ge 89, 3) := by decide +kernel
theorem dX12_ditch_12 : decode cX12_ditch 12 = .ok (.iconst 0, 1) := by decide +kernel
theorem dX12_ditch_13 : decode cX12_ditch 13 = .ok (.istore_n 3, 1) := by decide +kernel
theorem dX12_ditch_14 : decode cX12_ditch 14 = .ok (.iconst 0, 1) := by decide +kernel
theorem dX12_ditch_15 : decode cX12_ditch 15 = .ok (.istore 4, 2) := by decide +kernel
theorem dX12_ditch_17 : decode cX12_ditch 17 = .ok (.iconst 0, 1) := by decide +kernel
theorem dX12_ditch_18 : decode cX12_ditch 18 = .ok (.istore 5, 2) := by decide +kernel
theorem dX12_ditch_20 : decode cX12_ditch 20 = .ok (.iload 5, 2) := by decide +kernel
theorem dX12_ditch_22 : decode cX12_ditch 22 = .ok (.aload_n 0, 1) := by decide +kernel
theorem dX12_ditch_23 : decode cX12_ditch 23 = .ok (.getfield 512, 3) := by decide +kernel
theorem dX12_ditch_26 : decode cX12_ditch 26 = .ok (.if_icmp .ge 49, 3) := by decide +kernel
theorem dX12_ditch_29 : decode cX12_ditch 29 = .ok (.iload 5, 2) := by decide +kernel
theorem dX12_ditch_31 : decode cX12_ditch 31 = .ok (.iload_n 2, 1) := by decide +kernel
theorem dX12_ditch_32 : decode cX12_ditch 32 = .ok (.if_icmp .gt 16, 3) := by decide +kernel
theorem dX12_ditch_35 : decode cX12_ditch 35 = .ok (.aload_n 0, 1) := by decide +kernel
theorem dX12_ditch_36 : decode cX12_ditch 36 = .ok (.iload_n 3, 1) := by decide +kernel
theorem dX12_ditch_37 : decode cX12_ditch 37 = .ok (.aload_n 0, 1) := by decide +kernel
theorem dX12_ditch_38 : decode cX12_ditch 38 = .ok (.getfield 128, 3) := by decide +kernel
theorem dX12_ditch_41 : decode cX12_ditch 41 = .ok (.iload 5, 2) := by decide +kernel
theorem dX12_ditch_43 : decode cX12_ditch 43 = .ok (.iaload, 1) := by decide +kernel
theorem dX12_ditch_44 : decode cX12_ditch 44 = .ok (.invokevirtual 493, 3) := by decide +kernel
theorem dX12_ditch_47 : decode cX12_ditch 47 = .ok (.istore_n 3, 1) := by decide +kernel
theorem dX12_ditch_48 : decode cX12_ditch 48 = .ok (.iload 5, 2) := by decide +kernel
theorem dX12_ditch_50 : decode cX12_ditch 50 = .ok (.iload_n 2, 1) := by decide +kernel
theorem dX12_ditch_51 : decode cX12_ditch 51 = .ok (.if_icmp .lt 18, 3) := by decide +kernel
theorem dX12_ditch_54 : decode cX12_ditch 54 = .ok (.aload_n 0, 1) := by decide +kernel
theorem dX12_ditch_55 : decode cX12_ditch 55 = .ok (.iload 4, 2) := by decide +kernel
theorem dX12_ditch_57 : decode cX12_ditch 57 = .ok (.aload_n 0, 1) := by decide +kernel
theorem dX12_ditch_58 : decode cX12_ditch 58 = .ok (.getfield 128, 3) := by decide +kernel
theorem dX12_ditch_61 : decode cX12_ditch 61 = .ok (.iload 5, 2) := by decide +kernel
theorem dX12_ditch_63 : decode cX12_ditch 63 = .ok (.iaload, 1) := by decide +kernel
theorem dX12_ditch_64 : decode cX12_ditch 64 = .ok (.invokevirtual 493, 3) := by decide +kernel
theorem dX12_ditch_67 : decode cX12_ditch 67 = .ok (.istore 4, 2) := by decide +kernel
theorem dX12_ditch_69 : decode cX12_ditch 69 = .ok (.iinc 5 1, 3) := by decide +kernel
theorem dX12_ditch_72 : decode cX12_ditch 72 = .ok (.goto (-52), 3) := by decide +kernel
theorem dX12_ditch_75 : decode cX12_ditch 75 = .ok (.iload_n 1, 1) := by decide +kernel
theorem dX12_ditch_76 : decode cX12_ditch 76 = .ok (.aload_n 0, 1) := by decide +kernel
theorem dX12_ditch_77 : decode cX12_ditch 77 = .ok (.iload_n 3, 1) := by decide +kernel
theorem dX12_ditch_78 : decode cX12_ditch 78 = .ok (.iload 4, 2) := by decide +kernel
theorem dX12_ditch_80 : decode cX12_ditch 80 = .ok (.invokevirtual 453, 3) := by decide +kernel
theorem dX12_ditch_83 : decode cX12_ditch 83 = .ok (.iadd, 1) := by decide +kernel
theorem dX12_ditch_84 : decode cX12_ditch 84 = .ok (.aload_n 0, 1) := by decide +kernel
theorem dX12_ditch_85 : decode cX12_ditch 85 = .ok (.getfield 128, 3) := by decide +kernel
theorem dX12_ditch_88 : decode cX12_ditch 88 = .ok (.iload_n 2, 1) := by decide +kernel
theorem dX12_ditch_89 : decode cX12_ditch 89 = .ok (.iaload, 1) := by decide +kernel
theorem dX12_ditch_90 : decode cX12_ditch 90 = .ok (.isub, 1) := by decide +kernel
theorem dX12_ditch_91 : decode cX12_ditch 91 = .ok (.istore_n 1, 1) := by decide +kernel
theorem dX12_ditch_92 : decode cX12_ditch 92 = .ok (.iinc 2 1, 3) := by decide +kernel
theorem dX12_ditch_95 : decode cX12_ditch 95 = .ok (.goto (-91), 3) := by decide +kernel
theorem dX12_ditch_98 : decode cX12_ditch 98 = .ok (.iload_n 1, 1) := by decide +kernel
theorem dX12_ditch_99 : decode cX12_ditch 99 = .ok (.ireturn, 1) := by decide +kernel
theorem dX12_level_0 : decode cX12_level 0 = .ok (.aload_n 0, 1) := by decide +kernel
theorem dX12_level_1 : decode cX12_level 1 = .ok (.iconst 0, 1) := by decide +kernel
theorem dX12_level_2 : decode cX12_level 2 = .ok (.putfield 183, 3) := by decide +kernel
theorem dX12_level_5 : decode cX12_level 5 = .ok (.iload_n 1, 1) := by decide +kernel
theorem dX12_level_6 : decode cX12_level 6 = .ok (.ifCond .ne 10, 3) := by decide +kernel
theorem dX12_level_9 : decode cX12_level 9 = .ok (.aload_n 0, 1) := by decide +kernel
theorem dX12_level_10 : decode cX12_level 10 = .ok (.invokevirtual 518, 3) := by decide +kernel
theorem dX12_level_13 : decode cX12_level 13 = .ok (.goto 16, 3) := by decide +kernel
theorem dX12_level_16 : decode cX12_level 16 = .ok (.iload_n 1, 1) := by decide +kernel
theorem dX12_level_17 : decode cX12_level 17 = .ok (.iconst 1, 1) := by decide +kernel
theorem dX12_level_18 : decode cX12_level 18 = .ok (.if_icmp .ne 10, 3) := by decide +kernel
theorem dX12_level_21 : decode cX12_level 21 = .ok (.aload_n 0, 1) := by decide +kernel
theorem dX12_level_22 : decode cX12_level 22 = .ok (.invokevirtual 521, 3) := by decide +kernel
theorem dX12_level_25 : decode cX12_level 25 = .ok (.goto 4, 3) := by decide +kernel
theorem dX12_level_28 : decode cX12_level 28 = .ok (.iconst (-1), 1) := by decide +kernel
theorem dX12_level_29 : decode cX12_level 29 = .ok (.ireturn, 1) := by decide +kernel
theorem dX12_talk_0 : decode cX12_talk 0 = .ok (.aload_n 0, 1) := by decide +kernel
theorem dX12_talk_1 : decode cX12_talk 1 = .ok (.iconst 0, 1) := by decide +kernel
theorem dX12_talk_2 : decode cX12_talk 2 = .ok (.putfield 183, 3) := by decide +kernel
theorem dX12_talk_5 : decode cX12_talk 5 = .ok (.iload_n 1, 1) := by decide +kernel
theorem dX12_talk_6 : decode cX12_talk 6 = .ok (.iconst (-1), 1) := by decide +kernel
theorem dX12_talk_7 : decode cX12_talk 7 = .ok (.if_icmp .ne 10, 3) := by decide +kernel
theorem dX12_talk_10 : decode cX12_talk 10 = .ok (.aload_n 0, 1) := by decide +kernel
theorem dX12_talk_11 : decode cX12_talk 11 = .ok (.iconst 0, 1) := by decide +kernel
theorem dX12_talk_12 : decode cX12_talk 12 = .ok (.putfield 524, 3) := by decide +kernel
theorem dX12_talk_15 : decode cX12_talk 15 = .ok (.iconst 0, 1) := by decide +kernel
theorem dX12_talk_16 : decode cX12_talk 16 = .ok (.ireturn, 1) := by decide +kernel
theorem dX12_talk_17 : decode cX12_talk 17 = .ok (.aload_n 0, 1) := by decide +kernel
theorem dX12_talk_18 : decode cX12_talk 18 = .ok (.iload_n 1, 1) := by decide +kernel
theorem dX12_talk_19 : decode cX12_talk 19 = .ok (.iconst 0, 1) := by decide +kernel
theorem dX12_talk_20 : decode cX12_talk 20 = .ok (.iconst 2, 1) := by decide +kernel
theorem dX12_talk_21 : decode cX12_talk 21 = .ok (.invokevirtual 206, 3) := by decide +kernel
theorem dX12_talk_24 : decode cX12_talk 24 = .ok (.ifCond .eq 12, 3) := by decide +kernel
theorem dX12_talk_27 : decode cX12_talk 27 = .ok (.aload_n 0, 1) := by decide +kernel
theorem dX12_talk_28 : decode cX12_talk 28 = .ok (.getfield 524, 3) := by decide +kernel
theorem dX12_talk_31 : decode cX12_talk 31 = .ok (.bipush 24, 2) := by decide +kernel
theorem dX12_talk_33 : decode cX12_talk 33 = .ok (.if_icmp .ne 5, 3) := by decide +kernel
theorem dX12_talk_36 : decode cX12_talk 36 = .ok (.iconst (-1), 1) := by decide +kernel
theorem dX12_talk_37 : decode cX12_talk 37 = .ok (.ireturn, 1) := by decide +kernel
theorem dX12_talk_38 : decode cX12_talk 38 = .ok (.aload_n 0, 1) := by decide +kernel
theorem dX12_talk_39 : decode cX12_talk 39 = .ok (.getfield 131, 3) := by decide +kernel
theorem dX12_talk_42 : decode cX12_talk 42 = .ok (.aload_n 0, 1) := by decide +kernel
theorem dX12_talk_43 : decode cX12_talk 43 = .ok (.getfield 524, 3) := by decide +kernel
theorem dX12_talk_46 : decode cX12_talk 46 = .ok (.iload_n 1, 1) := by decide +kernel
theorem dX12_talk_47 : decode cX12_talk 47 = .ok (.iastore, 1) := by decide +kernel
theorem dX12_talk_48 : decode cX12_talk 48 = .ok (.aload_n 0, 1) := by decide +kernel
theorem dX12_talk_49 : decode cX12_talk 49 = .ok (.aload_n 0, 1) := by decide +kernel
theorem dX12_talk_50 : decode cX12_talk 50 = .ok (.getfield 524, 3) := by decide +kernel
theorem dX12_talk_53 : decode cX12_talk 53 = .ok (.iconst 1, 1) := by decide +kernel
theorem dX12_talk_54 : decode cX12_talk 54 = .ok (.iadd, 1) := by decide +kernel
theorem dX12_talk_55 : decode cX12_talk 55 = .ok (.putfield 524, 3) := by decide +kernel
theorem dX12_talk_58 : decode cX12_talk 58 = .ok (.aload_n 0, 1) := by decide +kernel
theorem dX12_talk_59 : decode cX12_talk 59 = .ok (.getfield 524, 3) := by decide +kernel
theorem dX12_talk_62 : decode cX12_talk 62 = .ok (.ireturn, 1) := by decide +kernel
theorem dX12_talkGoes_0 : decode cX12_talkGoes 0 = .ok (.iconst 0, 1) := by decide +kernel
theorem dX12_talkGoes_1 : decode cX12_talkGoes 1 = .ok (.istore_n 2, 1) := by decide +kernel
theorem dX12_talkGoes_2 : decode cX12_talkGoes 2 = .ok (.iconst 0, 1) := by decide +kernel
theorem dX12_talkGoes_3 : decode cX12_talkGoes 3 = .ok (.istore_n 3, 1) := by decide +kernel
theorem dX12_talkGoes_4 : decode cX12_talkGoes 4 = .ok (.iconst 0, 1) := by decide +kernel
theorem dX12_talkGoes_5 : decode cX12_talkGoes 5 = .ok (.istore 4, 2) := by decide +kernel
theorem dX12_talkGoes_7 : decode cX12_talkGoes 7 = .ok (.iload 4, 2) := by decide +kernel
theorem dX12_talkGoes_9 : decode cX12_talkGoes 9 = .ok (.aload_n 0, 1) := by decide +kernel
theorem dX12_talkGoes_10 : decode cX12_talkGoes 10 = .ok (.getfield 524, 3) := by decide +kernel
theorem dX12_talkGoes_13 : decode cX12_talkGoes 13 = .ok (.if_icmp .ge 72, 3) := by decide +kernel
theorem dX12_talkGoes_16 : decode cX12_talkGoes 16 = .ok (.aload_n 0, 1) := by decide +kernel
theorem dX12_talkGoes_17 : decode cX12_talkGoes 17 = .ok (.getfield 131, 3) := by decide +kernel
theorem dX12_talkGoes_20 : decode cX12_talkGoes 20 = .ok (.iload 4, 2) := by decide +kernel
theorem dX12_talkGoes_22 : decode cX12_talkGoes 22 = .ok (.iaload, 1) := by decide +kernel
theorem dX12_talkGoes_23 : decode cX12_talkGoes 23 = .ok (.iconst 1, 1) := by decide +kernel
theorem dX12_talkGoes_24 : decode cX12_talkGoes 24 = .ok (.if_icmp .ne 7, 3) := by decide +kernel
theorem dX12_talkGoes_27 : decode cX12_talkGoes 27 = .ok (.iload_n 2, 1) := by decide +kernel
theorem dX12_talkGoes_28 : decode cX12_talkGoes 28 = .ok (.iconst 1, 1) := by decide +kernel
theorem dX12_talkGoes_29 : decode cX12_talkGoes 29 = .ok (.iadd, 1) := by decide +kernel
theorem dX12_talkGoes_30 : decode cX12_talkGoes 30 = .ok (.istore_n 2, 1) := by decide +kernel
theorem dX12_talkGoes_31 : decode cX12_talkGoes 31 = .ok (.aload_n 0, 1) := by decide +kernel
theorem dX12_talkGoes_32 : decode cX12_talkGoes 32 = .ok (.getfield 131, 3) := by decide +kernel
theorem dX12_talkGoes_35 : decode cX12_talkGoes 35 = .ok (.iload 4, 2) := by decide +kernel
theorem dX12_talkGoes_37 : decode cX12_talkGoes 37 = .ok (.iaload, 1) := by decide +kernel
theorem dX12_talkGoes_38 : decode cX12_talkGoes 38 = .ok (.iconst 2, 1) := by decide +kernel
theorem dX12_talkGoes_39 : decode cX12_talkGoes 39 = .ok (.if_icmp .ne 14, 3) := by decide +kernel
theorem dX12_talkGoes_42 : decode cX12_talkGoes 42 = .ok (.iload_n 2, 1) := by decide +kernel
theorem dX12_talkGoes_43 : decode cX12_talkGoes 43 = .ok (.ifCond .ne 10, 3) := by decide +kernel
theorem dX12_talkGoes_46 : decode cX12_talkGoes 46 = .ok (.iload_n 1, 1) := by decide +kernel
theorem dX12_talkGoes_47 : decode cX12_talkGoes 47 = .ok (.ifCond .eq 6, 3) := by decide +kernel
theorem dX12_talkGoes_50 : decode cX12_talkGoes 50 = .ok (.iload 4, 2) := by decide +kernel
theorem dX12_talkGoes_52 : decode cX12_talkGoes 52 = .ok (.ireturn, 1) := by decide +kernel
theorem dX12_talkGoes_53 : decode cX12_talkGoes 53 = .ok (.aload_n 0, 1) := by decide +kernel
theorem dX12_talkGoes_54 : decode cX12_talkGoes 54 = .ok (.getfield 131, 3) := by decide +kernel
theorem dX12_talkGoes_57 : decode cX12_talkGoes 57 = .ok (.iload 4, 2) := by decide +kernel
theorem dX12_talkGoes_59 : decode cX12_talkGoes 59 = .ok (.iaload, 1) := by decide +kernel
theorem dX12_talkGoes_60 : decode cX12_talkGoes 60 = .ok (.iconst 2, 1) := by decide +kernel
theorem dX12_talkGoes_61 : decode cX12_talkGoes 61 = .ok (.if_icmp .ne 11, 3) := by decide +kernel
theorem dX12_talkGoes_64 : decode cX12_talkGoes 64 = .ok (.iload_n 2, 1) := by decide +kernel
theorem dX12_talkGoes_65 : decode cX12_talkGoes 65 = .ok (.ifCond .le 7, 3) := by decide +kernel
theorem dX12_talkGoes_68 : decode cX12_talkGoes 68 = .ok (.iload_n 2, 1) := by decide +kernel
theorem dX12_talkGoes_69 : decode cX12_talkGoes 69 = .ok (.iconst 1, 1) := by decide +kernel
theorem dX12_talkGoes_70 : decode cX12_talkGoes 70 = .ok (.isub, 1) := by decide +kernel
theorem dX12_talkGoes_71 : decode cX12_talkGoes 71 = .ok (.istore_n 2, 1) := by decide +kernel
theorem dX12_talkGoes_72 : decode cX12_talkGoes 72 = .ok (.aload_n 0, 1) := by decide +kernel
theorem dX12_talkGoes_73 : decode cX12_talkGoes 73 = .ok (.iload_n 3, 1) := by decide +kernel
theorem dX12_talkGoes_74 : decode cX12_talkGoes 74 = .ok (.iload_n 2, 1) := by decide +kernel
theorem dX12_talkGoes_75 : decode cX12_talkGoes 75 = .ok (.invokevirtual 493, 3) := by decide +kernel
theorem dX12_talkGoes_78 : decode cX12_talkGoes 78 = .ok (.istore_n 3, 1) := by decide +kernel
theorem dX12_talkGoes_79 : decode cX12_talkGoes 79 = .ok (.iinc 4 1, 3) := by decide +kernel
theorem dX12_talkGoes_82 : decode cX12_talkGoes 82 = .ok (.goto (-75), 3) := by decide +kernel
theorem dX12_talkGoes_85 : decode cX12_talkGoes 85 = .ok (.iload_n 1, 1) := by decide +kernel
theorem dX12_talkGoes_86 : decode cX12_talkGoes 86 = .ok (.ifCond .eq 7, 3) := by decide +kernel
theorem dX12_talkGoes_89 : decode cX12_talkGoes 89 = .ok (.iconst (-1), 1) := by decide +kernel
theorem dX12_talkGoes_90 : decode cX12_talkGoes 90 = .ok (.goto 4, 3) := by decide +kernel
theorem dX12_talkGoes_93 : decode cX12_talkGoes 93 = .ok (.iload_n 3, 1) := by decide +kernel
theorem dX12_talkGoes_94 : decode cX12_talkGoes 94 = .ok (.ireturn, 1) := by decide +kernel
theorem dX12_talks_0 : decode cX12_talks 0 = .ok (.aload_n 0, 1) := by decide +kernel
theorem dX12_talks_1 : decode cX12_talks 1 = .ok (.iconst 0, 1) := by decide +kernel
theorem dX12_talks_2 : decode cX12_talks 2 = .ok (.putfield 183, 3) := by decide +kernel
theorem dX12_talks_5 : decode cX12_talks 5 = .ok (.aload_n 0, 1) := by decide +kernel
theorem dX12_talks_6 : decode cX12_talks 6 = .ok (.iload_n 1, 1) := by decide +kernel
theorem dX12_talks_7 : decode cX12_talks 7 = .ok (.iconst 0, 1) := by decide +kernel
theorem dX12_talks_8 : decode cX12_talks 8 = .ok (.iconst 1, 1) := by decide +kernel
theorem dX12_talks_9 : decode cX12_talks 9 = .ok (.invokevirtual 206, 3) := by decide +kernel
theorem dX12_talks_12 : decode cX12_talks 12 = .ok (.ifCond .eq 18, 3) := by decide +kernel
theorem dX12_talks_15 : decode cX12_talks 15 = .ok (.aload_n 0, 1) := by decide +kernel
theorem dX12_talks_16 : decode cX12_talks 16 = .ok (.iload_n 1, 1) := by decide +kernel
theorem dX12_talks_17 : decode cX12_talks 17 = .ok (.iconst 1, 1) := by decide +kernel
theorem dX12_talks_18 : decode cX12_talks 18 = .ok (.if_icmp .ne 7, 3) := by decide +kernel
theorem dX12_talks_21 : decode cX12_talks 21 = .ok (.iconst 1, 1) := by decide +kernel
theorem dX12_talks_22 : decode cX12_talks 22 = .ok (.goto 4, 3) := by decide +kernel
theorem dX12_talks_25 : decode cX12_talks 25 = .ok (.iconst 0, 1) := by decide +kernel
theorem dX12_talks_26 : decode cX12_talks 26 = .ok (.invokevirtual 527, 3) := by decide +kernel
theorem dX12_talks_29 : decode cX12_talks 29 = .ok (.ireturn, 1) := by decide +kernel
theorem dX12_talks_30 : decode cX12_talks 30 = .ok (.aload_n 0, 1) := by decide +kernel
theorem dX12_talks_31 : decode cX12_talks 31 = .ok (.iload_n 1, 1) := by decide +kernel
theorem dX12_talks_32 : decode cX12_talks 32 = .ok (.bipush 10, 2) := by decide +kernel
theorem dX12_talks_34 : decode cX12_talks 34 = .ok (.bipush 25, 2) := by decide +kernel
theorem dX12_talks_36 : decode cX12_talks 36 = .ok (.invokevirtual 206, 3) := by decide +kernel
theorem dX12_talks_39 : decode cX12_talks 39 = .ok (.ifCond .ne 5, 3) := by decide +kernel
theorem dX12_talks_42 : decode cX12_talks 42 = .ok (.iconst (-1), 1) := by decide +kernel
theorem dX12_talks_43 : decode cX12_talks 43 = .ok (.ireturn, 1) := by decide +kernel
theorem dX12_talks_44 : decode cX12_talks 44 = .ok (.iconst 0, 1) := by decide +kernel
theorem dX12_talks_45 : decode cX12_talks 45 = .ok (.istore_n 2, 1) := by decide +kernel
theorem dX12_talks_46 : decode cX12_talks 46 = .ok (.iload_n 2, 1) := by decide +kernel
theorem dX12_talks_47 : decode cX12_talks 47 = .ok (.iload_n 1, 1) := by decide +kernel
theorem dX12_talks_48 : decode cX12_talks 48 = .ok (.bipush 10, 2) := by decide +kernel
theorem dX12_talks_50 : decode cX12_talks 50 = .ok (.isub, 1) := by decide +kernel
theorem dX12_talks_51 : decode cX12_talks 51 = .ok (.if_icmp .gt 67, 3) := by decide +kernel
theorem dX12_talks_54 : decode cX12_talks 54 = .ok (.aload_n 0, 1) := by decide +kernel
theorem dX12_talks_55 : decode cX12_talks 55 = .ok (.getfield 134, 3) := by decide +kernel
theorem dX12_talks_58 : decode cX12_talks 58 = .ok (.iload_n 2, 1) := by decide +kernel
theorem dX12_talks_59 : decode cX12_talks 59 = .ok (.iload_n 2, 1) := by decide +kernel
theorem dX12_talks_60 : decode cX12_talks 60 = .ok (.ifCond .ne 7, 3) := by decide +kernel
theorem dX12_talks_63 : decode cX12_talks 63 = .ok (.iconst 1, 1) := by decide +kernel
theorem dX12_talks_64 : decode cX12_talks 64 = .ok (.goto 4, 3) := by decide +kernel
theorem dX12_talks_67 : decode cX12_talks 67 = .ok (.iconst 0, 1) := by decide +kernel
theorem dX12_talks_68 : decode cX12_talks 68 = .ok (.iastore, 1) := by decide +kernel
theorem dX12_talks_69 : decode cX12_talks 69 = .ok (.iconst 0, 1) := by decide +kernel
theorem dX12_talks_70 : decode cX12_talks 70 = .ok (.istore_n 3, 1) := by decide +kernel
theorem dX12_talks_71 : decode cX12_talks 71 = .ok (.iload_n 3, 1) := by decide +kernel
theorem dX12_talks_72 : decode cX12_talks 72 = .ok (.iload_n 2, 1) := by decide +kernel
theorem dX12_talks_73 : decode cX12_talks 73 = .ok (.if_icmp .ge 39, 3) := by decide +kernel
theorem dX12_talks_76 : decode cX12_talks 76 = .ok (.aload_n 0, 1) := by decide +kernel
theorem dX12_talks_77 : decode cX12_talks 77 = .ok (.getfield 134, 3) := by decide +kernel
theorem dX12_talks_80 : decode cX12_talks 80 = .ok (.iload_n 2, 1) := by decide +kernel
theorem dX12_talks_81 : decode cX12_talks 81 = .ok (.aload_n 0, 1) := by decide +kernel
theorem dX12_talks_82 : decode cX12_talks 82 = .ok (.getfield 134, 3) := by decide +kernel
theorem dX12_talks_85 : decode cX12_talks 85 = .ok (.iload_n 2, 1) := by decide +kernel
theorem dX12_talks_86 : decode cX12_talks 86 = .ok (.iaload, 1) := by decide +kernel
theorem dX12_talks_87 : decode cX12_talks 87 = .ok (.aload_n 0, 1) := by decide +kernel
theorem dX12_talks_88 : decode cX12_talks 88 = .ok (.getfield 134, 3) := by decide +kernel
theorem dX12_talks_91 : decode cX12_talks 91 = .ok (.iload_n 3, 1) := by decide +kernel
theorem dX12_talks_92 : decode cX12_talks 92 = .ok (.iaload, 1) := by decide +kernel
theorem dX12_talks_93 : decode cX12_talks 93 = .ok (.aload_n 0, 1) := by decide +kernel
theorem dX12_talks_94 : decode cX12_talks 94 = .ok (.getfield 134, 3) := by decide +kernel
theorem dX12_talks_97 : decode cX12_talks 97 = .ok (.iload_n 2, 1) := by decide +kernel
theorem dX12_talks_98 : decode cX12_talks 98 = .ok (.iconst 1, 1) := by decide +kernel
theorem dX12_talks_99 : decode cX12_talks 99 = .ok (.isub, 1) := by decide +kernel
theorem dX12_talks_100 : decode cX12_talks 100 = .ok (.iload_n 3, 1) := by decide +kernel
theorem dX12_talks_101 : decode cX12_talks 101 = .ok (.isub, 1) := by decide +kernel
theorem dX12_talks_102 : decode cX12_talks 102 = .ok (.iaload, 1) := by decide +kernel
theorem dX12_talks_103 : decode cX12_talks 103 = .ok (.imul, 1) := by decide +kernel
theorem dX12_talks_104 : decode cX12_talks 104 = .ok (.iadd, 1) := by decide +kernel
theorem dX12_talks_105 : decode cX12_talks 105 = .ok (.iastore, 1) := by decide +kernel
theorem dX12_talks_106 : decode cX12_talks 106 = .ok (.iinc 3 1, 3) := by decide +kernel
theorem dX12_talks_109 : decode cX12_talks 109 = .ok (.goto (-38), 3) := by decide +kernel
theorem dX12_talks_112 : decode cX12_talks 112 = .ok (.iinc 2 1, 3) := by decide +kernel
theorem dX12_talks_115 : decode cX12_talks 115 = .ok (.goto (-69), 3) := by decide +kernel
theorem dX12_talks_118 : decode cX12_talks 118 = .ok (.aload_n 0, 1) := by decide +kernel
theorem dX12_talks_119 : decode cX12_talks 119 = .ok (.getfield 134, 3) := by decide +kernel
theorem dX12_talks_122 : decode cX12_talks 122 = .ok (.iload_n 1, 1) := by decide +kernel
theorem dX12_talks_123 : decode cX12_talks 123 = .ok (.bipush 10, 2) := by decide +kernel
theorem dX12_talks_125 : decode cX12_talks 125 = .ok (.isub, 1) := by decide +kernel
theorem dX12_talks_126 : decode cX12_talks 126 = .ok (.iaload, 1) := by decide +kernel
theorem dX12_talks_127 : decode cX12_talks 127 = .ok (.ireturn, 1) := by decide +kernel
theorem dX12_half_0 : decode cX12_half 0 = .ok (.aload_n 0, 1) := by decide +kernel
theorem dX12_half_1 : decode cX12_half 1 = .ok (.iconst 0, 1) := by decide +kernel
theorem dX12_half_2 : decode cX12_half 2 = .ok (.putfield 183, 3) := by decide +kernel
theorem dX12_half_5 : decode cX12_half 5 = .ok (.aload_n 0, 1) := by decide +kernel
theorem dX12_half_6 : decode cX12_half 6 = .ok (.iload_n 1, 1) := by decide +kernel
theorem dX12_half_7 : decode cX12_half 7 = .ok (.iconst 0, 1) := by decide +kernel
theorem dX12_half_8 : decode cX12_half 8 = .ok (.iconst 2, 1) := by decide +kernel
theorem dX12_half_9 : decode cX12_half 9 = .ok (.invokevirtual 206, 3) := by decide +kernel
theorem dX12_half_12 : decode cX12_half 12 = .ok (.ifCond .ne 5, 3) := by decide +kernel
theorem dX12_half_15 : decode cX12_half 15 = .ok (.iconst (-1), 1) := by decide +kernel
theorem dX12_half_16 : decode cX12_half 16 = .ok (.ireturn, 1) := by decide +kernel
theorem dX12_half_17 : decode cX12_half 17 = .ok (.iload_n 2, 1) := by decide +kernel
theorem dX12_half_18 : decode cX12_half 18 = .ok (.iconst (-1), 1) := by decide +kernel
theorem dX12_half_19 : decode cX12_half 19 = .ok (.if_icmp .ne 12, 3) := by decide +kernel
theorem dX12_half_22 : decode cX12_half 22 = .ok (.aload_n 0, 1) := by decide +kernel
theorem dX12_half_23 : decode cX12_half 23 = .ok (.getfield 137, 3) := by decide +kernel
theorem dX12_half_26 : decode cX12_half 26 = .ok (.iload_n 1, 1) := by decide +kernel
theorem dX12_half_27 : decode cX12_half 27 = .ok (.iconst 0, 1) := by decide +kernel
theorem dX12_half_28 : decode cX12_half 28 = .ok (.iastore, 1) := by decide +kernel
theorem dX12_half_29 : decode cX12_half 29 = .ok (.iconst 0, 1) := by decide +kernel
theorem dX12_half_30 : decode cX12_half 30 = .ok (.ireturn, 1) := by decide +kernel
theorem dX12_half_31 : decode cX12_half 31 = .ok (.aload_n 0, 1) := by decide +kernel
theorem dX12_half_32 : decode cX12_half 32 = .ok (.iload_n 2, 1) := by decide +kernel
theorem dX12_half_33 : decode cX12_half 33 = .ok (.iconst 0, 1) := by decide +kernel
theorem dX12_half_34 : decode cX12_half 34 = .ok (.bipush 9, 2) := by decide +kernel
theorem dX12_half_36 : decode cX12_half 36 = .ok (.invokevirtual 206, 3) := by decide +kernel
theorem dX12_half_39 : decode cX12_half 39 = .ok (.ifCond .eq 24, 3) := by decide +kernel
theorem dX12_half_42 : decode cX12_half 42 = .ok (.aload_n 0, 1) := by decide +kernel
theorem dX12_half_43 : decode cX12_half 43 = .ok (.getfield 137, 3) := by decide +kernel
theorem dX12_half_46 : decode cX12_half 46 = .ok (.iload_n 1, 1) := by decide +kernel
theorem dX12_half_47 : decode cX12_half 47 = .ok (.iaload, 1) := by decide +kernel
theorem dX12_half_48 : decode cX12_half 48 = .ok (.iload_n 1, 1) := by decide +kernel
theorem dX12_half_49 : decode cX12_half 49 = .ok (.iconst 2, 1) := by decide +kernel
theorem dX12_half_50 : decode cX12_half 50 = .ok (.if_icmp .ne 8, 3) := by decide +kernel
theorem dX12_half_53 : decode cX12_half 53 = .ok (.bipush 24, 2) := by decide +kernel
theorem dX12_half_55 : decode cX12_half 55 = .ok (.goto 5, 3) := by decide +kernel
theorem dX12_half_58 : decode cX12_half 58 = .ok (.bipush 12, 2) := by decide +kernel
theorem dX12_half_60 : decode cX12_half 60 = .ok (.if_icmp .ne 5, 3) := by decide +kernel
theorem dX12_half_63 : decode cX12_half 63 = .ok (.iconst (-1), 1) := by decide +kernel
theorem dX12_half_64 : decode cX12_half 64 = .ok (.ireturn, 1) := by decide +kernel
theorem dX12_half_65 : decode cX12_half 65 = .ok (.aload_n 0, 1) := by decide +kernel
theorem dX12_half_66 : decode cX12_half 66 = .ok (.getfield 140, 3) := by decide +kernel
theorem dX12_half_69 : decode cX12_half 69 = .ok (.bipush 24, 2) := by decide +kernel
theorem dX12_half_71 : decode cX12_half 71 = .ok (.iload_n 1, 1) := by decide +kernel
theorem dX12_half_72 : decode cX12_half 72 = .ok (.imul, 1) := by decide +kernel
theorem dX12_half_73 : decode cX12_half 73 = .ok (.aload_n 0, 1) := by decide +kernel
theorem dX12_half_74 : decode cX12_half 74 = .ok (.getfield 137, 3) := by decide +kernel
theorem dX12_half_77 : decode cX12_half 77 = .ok (.iload_n 1, 1) := by decide +kernel
theorem dX12_half_78 : decode cX12_half 78 = .ok (.iaload, 1) := by decide +kernel
theorem dX12_half_79 : decode cX12_half 79 = .ok (.iadd, 1) := by decide +kernel
theorem dX12_half_80 : decode cX12_half 80 = .ok (.iload_n 2, 1) := by decide +kernel
theorem dX12_half_81 : decode cX12_half 81 = .ok (.iastore, 1) := by decide +kernel
theorem dX12_half_82 : decode cX12_half 82 = .ok (.aload_n 0, 1) := by decide +kernel
theorem dX12_half_83 : decode cX12_half 83 = .ok (.getfield 137, 3) := by decide +kernel
theorem dX12_half_86 : decode cX12_half 86 = .ok (.iload_n 1, 1) := by decide +kernel
theorem dX12_half_87 : decode cX12_half 87 = .ok (.aload_n 0, 1) := by decide +kernel
theorem dX12_half_88 : decode cX12_half 88 = .ok (.getfield 137, 3) := by decide +kernel
theorem dX12_half_91 : decode cX12_half 91 = .ok (.iload_n 1, 1) := by decide +kernel
theorem dX12_half_92 : decode cX12_half 92 = .ok (.iaload, 1) := by decide +kernel
theorem dX12_half_93 : decode cX12_half 93 = .ok (.iconst 1, 1) := by decide +kernel
theorem dX12_half_94 : decode cX12_half 94 = .ok (.iadd, 1) := by decide +kernel
theorem dX12_half_95 : decode cX12_half 95 = .ok (.iastore, 1) := by decide +kernel
theorem dX12_half_96 : decode cX12_half 96 = .ok (.aload_n 0, 1) := by decide +kernel
theorem dX12_half_97 : decode cX12_half 97 = .ok (.getfield 137, 3) := by decide +kernel
theorem dX12_half_100 : decode cX12_half 100 = .ok (.iload_n 1, 1) := by decide +kernel
theorem dX12_half_101 : decode cX12_half 101 = .ok (.iaload, 1) := by decide +kernel
theorem dX12_half_102 : decode cX12_half 102 = .ok (.ireturn, 1) := by decide +kernel
theorem dX12_waysOfHalf_0 : decode cX12_waysOfHalf 0 = .ok (.iload_n 1, 1) := by decide +kernel
theorem dX12_waysOfHalf_1 : decode cX12_waysOfHalf 1 = .ok (.iload_n 2, 1) := by decide +kernel
theorem dX12_waysOfHalf_2 : decode cX12_waysOfHalf 2 = .ok (.iadd, 1) := by decide +kernel
theorem dX12_waysOfHalf_3 : decode cX12_waysOfHalf 3 = .ok (.ifCond .ne 5, 3) := by decide +kernel
theorem dX12_waysOfHalf_6 : decode cX12_waysOfHalf 6 = .ok (.iconst 1, 1) := by decide +kernel
theorem dX12_waysOfHalf_7 : decode cX12_waysOfHalf 7 = .ok (.ireturn, 1) := by decide +kernel
theorem dX12_waysOfHalf_8 : decode cX12_waysOfHalf 8 = .ok (.aload_n 0, 1) := by decide +kernel
theorem dX12_waysOfHalf_9 : decode cX12_waysOfHalf 9 = .ok (.getfield 140, 3) := by decide +kernel
theorem dX12_waysOfHalf_12 : decode cX12_waysOfHalf 12 = .ok (.bipush 48, 2) := by decide +kernel
theorem dX12_waysOfHalf_14 : decode cX12_waysOfHalf 14 = .ok (.iload_n 1, 1) := by decide +kernel
theorem dX12_waysOfHalf_15 : decode cX12_waysOfHalf 15 = .ok (.iadd, 1) := by decide +kernel
theorem dX12_waysOfHalf_16 : decode cX12_waysOfHalf 16 = .ok (.iload_n 2, 1) := by decide +kernel
theorem dX12_waysOfHalf_17 : decode cX12_waysOfHalf 17 = .ok (.iadd, 1) := by decide +kernel
theorem dX12_waysOfHalf_18 : decode cX12_waysOfHalf 18 = .ok (.iconst 1, 1) := by decide +kernel
theorem dX12_waysOfHalf_19 : decode cX12_waysOfHalf 19 = .ok (.isub, 1) := by decide +kernel
theorem dX12_waysOfHalf_20 : decode cX12_waysOfHalf 20 = .ok (.iaload, 1) := by decide +kernel
theorem dX12_waysOfHalf_21 : decode cX12_waysOfHalf 21 = .ok (.istore_n 3, 1) := by decide +kernel
theorem dX12_waysOfHalf_22 : decode cX12_waysOfHalf 22 = .ok (.iconst 0, 1) := by decide +kernel
theorem dX12_waysOfHalf_23 : decode cX12_waysOfHalf 23 = .ok (.istore 4, 2) := by decide +kernel
theorem dX12_waysOfHalf_25 : decode cX12_waysOfHalf 25 = .ok (.iload_n 1, 1) := by decide +kernel
theorem dX12_waysOfHalf_26 : decode cX12_waysOfHalf 26 = .ok (.ifCond .le 36, 3) := by decide +kernel
theorem dX12_waysOfHalf_29 : decode cX12_waysOfHalf 29 = .ok (.aload_n 0, 1) := by decide +kernel
theorem dX12_waysOfHalf_30 : decode cX12_waysOfHalf 30 = .ok (.getfield 140, 3) := by decide +kernel
theorem dX12_waysOfHalf_33 : decode cX12_waysOfHalf 33 = .ok (.iload_n 1, 1) := by decide +kernel
theorem dX12_waysOfHalf_34 : decode cX12_waysOfHalf 34 = .ok (.iconst 1, 1) := by decide +kernel
theorem dX12_waysOfHalf_35 : decode cX12_waysOfHalf 35 = .ok (.isub, 1) := by decide +kernel
theorem dX12_waysOfHalf_36 : decode cX12_waysOfHalf 36 = .ok (.iaload, 1) := by decide +kernel
theorem dX12_waysOfHalf_37 : decode cX12_waysOfHalf 37 = .ok (.iload_n 3, 1) := by decide +kernel
theorem dX12_waysOfHalf_38 : decode cX12_waysOfHalf 38 = .ok (.if_icmp .ne 24, 3) := by decide +kernel
theorem dX12_waysOfHalf_41 : decode cX12_waysOfHalf 41 = .ok (.aload_n 0, 1) := by decide +kernel
theorem dX12_waysOfHalf_42 : decode cX12_waysOfHalf 42 = .ok (.iload 4, 2) := by decide +kernel
theorem dX12_waysOfHalf_44 : decode cX12_waysOfHalf 44 = .ok (.aload_n 0, 1) := by decide +kernel
theorem dX12_waysOfHalf_45 : decode cX12_waysOfHalf 45 = .ok (.getfield 143, 3) := by decide +kernel
theorem dX12_waysOfHalf_48 : decode cX12_waysOfHalf 48 = .ok (.bipush 13, 2) := by decide +kernel
theorem dX12_waysOfHalf_50 : decode cX12_waysOfHalf 50 = .ok (.iload_n 1, 1) := by decide +kernel
theorem dX12_waysOfHalf_51 : decode cX12_waysOfHalf 51 = .ok (.iconst 1, 1) := by decide +kernel
theorem dX12_waysOfHalf_52 : decode cX12_waysOfHalf 52 = .ok (.isub, 1) := by decide +kernel
theorem dX12_waysOfHalf_53 : decode cX12_waysOfHalf 53 = .ok (.imul, 1) := by decide +kernel
theorem dX12_waysOfHalf_54 : decode cX12_waysOfHalf 54 = .ok (.iload_n 2, 1) := by decide +kernel
theorem dX12_waysOfHalf_55 : decode cX12_waysOfHalf 55 = .ok (.iadd, 1) := by decide +kernel
theorem dX12_waysOfHalf_56 : decode cX12_waysOfHalf 56 = .ok (.iaload, 1) := by decide +kernel
theorem dX12_waysOfHalf_57 : decode cX12_waysOfHalf 57 = .ok (.invokevirtual 531, 3) := by decide +kernel
theorem dX12_waysOfHalf_60 : decode cX12_waysOfHalf 60 = .ok (.istore 4, 2) := by decide +kernel
theorem dX12_waysOfHalf_62 : decode cX12_waysOfHalf 62 = .ok (.iload_n 2, 1) := by decide +kernel
theorem dX12_waysOfHalf_63 : decode cX12_waysOfHalf 63 = .ok (.ifCond .le 39, 3) := by decide +kernel
theorem dX12_waysOfHalf_66 : decode cX12_waysOfHalf 66 = .ok (.aload_n 0, 1) := by decide +kernel
theorem dX12_waysOfHalf_67 : decode cX12_waysOfHalf 67 = .ok (.getfield 140, 3) := by decide +kernel
theorem dX12_waysOfHalf_70 : decode cX12_waysOfHalf 70 = .ok (.bipush 24, 2) := by decide +kernel
theorem dX12_waysOfHalf_72 : decode cX12_waysOfHalf 72 = .ok (.iload_n 2, 1) := by decide +kernel
theorem dX12_waysOfHalf_73 : decode cX12_waysOfHalf 73 = .ok (.iadd, 1) := by decide +kernel
theorem dX12_waysOfHalf_74 : decode cX12_waysOfHalf 74 = .ok (.iconst 1, 1) := by decide +kernel
theorem dX12_waysOfHalf_75 : decode cX12_waysOfHalf 75 = .ok (.isub, 1) := by decide +kernel
theorem dX12_waysOfHalf_76 : decode cX12_waysOfHalf 76 = .ok (.iaload, 1) := by decide +kernel
theorem dX12_waysOfHalf_77 : decode cX12_waysOfHalf 77 = .ok (.iload_n 3, 1) := by decide +kernel
theorem dX12_waysOfHalf_78 : decode cX12_waysOfHalf 78 = .ok (.if_icmp .ne 24, 3) := by decide +kernel
theorem dX12_waysOfHalf_81 : decode cX12_waysOfHalf 81 = .ok (.aload_n 0, 1) := by decide +kernel
theorem dX12_waysOfHalf_82 : decode cX12_waysOfHalf 82 = .ok (.iload 4, 2) := by decide +kernel
theorem dX12_waysOfHalf_84 : decode cX12_waysOfHalf 84 = .ok (.aload_n 0, 1) := by decide +kernel
theorem dX12_waysOfHalf_85 : decode cX12_waysOfHalf 85 = .ok (.getfield 143, 3) := by decide +kernel
theorem dX12_waysOfHalf_88 : decode cX12_waysOfHalf 88 = .ok (.bipush 13, 2) := by decide +kernel
theorem dX12_waysOfHalf_90 : decode cX12_waysOfHalf 90 = .ok (.iload_n 1, 1) := by decide +kernel
theorem dX12_waysOfHalf_91 : decode cX12_waysOfHalf 91 = .ok (.imul, 1) := by decide +kernel
theorem dX12_waysOfHalf_92 : decode cX12_waysOfHalf 92 = .ok (.iload_n 2, 1) := by decide +kernel
theorem dX12_waysOfHalf_93 : decode cX12_waysOfHalf 93 = .ok (.iadd, 1) := by decide +kernel
theorem dX12_waysOfHalf_94 : decode cX12_waysOfHalf 94 = .ok (.iconst 1, 1) := by decide +kernel
theorem dX12_waysOfHalf_95 : decode cX12_waysOfHalf 95 = .ok (.isub, 1) := by decide +kernel
theorem dX12_waysOfHalf_96 : decode cX12_waysOfHalf 96 = .ok (.iaload, 1) := by decide +kernel
theorem dX12_waysOfHalf_97 : decode cX12_waysOfHalf 97 = .ok (.invokevirtual 531, 3) := by decide +kernel
theorem dX12_waysOfHalf_100 : decode cX12_waysOfHalf 100 = .ok (.istore 4, 2) := by decide +kernel
theorem dX12_waysOfHalf_102 : decode cX12_waysOfHalf 102 = .ok (.iload 4, 2) := by decide +kernel
theorem dX12_waysOfHalf_104 : decode cX12_waysOfHalf 104 = .ok (.ireturn, 1) := by decide +kernel
theorem dX12_halves_0 : decode cX12_halves 0 = .ok (.aload_n 0, 1) := by decide +kernel
theorem dX12_halves_1 : decode cX12_halves 1 = .ok (.iconst 0, 1) := by decide +kernel
theorem dX12_halves_2 : decode cX12_halves 2 = .ok (.putfield 183, 3) := by decide +kernel
theorem dX12_halves_5 : decode cX12_halves 5 = .ok (.aload_n 0, 1) := by decide +kernel
theorem dX12_halves_6 : decode cX12_halves 6 = .ok (.iload_n 1, 1) := by decide +kernel
theorem dX12_halves_7 : decode cX12_halves 7 = .ok (.iconst 0, 1) := by decide +kernel
theorem dX12_halves_8 : decode cX12_halves 8 = .ok (.iconst 1, 1) := by decide +kernel
theorem dX12_halves_9 : decode cX12_halves 9 = .ok (.invokevirtual 206, 3) := by decide +kernel
theorem dX12_halves_12 : decode cX12_halves 12 = .ok (.ifCond .ne 5, 3) := by decide +kernel
theorem dX12_halves_15 : decode cX12_halves 15 = .ok (.iconst (-1), 1) := by decide +kernel
theorem dX12_halves_16 : decode cX12_halves 16 = .ok (.ireturn, 1) := by decide +kernel
theorem dX12_halves_17 : decode cX12_halves 17 = .ok (.aload_n 0, 1) := by decide +kernel
theorem dX12_halves_18 : decode cX12_halves 18 = .ok (.getfield 137, 3) := by decide +kernel
theorem dX12_halves_21 : decode cX12_halves 21 = .ok (.iconst 0, 1) := by decide +kernel
theorem dX12_halves_22 : decode cX12_halves 22 = .ok (.iaload, 1) := by decide +kernel
theorem dX12_halves_23 : decode cX12_halves 23 = .ok (.aload_n 0, 1) := by decide +kernel
theorem dX12_halves_24 : decode cX12_halves 24 = .ok (.getfield 137, 3) := by decide +kernel
theorem dX12_halves_27 : decode cX12_halves 27 = .ok (.iconst 1, 1) := by decide +kernel
theorem dX12_halves_28 : decode cX12_halves 28 = .ok (.iaload, 1) := by decide +kernel
theorem dX12_halves_29 : decode cX12_halves 29 = .ok (.iadd, 1) := by decide +kernel
theorem dX12_halves_30 : decode cX12_halves 30 = .ok (.aload_n 0, 1) := by decide +kernel
theorem dX12_halves_31 : decode cX12_halves 31 = .ok (.getfield 137, 3) := by decide +kernel
theorem dX12_halves_34 : decode cX12_halves 34 = .ok (.iconst 2, 1) := by decide +kernel
theorem dX12_halves_35 : decode cX12_halves 35 = .ok (.iaload, 1) := by decide +kernel
theorem dX12_halves_36 : decode cX12_halves 36 = .ok (.if_icmp .eq 5, 3) := by decide +kernel
theorem dX12_halves_39 : decode cX12_halves 39 = .ok (.iconst 0, 1) := by decide +kernel
theorem dX12_halves_40 : decode cX12_halves 40 = .ok (.ireturn, 1) := by decide +kernel
theorem dX12_halves_41 : decode cX12_halves 41 = .ok (.iconst 0, 1) := by decide +kernel
theorem dX12_halves_42 : decode cX12_halves 42 = .ok (.istore_n 2, 1) := by decide +kernel
theorem dX12_halves_43 : decode cX12_halves 43 = .ok (.iload_n 2, 1) := by decide +kernel
theorem dX12_halves_44 : decode cX12_halves 44 = .ok (.aload_n 0, 1) := by decide +kernel
theorem dX12_halves_45 : decode cX12_halves 45 = .ok (.getfield 137, 3) := by decide +kernel
theorem dX12_halves_48 : decode cX12_halves 48 = .ok (.iconst 0, 1) := by decide +kernel
theorem dX12_halves_49 : decode cX12_halves 49 = .ok (.iaload, 1) := by decide +kernel
theorem dX12_halves_50 : decode cX12_halves 50 = .ok (.if_icmp .gt 44, 3) := by decide +kernel
theorem dX12_halves_53 : decode cX12_halves 53 = .ok (.iconst 0, 1) := by decide +kernel
theorem dX12_halves_54 : decode cX12_halves 54 = .ok (.istore_n 3, 1) := by decide +kernel
theorem dX12_halves_55 : decode cX12_halves 55 = .ok (.iload_n 3, 1) := by decide +kernel
theorem dX12_halves_56 : decode cX12_halves 56 = .ok (.aload_n 0, 1) := by decide +kernel
theorem dX12_halves_57 : decode cX12_halves 57 = .ok (.getfield 137, 3) := by decide +kernel
theorem dX12_halves_60 : decode cX12_halves 60 = .ok (.iconst 1, 1) := by decide +kernel
theorem dX12_halves_61 : decode cX12_halves 61 = .ok (.iaload, 1) := by decide +kernel
theorem dX12_halves_62 : decode cX12_halves 62 = .ok (.if_icmp .gt 26, 3) := by decide +kernel
theorem dX12_halves_65 : decode cX12_halves 65 = .ok (.aload_n 0, 1) := by decide +kernel
theorem dX12_halves_66 : decode cX12_halves 66 = .ok (.getfield 143, 3) := by decide +kernel
theorem dX12_halves_69 : decode cX12_halves 69 = .ok (.bipush 13, 2) := by decide +kernel
theorem dX12_halves_71 : decode cX12_halves 71 = .ok (.iload_n 2, 1) := by decide +kernel
theorem dX12_halves_72 : decode cX12_halves 72 = .ok (.imul, 1) := by decide +kernel
theorem dX12_halves_73 : decode cX12_halves 73 = .ok (.iload_n 3, 1) := by decide +kernel
theorem dX12_halves_74 : decode cX12_halves 74 = .ok (.iadd, 1) := by decide +kernel
theorem dX12_halves_75 : decode cX12_halves 75 = .ok (.aload_n 0, 1) := by decide +kernel
theorem dX12_halves_76 : decode cX12_halves 76 = .ok (.iload_n 2, 1) := by decide +kernel
theorem dX12_halves_77 : decode cX12_halves 77 = .ok (.iload_n 3, 1) := by decide +kernel
theorem dX12_halves_78 : decode cX12_halves 78 = .ok (.invokevirtual 534, 3) := by decide +kernel
theorem dX12_halves_81 : decode cX12_halves 81 = .ok (.iastore, 1) := by decide +kernel
theorem dX12_halves_82 : decode cX12_halves 82 = .ok (.iinc 3 1, 3) := by decide +kernel
theorem dX12_halves_85 : decode cX12_halves 85 = .ok (.goto (-30), 3) := by decide +kernel
theorem dX12_halves_88 : decode cX12_halves 88 = .ok (.iinc 2 1, 3) := by decide +kernel
theorem dX12_halves_91 : decode cX12_halves 91 = .ok (.goto (-48), 3) := by decide +kernel
theorem dX12_halves_94 : decode cX12_halves 94 = .ok (.aload_n 0, 1) := by decide +kernel
theorem dX12_halves_95 : decode cX12_halves 95 = .ok (.getfield 143, 3) := by decide +kernel
theorem dX12_halves_98 : decode cX12_halves 98 = .ok (.bipush 13, 2) := by decide +kernel
theorem dX12_halves_100 : decode cX12_halves 100 = .ok (.aload_n 0, 1) := by decide +kernel
theorem dX12_halves_101 : decode cX12_halves 101 = .ok (.getfield 137, 3) := by decide +kernel
theorem dX12_halves_104 : decode cX12_halves 104 = .ok (.iconst 0, 1) := by decide +kernel
theorem dX12_halves_105 : decode cX12_halves 105 = .ok (.iaload, 1) := by decide +kernel
theorem dX12_halves_106 : decode cX12_halves 106 = .ok (.imul, 1) := by decide +kernel
theorem dX12_halves_107 : decode cX12_halves 107 = .ok (.aload_n 0, 1) := by decide +kernel
theorem dX12_halves_108 : decode cX12_halves 108 = .ok (.getfield 137, 3) := by decide +kernel
theorem dX12_halves_111 : decode cX12_halves 111 = .ok (.iconst 1, 1) := by decide +kernel
theorem dX12_halves_112 : decode cX12_halves 112 = .ok (.iaload, 1) := by decide +kernel
theorem dX12_halves_113 : decode cX12_halves 113 = .ok (.iadd, 1) := by decide +kernel
theorem dX12_halves_114 : decode cX12_halves 114 = .ok (.iaload, 1) := by decide +kernel
theorem dX12_halves_115 : decode cX12_halves 115 = .ok (.istore_n 2, 1) := by decide +kernel
theorem dX12_halves_116 : decode cX12_halves 116 = .ok (.iload_n 1, 1) := by decide +kernel
theorem dX12_halves_117 : decode cX12_halves 117 = .ok (.iconst 1, 1) := by decide +kernel
theorem dX12_halves_118 : decode cX12_halves 118 = .ok (.if_icmp .ne 7, 3) := by decide +kernel
theorem dX12_halves_121 : decode cX12_halves 121 = .ok (.iload_n 2, 1) := by decide +kernel
theorem dX12_halves_122 : decode cX12_halves 122 = .ok (.goto 12, 3) := by decide +kernel
theorem dX12_halves_125 : decode cX12_halves 125 = .ok (.iload_n 2, 1) := by decide +kernel
theorem dX12_halves_126 : decode cX12_halves 126 = .ok (.ifCond .le 7, 3) := by decide +kernel
theorem dX12_halves_129 : decode cX12_halves 129 = .ok (.iconst 1, 1) := by decide +kernel
theorem dX12_halves_130 : decode cX12_halves 130 = .ok (.goto 4, 3) := by decide +kernel
theorem dX12_halves_133 : decode cX12_halves 133 = .ok (.iconst 0, 1) := by decide +kernel
theorem dX12_halves_134 : decode cX12_halves 134 = .ok (.ireturn, 1) := by decide +kernel
theorem dX12_swing_0 : decode cX12_swing 0 = .ok (.aload_n 0, 1) := by decide +kernel
theorem dX12_swing_1 : decode cX12_swing 1 = .ok (.iconst 0, 1) := by decide +kernel
theorem dX12_swing_2 : decode cX12_swing 2 = .ok (.putfield 183, 3) := by decide +kernel
theorem dX12_swing_5 : decode cX12_swing 5 = .ok (.iload_n 1, 1) := by decide +kernel
theorem dX12_swing_6 : decode cX12_swing 6 = .ok (.iconst (-1), 1) := by decide +kernel
theorem dX12_swing_7 : decode cX12_swing 7 = .ok (.if_icmp .ne 10, 3) := by decide +kernel
theorem dX12_swing_10 : decode cX12_swing 10 = .ok (.aload_n 0, 1) := by decide +kernel
theorem dX12_swing_11 : decode cX12_swing 11 = .ok (.iconst 0, 1) := by decide +kernel
theorem dX12_swing_12 : decode cX12_swing 12 = .ok (.putfield 537, 3) := by decide +kernel
theorem dX12_swing_15 : decode cX12_swing 15 = .ok (.iconst 0, 1) := by decide +kernel
theorem dX12_swing_16 : decode cX12_swing 16 = .ok (.ireturn, 1) := by decide +kernel
theorem dX12_swing_17 : decode cX12_swing 17 = .ok (.aload_n 0, 1) := by decide +kernel
theorem dX12_swing_18 : decode cX12_swing 18 = .ok (.iload_n 1, 1) := by decide +kernel
theorem dX12_swing_19 : decode cX12_swing 19 = .ok (.iconst 1, 1) := by decide +kernel
theorem dX12_swing_20 : decode cX12_swing 20 = .ok (.bipush 60, 2) := by decide +kernel
theorem dX12_swing_22 : decode cX12_swing 22 = .ok (.invokevirtual 206, 3) := by decide +kernel
theorem dX12_swing_25 : decode cX12_swing 25 = .ok (.ifCond .eq 12, 3) := by decide +kernel
theorem dX12_swing_28 : decode cX12_swing 28 = .ok (.aload_n 0, 1) := by decide +kernel
theorem dX12_swing_29 : decode cX12_swing 29 = .ok (.getfield 537, 3) := by decide +kernel
theorem dX12_swing_32 : decode cX12_swing 32 = .ok (.bipush 8, 2) := by decide +kernel
theorem dX12_swing_34 : decode cX12_swing 34 = .ok (.if_icmp .ne 5, 3) := by decide +kernel
theorem dX12_swing_37 : decode cX12_swing 37 = .ok (.iconst (-1), 1) := by decide +kernel
theorem dX12_swing_38 : decode cX12_swing 38 = .ok (.ireturn, 1) := by decide +kernel
theorem dX12_swing_39 : decode cX12_swing 39 = .ok (.aload_n 0, 1) := by decide +kernel
theorem dX12_swing_40 : decode cX12_swing 40 = .ok (.getfield 146, 3) := by decide +kernel
theorem dX12_swing_43 : decode cX12_swing 43 = .ok (.aload_n 0, 1) := by decide +kernel
theorem dX12_swing_44 : decode cX12_swing 44 = .ok (.getfield 537, 3) := by decide +kernel
theorem dX12_swing_47 : decode cX12_swing 47 = .ok (.iload_n 1, 1) := by decide +kernel
theorem dX12_swing_48 : decode cX12_swing 48 = .ok (.iastore, 1) := by decide +kernel
theorem dX12_swing_49 : decode cX12_swing 49 = .ok (.aload_n 0, 1) := by decide +kernel
theorem dX12_swing_50 : decode cX12_swing 50 = .ok (.aload_n 0, 1) := by decide +kernel
theorem dX12_swing_51 : decode cX12_swing 51 = .ok (.getfield 537, 3) := by decide +kernel
theorem dX12_swing_54 : decode cX12_swing 54 = .ok (.iconst 1, 1) := by decide +kernel
theorem dX12_swing_55 : decode cX12_swing 55 = .ok (.iadd, 1) := by decide +kernel
theorem dX12_swing_56 : decode cX12_swing 56 = .ok (.putfield 537, 3) := by decide +kernel
theorem dX12_swing_59 : decode cX12_swing 59 = .ok (.aload_n 0, 1) := by decide +kernel
theorem dX12_swing_60 : decode cX12_swing 60 = .ok (.getfield 537, 3) := by decide +kernel
theorem dX12_swing_63 : decode cX12_swing 63 = .ok (.ireturn, 1) := by decide +kernel
theorem dX12_heavierBy_0 : decode cX12_heavierBy 0 = .ok (.iconst 0, 1) := by decide +kernel
theorem dX12_heavierBy_1 : decode cX12_heavierBy 1 = .ok (.istore_n 2, 1) := by decide +kernel
theorem dX12_heavierBy_2 : decode cX12_heavierBy 2 = .ok (.iconst 0, 1) := by decide +kernel
theorem dX12_heavierBy_3 : decode cX12_heavierBy 3 = .ok (.istore_n 3, 1) := by decide +kernel
theorem dX12_heavierBy_4 : decode cX12_heavierBy 4 = .ok (.iload_n 3, 1) := by decide +kernel
theorem dX12_heavierBy_5 : decode cX12_heavierBy 5 = .ok (.aload_n 0, 1) := by decide +kernel
theorem dX12_heavierBy_6 : decode cX12_heavierBy 6 = .ok (.getfield 537, 3) := by decide +kernel
theorem dX12_heavierBy_9 : decode cX12_heavierBy 9 = .ok (.if_icmp .ge 37, 3) := by decide +kernel
theorem dX12_heavierBy_12 : decode cX12_heavierBy 12 = .ok (.iload_n 2, 1) := by decide +kernel
theorem dX12_heavierBy_13 : decode cX12_heavierBy 13 = .ok (.aload_n 0, 1) := by decide +kernel
theorem dX12_heavierBy_14 : decode cX12_heavierBy 14 = .ok (.iload_n 1, 1) := by decide +kernel
theorem dX12_heavierBy_15 : decode cX12_heavierBy 15 = .ok (.iload_n 3, 1) := by decide +kernel
theorem dX12_heavierBy_16 : decode cX12_heavierBy 16 = .ok (.invokevirtual 469, 3) := by decide +kernel
theorem dX12_heavierBy_19 : decode cX12_heavierBy 19 = .ok (.ifCond .eq 12, 3) := by decide +kernel
theorem dX12_heavierBy_22 : decode cX12_heavierBy 22 = .ok (.aload_n 0, 1) := by decide +kernel
theorem dX12_heavierBy_23 : decode cX12_heavierBy 23 = .ok (.getfield 146, 3) := by decide +kernel
theorem dX12_heavierBy_26 : decode cX12_heavierBy 26 = .ok (.iload_n 3, 1) := by decide +kernel
theorem dX12_heavierBy_27 : decode cX12_heavierBy 27 = .ok (.iaload, 1) := by decide +kernel
theorem dX12_heavierBy_28 : decode cX12_heavierBy 28 = .ok (.goto 10, 3) := by decide +kernel
theorem dX12_heavierBy_31 : decode cX12_heavierBy 31 = .ok (.aload_n 0, 1) := by decide +kernel
theorem dX12_heavierBy_32 : decode cX12_heavierBy 32 = .ok (.getfield 146, 3) := by decide +kernel
theorem dX12_heavierBy_35 : decode cX12_heavierBy 35 = .ok (.iload_n 3, 1) := by decide +kernel
theorem dX12_heavierBy_36 : decode cX12_heavierBy 36 = .ok (.iaload, 1) := by decide +kernel
theorem dX12_heavierBy_37 : decode cX12_heavierBy 37 = .ok (.ineg, 1) := by decide +kernel
theorem dX12_heavierBy_38 : decode cX12_heavierBy 38 = .ok (.iadd, 1) := by decide +kernel
theorem dX12_heavierBy_39 : decode cX12_heavierBy 39 = .ok (.istore_n 2, 1) := by decide +kernel
theorem dX12_heavierBy_40 : decode cX12_heavierBy 40 = .ok (.iinc 3 1, 3) := by decide +kernel
theorem dX12_heavierBy_43 : decode cX12_heavierBy 43 = .ok (.goto (-39), 3) := by decide +kernel
theorem dX12_heavierBy_46 : decode cX12_heavierBy 46 = .ok (.aload_n 0, 1) := by decide +kernel
theorem dX12_heavierBy_47 : decode cX12_heavierBy 47 = .ok (.iload_n 2, 1) := by decide +kernel
theorem dX12_heavierBy_48 : decode cX12_heavierBy 48 = .ok (.iconst 0, 1) := by decide +kernel
theorem dX12_heavierBy_49 : decode cX12_heavierBy 49 = .ok (.invokevirtual 515, 3) := by decide +kernel
theorem dX12_heavierBy_52 : decode cX12_heavierBy 52 = .ok (.ireturn, 1) := by decide +kernel
theorem dX12_swings_0 : decode cX12_swings 0 = .ok (.aload_n 0, 1) := by decide +kernel
theorem dX12_swings_1 : decode cX12_swings 1 = .ok (.iconst 0, 1) := by decide +kernel
theorem dX12_swings_2 : decode cX12_swings 2 = .ok (.putfield 183, 3) := by decide +kernel
theorem dX12_swings_5 : decode cX12_swings 5 = .ok (.aload_n 0, 1) := by decide +kernel
theorem dX12_swings_6 : decode cX12_swings 6 = .ok (.iload_n 1, 1) := by decide +kernel
theorem dX12_swings_7 : decode cX12_swings 7 = .ok (.iconst 0, 1) := by decide +kernel
theorem dX12_swings_8 : decode cX12_swings 8 = .ok (.iconst 1, 1) := by decide +kernel
theorem dX12_swings_9 : decode cX12_swings 9 = .ok (.invokevirtual 206, 3) := by decide +kernel
theorem dX12_swings_12 : decode cX12_swings 12 = .ok (.ifCond .eq 13, 3) := by decide +kernel
theorem dX12_swings_15 : decode cX12_swings 15 = .ok (.aload_n 0, 1) := by decide +kernel
theorem dX12_swings_16 : decode cX12_swings 16 = .ok (.getfield 537, 3) := by decide +kernel
theorem dX12_swings_19 : decode cX12_swings 19 = .ok (.iconst 2, 1) := by decide +kernel
theorem dX12_swings_20 : decode cX12_swings 20 = .ok (.irem, 1) := by decide +kernel
theorem dX12_swings_21 : decode cX12_swings 21 = .ok (.iconst 1, 1) := by decide +kernel
theorem dX12_swings_22 : decode cX12_swings 22 = .ok (.if_icmp .ne 5, 3) := by decide +kernel
theorem dX12_swings_25 : decode cX12_swings 25 = .ok (.iconst (-1), 1) := by decide +kernel
theorem dX12_swings_26 : decode cX12_swings 26 = .ok (.ireturn, 1) := by decide +kernel
theorem dX12_swings_27 : decode cX12_swings 27 = .ok (.aload_n 0, 1) := by decide +kernel
theorem dX12_swings_28 : decode cX12_swings 28 = .ok (.getfield 537, 3) := by decide +kernel
theorem dX12_swings_31 : decode cX12_swings 31 = .ok (.ifCond .ne 5, 3) := by decide +kernel
theorem dX12_swings_34 : decode cX12_swings 34 = .ok (.iconst 0, 1) := by decide +kernel
theorem dX12_swings_35 : decode cX12_swings 35 = .ok (.ireturn, 1) := by decide +kernel
theorem dX12_swings_36 : decode cX12_swings 36 = .ok (.iconst (-1), 1) := by decide +kernel
theorem dX12_swings_37 : decode cX12_swings 37 = .ok (.istore_n 2, 1) := by decide +kernel
theorem dX12_swings_38 : decode cX12_swings 38 = .ok (.iconst 1, 1) := by decide +kernel
theorem dX12_swings_39 : decode cX12_swings 39 = .ok (.istore_n 3, 1) := by decide +kernel
theorem dX12_swings_40 : decode cX12_swings 40 = .ok (.iload_n 3, 1) := by decide +kernel
theorem dX12_swings_41 : decode cX12_swings 41 = .ok (.iconst 1, 1) := by decide +kernel
theorem dX12_swings_42 : decode cX12_swings 42 = .ok (.aload_n 0, 1) := by decide +kernel
theorem dX12_swings_43 : decode cX12_swings 43 = .ok (.getfield 537, 3) := by decide +kernel
theorem dX12_swings_46 : decode cX12_swings 46 = .ok (.ishl, 1) := by decide +kernel
theorem dX12_swings_47 : decode cX12_swings 47 = .ok (.if_icmp .ge 44, 3) := by decide +kernel
theorem dX12_swings_50 : decode cX12_swings 50 = .ok (.iconst 2, 1) := by decide +kernel
theorem dX12_swings_51 : decode cX12_swings 51 = .ok (.aload_n 0, 1) := by decide +kernel
theorem dX12_swings_52 : decode cX12_swings 52 = .ok (.iload_n 3, 1) := by decide +kernel
theorem dX12_swings_53 : decode cX12_swings 53 = .ok (.invokevirtual 382, 3) := by decide +kernel
theorem dX12_swings_56 : decode cX12_swings 56 = .ok (.imul, 1) := by decide +kernel
theorem dX12_swings_57 : decode cX12_swings 57 = .ok (.aload_n 0, 1) := by decide +kernel
theorem dX12_swings_58 : decode cX12_swings 58 = .ok (.getfield 537, 3) := by decide +kernel
theorem dX12_swings_61 : decode cX12_swings 61 = .ok (.if_icmp .ne 23, 3) := by decide +kernel
theorem dX12_swings_64 : decode cX12_swings 64 = .ok (.iload_n 2, 1) := by decide +kernel
theorem dX12_swings_65 : decode cX12_swings 65 = .ok (.iconst (-1), 1) := by decide +kernel
theorem dX12_swings_66 : decode cX12_swings 66 = .ok (.if_icmp .eq 16, 3) := by decide +kernel
theorem dX12_swings_69 : decode cX12_swings 69 = .ok (.aload_n 0, 1) := by decide +kernel
theorem dX12_swings_70 : decode cX12_swings 70 = .ok (.iload_n 3, 1) := by decide +kernel
theorem dX12_swings_71 : decode cX12_swings 71 = .ok (.invokevirtual 540, 3) := by decide +kernel
theorem dX12_swings_74 : decode cX12_swings 74 = .ok (.aload_n 0, 1) := by decide +kernel
theorem dX12_swings_75 : decode cX12_swings 75 = .ok (.iload_n 2, 1) := by decide +kernel
theorem dX12_swings_76 : decode cX12_swings 76 = .ok (.invokevirtual 540, 3) := by decide +kernel
theorem dX12_swings_79 : decode cX12_swings 79 = .ok (.if_icmp .ge 5, 3) := by decide +kernel
theorem dX12_swings_82 : decode cX12_swings 82 = .ok (.iload_n 3, 1) := by decide +kernel
theorem dX12_swings_83 : decode cX12_swings 83 = .ok (.istore_n 2, 1) := by decide +kernel
theorem dX12_swings_84 : decode cX12_swings 84 = .ok (.iload_n 3, 1) := by decide +kernel
theorem dX12_swings_85 : decode cX12_swings 85 = .ok (.iconst 2, 1) := by decide +kernel
theorem dX12_swings_86 : decode cX12_swings 86 = .ok (.iadd, 1) := by decide +kernel
theorem dX12_swings_87 : decode cX12_swings 87 = .ok (.istore_n 3, 1) := by decide +kernel
theorem dX12_swings_88 : decode cX12_swings 88 = .ok (.goto (-48), 3) := by decide +kernel
theorem dX12_swings_91 : decode cX12_swings 91 = .ok (.iload_n 1, 1) := by decide +kernel
theorem dX12_swings_92 : decode cX12_swings 92 = .ok (.ifCond .ne 11, 3) := by decide +kernel
theorem dX12_swings_95 : decode cX12_swings 95 = .ok (.aload_n 0, 1) := by decide +kernel
theorem dX12_swings_96 : decode cX12_swings 96 = .ok (.iload_n 2, 1) := by decide +kernel
theorem dX12_swings_97 : decode cX12_swings 97 = .ok (.invokevirtual 540, 3) := by decide +kernel
theorem dX12_swings_100 : decode cX12_swings 100 = .ok (.goto 4, 3) := by decide +kernel
theorem dX12_swings_103 : decode cX12_swings 103 = .ok (.iload_n 2, 1) := by decide +kernel
theorem dX12_swings_104 : decode cX12_swings 104 = .ok (.ireturn, 1) := by decide +kernel
theorem dX12_quarrel_0 : decode cX12_quarrel 0 = .ok (.aload_n 0, 1) := by decide +kernel
theorem dX12_quarrel_1 : decode cX12_quarrel 1 = .ok (.iconst 0, 1) := by decide +kernel
theorem dX12_quarrel_2 : decode cX12_quarrel 2 = .ok (.putfield 183, 3) := by decide +kernel
theorem dX12_quarrel_5 : decode cX12_quarrel 5 = .ok (.iload_n 1, 1) := by decide +kernel
theorem dX12_quarrel_6 : decode cX12_quarrel 6 = .ok (.iconst (-1), 1) := by decide +kernel
theorem dX12_quarrel_7 : decode cX12_quarrel 7 = .ok (.if_icmp .ne 31, 3) := by decide +kernel
theorem dX12_quarrel_10 : decode cX12_quarrel 10 = .ok (.aload_n 0, 1) := by decide +kernel
theorem dX12_quarrel_11 : decode cX12_quarrel 11 = .ok (.iconst 0, 1) := by decide +kernel
theorem dX12_quarrel_12 : decode cX12_quarrel 12 = .ok (.putfield 543, 3) := by decide +kernel
theorem dX12_quarrel_15 : decode cX12_quarrel 15 = .ok (.iconst 0, 1) := by decide +kernel
theorem dX12_quarrel_16 : decode cX12_quarrel 16 = .ok (.istore_n 3, 1) := by decide +kernel
theorem dX12_quarrel_17 : decode cX12_quarrel 17 = .ok (.iload_n 3, 1) := by decide +kernel
theorem dX12_quarrel_18 : decode cX12_quarrel 18 = .ok (.bipush 8, 2) := by decide +kernel
theorem dX12_quarrel_20 : decode cX12_quarrel 20 = .ok (.if_icmp .ge 16, 3) := by decide +kernel
theorem dX12_quarrel_23 : decode cX12_quarrel 23 = .ok (.aload_n 0, 1) := by decide +kernel
theorem dX12_quarrel_24 : decode cX12_quarrel 24 = .ok (.getfield 149, 3) := by decide +kernel
theorem dX12_quarrel_27 : decode cX12_quarrel 27 = .ok (.iload_n 3, 1) := by decide +kernel
theorem dX12_quarrel_28 : decode cX12_quarrel 28 = .ok (.iconst 0, 1) := by decide +kernel
theorem dX12_quarrel_29 : decode cX12_quarrel 29 = .ok (.iastore, 1) := by decide +kernel
theorem dX12_quarrel_30 : decode cX12_quarrel 30 = .ok (.iinc 3 1, 3) := by decide +kernel
theorem dX12_quarrel_33 : decode cX12_quarrel 33 = .ok (.goto (-16), 3) := by decide +kernel
theorem dX12_quarrel_36 : decode cX12_quarrel 36 = .ok (.iconst 0, 1) := by decide +kernel
theorem dX12_quarrel_37 : decode cX12_quarrel 37 = .ok (.ireturn, 1) := by decide +kernel
theorem dX12_quarrel_38 : decode cX12_quarrel 38 = .ok (.aload_n 0, 1) := by decide +kernel
theorem dX12_quarrel_39 : decode cX12_quarrel 39 = .ok (.iload_n 1, 1) := by decide +kernel
theorem dX12_quarrel_40 : decode cX12_quarrel 40 = .ok (.iconst 0, 1) := by decide +kernel
theorem dX12_quarrel_41 : decode cX12_quarrel 41 = .ok (.bipush 7, 2) := by decide +kernel
theorem dX12_quarrel_43 : decode cX12_quarrel 43 = .ok (.invokevirtual 206, 3) := by decide +kernel
theorem dX12_quarrel_46 : decode cX12_quarrel 46 = .ok (.ifCond .eq 28, 3) := by decide +kernel
theorem dX12_quarrel_49 : decode cX12_quarrel 49 = .ok (.aload_n 0, 1) := by decide +kernel
theorem dX12_quarrel_50 : decode cX12_quarrel 50 = .ok (.iload_n 2, 1) := by decide +kernel
theorem dX12_quarrel_51 : decode cX12_quarrel 51 = .ok (.iconst 0, 1) := by decide +kernel
theorem dX12_quarrel_52 : decode cX12_quarrel 52 = .ok (.bipush 7, 2) := by decide +kernel
theorem dX12_quarrel_54 : decode cX12_quarrel 54 = .ok (.invokevirtual 206, 3) := by decide +kernel
theorem dX12_quarrel_57 : decode cX12_quarrel 57 = .ok (.ifCond .eq 17, 3) := by decide +kernel
theorem dX12_quarrel_60 : decode cX12_quarrel 60 = .ok (.iload_n 1, 1) := by decide +kernel
theorem dX12_quarrel_61 : decode cX12_quarrel 61 = .ok (.iload_n 2, 1) := by decide +kernel
theorem dX12_quarrel_62 : decode cX12_quarrel 62 = .ok (.if_icmp .eq 12, 3) := by decide +kernel
theorem dX12_quarrel_65 : decode cX12_quarrel 65 = .ok (.aload_n 0, 1) := by decide +kernel
theorem dX12_quarrel_66 : decode cX12_quarrel 66 = .ok (.getfield 543, 3) := by decide +kernel
theorem dX12_quarrel_69 : decode cX12_quarrel 69 = .ok (.bipush 8, 2) := by decide +kernel
theorem dX12_quarrel_71 : decode cX12_quarrel 71 = .ok (.if_icmp .ne 5, 3) := by decide +kernel
theorem dX12_quarrel_74 : decode cX12_quarrel 74 = .ok (.iconst (-1), 1) := by decide +kernel
theorem dX12_quarrel_75 : decode cX12_quarrel 75 = .ok (.ireturn, 1) := by decide +kernel
theorem dX12_quarrel_76 : decode cX12_quarrel 76 = .ok (.aload_n 0, 1) := by decide +kernel
theorem dX12_quarrel_77 : decode cX12_quarrel 77 = .ok (.getfield 149, 3) := by decide +kernel
theorem dX12_quarrel_80 : decode cX12_quarrel 80 = .ok (.iload_n 1, 1) := by decide +kernel
theorem dX12_quarrel_81 : decode cX12_quarrel 81 = .ok (.aload_n 0, 1) := by decide +kernel
theorem dX12_quarrel_82 : decode cX12_quarrel 82 = .ok (.getfield 149, 3) := by decide +kernel
theorem dX12_quarrel_85 : decode cX12_quarrel 85 = .ok (.iload_n 1, 1) := by decide +kernel
theorem dX12_quarrel_86 : decode cX12_quarrel 86 = .ok (.iaload, 1) := by decide +kernel
theorem dX12_quarrel_87 : decode cX12_quarrel 87 = .ok (.iconst 1, 1) := by decide +kernel
theorem dX12_quarrel_88 : decode cX12_quarrel 88 = .ok (.iload_n 2, 1) := by decide +kernel
theorem dX12_quarrel_89 : decode cX12_quarrel 89 = .ok (.ishl, 1) := by decide +kernel
theorem dX12_quarrel_90 : decode cX12_quarrel 90 = .ok (.ior, 1) := by decide +kernel
theorem dX12_quarrel_91 : decode cX12_quarrel 91 = .ok (.iastore, 1) := by decide +kernel
theorem dX12_quarrel_92 : decode cX12_quarrel 92 = .ok (.aload_n 0, 1) := by decide +kernel
theorem dX12_quarrel_93 : decode cX12_quarrel 93 = .ok (.getfield 149, 3) := by decide +kernel
theorem dX12_quarrel_96 : decode cX12_quarrel 96 = .ok (.iload_n 2, 1) := by decide +kernel
theorem dX12_quarrel_97 : decode cX12_quarrel 97 = .ok (.aload_n 0, 1) := by decide +kernel
theorem dX12_quarrel_98 : decode cX12_quarrel 98 = .ok (.getfield 149, 3) := by decide +kernel
theorem dX12_quarrel_101 : decode cX12_quarrel 101 = .ok (.iload_n 2, 1) := by decide +kernel
theorem dX12_quarrel_102 : decode cX12_quarrel 102 = .ok (.iaload, 1) := by decide +kernel
theorem dX12_quarrel_103 : decode cX12_quarrel 103 = .ok (.iconst 1, 1) := by decide +kernel
theorem dX12_quarrel_104 : decode cX12_quarrel 104 = .ok (.iload_n 1, 1) := by decide +kernel
theorem dX12_quarrel_105 : decode cX12_quarrel 105 = .ok (.ishl, 1) := by decide +kernel
theorem dX12_quarrel_106 : decode cX12_quarrel 106 = .ok (.ior, 1) := by decide +kernel
theorem dX12_quarrel_107 : decode cX12_quarrel 107 = .ok (.iastore, 1) := by decide +kernel
theorem dX12_quarrel_108 : decode cX12_quarrel 108 = .ok (.aload_n 0, 1) := by decide +kernel
theorem dX12_quarrel_109 : decode cX12_quarrel 109 = .ok (.aload_n 0, 1) := by decide +kernel
theorem dX12_quarrel_110 : decode cX12_quarrel 110 = .ok (.getfield 543, 3) := by decide +kernel
theorem dX12_quarrel_113 : decode cX12_quarrel 113 = .ok (.iconst 1, 1) := by decide +kernel
theorem dX12_quarrel_114 : decode cX12_quarrel 114 = .ok (.iadd, 1) := by decide +kernel
theorem dX12_quarrel_115 : decode cX12_quarrel 115 = .ok (.putfield 543, 3) := by decide +kernel
theorem dX12_quarrel_118 : decode cX12_quarrel 118 = .ok (.aload_n 0, 1) := by decide +kernel
theorem dX12_quarrel_119 : decode cX12_quarrel 119 = .ok (.getfield 543, 3) := by decide +kernel
theorem dX12_quarrel_122 : decode cX12_quarrel 122 = .ok (.ireturn, 1) := by decide +kernel
theorem dX12_seated_0 : decode cX12_seated 0 = .ok (.aload_n 0, 1) := by decide +kernel
theorem dX12_seated_1 : decode cX12_seated 1 = .ok (.iconst 0, 1) := by decide +kernel
theorem dX12_seated_2 : decode cX12_seated 2 = .ok (.putfield 183, 3) := by decide +kernel
theorem dX12_seated_5 : decode cX12_seated 5 = .ok (.aload_n 0, 1) := by decide +kernel
theorem dX12_seated_6 : decode cX12_seated 6 = .ok (.iload_n 1, 1) := by decide +kernel
theorem dX12_seated_7 : decode cX12_seated 7 = .ok (.iconst 1, 1) := by decide +kernel
theorem dX12_seated_8 : decode cX12_seated 8 = .ok (.bipush 8, 2) := by decide +kernel
theorem dX12_seated_10 : decode cX12_seated 10 = .ok (.invokevirtual 206, 3) := by decide +kernel
theorem dX12_seated_13 : decode cX12_seated 13 = .ok (.ifCond .eq 13, 3) := by decide +kernel
theorem dX12_seated_16 : decode cX12_seated 16 = .ok (.aload_n 0, 1) := by decide +kernel
theorem dX12_seated_17 : decode cX12_seated 17 = .ok (.iload_n 2, 1) := by decide +kernel
theorem dX12_seated_18 : decode cX12_seated 18 = .ok (.iconst 0, 1) := by decide +kernel
theorem dX12_seated_19 : decode cX12_seated 19 = .ok (.iconst 1, 1) := by decide +kernel
theorem dX12_seated_20 : decode cX12_seated 20 = .ok (.invokevirtual 206, 3) := by decide +kernel
theorem dX12_seated_23 : decode cX12_seated 23 = .ok (.ifCond .ne 5, 3) := by decide +kernel
theorem dX12_seated_26 : decode cX12_seated 26 = .ok (.iconst (-1), 1) := by decide +kernel
theorem dX12_seated_27 : decode cX12_seated 27 = .ok (.ireturn, 1) := by decide +kernel
theorem dX12_seated_28 : decode cX12_seated 28 = .ok (.iconst 0, 1) := by decide +kernel
theorem dX12_seated_29 : decode cX12_seated 29 = .ok (.istore_n 3, 1) := by decide +kernel
theorem dX12_seated_30 : decode cX12_seated 30 = .ok (.iload_n 3, 1) := by decide +kernel
theorem dX12_seated_31 : decode cX12_seated 31 = .ok (.sipush 2048, 3) := by decide +kernel
theorem dX12_seated_34 : decode cX12_seated 34 = .ok (.if_icmp .ge 16, 3) := by decide +kernel
theorem dX12_seated_37 : decode cX12_seated 37 = .ok (.aload_n 0, 1) := by decide +kernel
theorem dX12_seated_38 : decode cX12_seated 38 = .ok (.getfield 152, 3) := by decide +kernel
theorem dX12_seated_41 : decode cX12_seated 41 = .ok (.iload_n 3, 1) := by decide +kernel
theorem dX12_seated_42 : decode cX12_seated 42 = .ok (.iconst 0, 1) := by decide +kernel
theorem dX12_seated_43 : decode cX12_seated 43 = .ok (.iastore, 1) := by decide +kernel
theorem dX12_seated_44 : decode cX12_seated 44 = .ok (.iinc 3 1, 3) := by decide +kernel
theorem dX12_seated_47 : decode cX12_seated 47 = .ok (.goto (-17), 3) := by decide +kernel
theorem dX12_seated_50 : decode cX12_seated 50 = .ok (.iconst 0, 1) := by decide +kernel
theorem dX12_seated_51 : decode cX12_seated 51 = .ok (.istore_n 3, 1) := by decide +kernel
theorem dX12_seated_52 : decode cX12_seated 52 = .ok (.iload_n 3, 1) := by decide +kernel
theorem dX12_seated_53 : decode cX12_seated 53 = .ok (.iload_n 1, 1) := by decide +kernel
theorem dX12_seated_54 : decode cX12_seated 54 = .ok (.if_icmp .ge 31, 3) := by decide +kernel
theorem dX12_seated_57 : decode cX12_seated 57 = .ok (.iload_n 2, 1) := by decide +kernel
theorem dX12_seated_58 : decode cX12_seated 58 = .ok (.ifCond .eq 7, 3) := by decide +kernel
theorem dX12_seated_61 : decode cX12_seated 61 = .ok (.iload_n 3, 1) := by decide +kernel
theorem dX12_seated_62 : decode cX12_seated 62 = .ok (.ifCond .ne 17, 3) := by decide +kernel
theorem dX12_seated_65 : decode cX12_seated 65 = .ok (.aload_n 0, 1) := by decide +kernel
theorem dX12_seated_66 : decode cX12_seated 66 = .ok (.getfield 152, 3) := by decide +kernel
theorem dX12_seated_69 : decode cX12_seated 69 = .ok (.bipush 8, 2) := by decide +kernel
theorem dX12_seated_71 : decode cX12_seated 71 = .ok (.iconst 1, 1) := by decide +kernel
theorem dX12_seated_72 : decode cX12_seated 72 = .ok (.iload_n 3, 1) := by decide +kernel
theorem dX12_seated_73 : decode cX12_seated 73 = .ok (.ishl, 1) := by decide +kernel
theorem dX12_seated_74 : decode cX12_seated 74 = .ok (.imul, 1) := by decide +kernel
theorem dX12_seated_75 : decode cX12_seated 75 = .ok (.iload_n 3, 1) := by decide +kernel
theorem dX12_seated_76 : decode cX12_seated 76 = .ok (.iadd, 1) := by decide +kernel
theorem dX12_seated_77 : decode cX12_seated 77 = .ok (.iconst 1, 1) := by decide +kernel
theorem dX12_seated_78 : decode cX12_seated 78 = .ok (.iastore, 1) := by decide +kernel
theorem dX12_seated_79 : decode cX12_seated 79 = .ok (.iinc 3 1, 3) := by decide +kernel
theorem dX12_seated_82 : decode cX12_seated 82 = .ok (.goto (-30), 3) := by decide +kernel
theorem dX12_seated_85 : decode cX12_seated 85 = .ok (.iconst 1, 1) := by decide +kernel
theorem dX12_seated_86 : decode cX12_seated 86 = .ok (.istore_n 3, 1) := by decide +kernel
theorem dX12_seated_87 : decode cX12_seated 87 = .ok (.iload_n 3, 1) := by decide +kernel
theorem dX12_seated_88 : decode cX12_seated 88 = .ok (.iconst 1, 1) := by decide +kernel
theorem dX12_seated_89 : decode cX12_seated 89 = .ok (.iload_n 1, 1) := by decide +kernel
theorem dX12_seated_90 : decode cX12_seated 90 = .ok (.ishl, 1) := by decide +kernel
theorem dX12_seated_91 : decode cX12_seated 91 = .ok (.if_icmp .ge 112, 3) := by decide +kernel
theorem dX12_seated_94 : decode cX12_seated 94 = .ok (.iconst 0, 1) := by decide +kernel
theorem dX12_seated_95 : decode cX12_seated 95 = .ok (.istore 4, 2) := by decide +kernel
theorem dX12_seated_97 : decode cX12_seated 97 = .ok (.iload 4, 2) := by decide +kernel
theorem dX12_seated_99 : decode cX12_seated 99 = .ok (.iload_n 1, 1) := by decide +kernel
theorem dX12_seated_100 : decode cX12_seated 100 = .ok (.if_icmp .ge 97, 3) := by decide +kernel
theorem dX12_seated_103 : decode cX12_seated 103 = .ok (.iconst 0, 1) := by decide +kernel
theorem dX12_seated_104 : decode cX12_seated 104 = .ok (.istore 5, 2) := by decide +kernel
theorem dX12_seated_106 : decode cX12_seated 106 = .ok (.iload 5, 2) := by decide +kernel
theorem dX12_seated_108 : decode cX12_seated 108 = .ok (.iload_n 1, 1) := by decide +kernel
theorem dX12_seated_109 : decode cX12_seated 109 = .ok (.if_icmp .ge 82, 3) := by decide +kernel
theorem dX12_seated_112 : decode cX12_seated 112 = .ok (.aload_n 0, 1) := by decide +kernel
theorem dX12_seated_113 : decode cX12_seated 113 = .ok (.iload_n 3, 1) := by decide +kernel
theorem dX12_seated_114 : decode cX12_seated 114 = .ok (.iload 5, 2) := by decide +kernel
theorem dX12_seated_116 : decode cX12_seated 116 = .ok (.invokevirtual 469, 3) := by decide +kernel
theorem dX12_seated_119 : decode cX12_seated 119 = .ok (.ifCond .ne 66, 3) := by decide +kernel
theorem dX12_seated_122 : decode cX12_seated 122 = .ok (.aload_n 0, 1) := by decide +kernel
theorem dX12_seated_123 : decode cX12_seated 123 = .ok (.aload_n 0, 1) := by decide +kernel
theorem dX12_seated_124 : decode cX12_seated 124 = .ok (.getfield 149, 3) := by decide +kernel
theorem dX12_seated_127 : decode cX12_seated 127 = .ok (.iload 4, 2) := by decide +kernel
theorem dX12_seated_129 : decode cX12_seated 129 = .ok (.iaload, 1) := by decide +kernel
theorem dX12_seated_130 : decode cX12_seated 130 = .ok (.iload 5, 2) := by decide +kernel
theorem dX12_seated_132 : decode cX12_seated 132 = .ok (.invokevirtual 469, 3) := by decide +kernel
theorem dX12_seated_135 : decode cX12_seated 135 = .ok (.ifCond .ne 50, 3) := by decide +kernel
theorem dX12_seated_138 : decode cX12_seated 138 = .ok (.aload_n 0, 1) := by decide +kernel
theorem dX12_seated_139 : decode cX12_seated 139 = .ok (.getfield 152, 3) := by decide +kernel
theorem dX12_seated_142 : decode cX12_seated 142 = .ok (.bipush 8, 2) := by decide +kernel
theorem dX12_seated_144 : decode cX12_seated 144 = .ok (.iload_n 3, 1) := by decide +kernel
theorem dX12_seated_145 : decode cX12_seated 145 = .ok (.iconst 1, 1) := by decide +kernel
theorem dX12_seated_146 : decode cX12_seated 146 = .ok (.iload 5, 2) := by decide +kernel
theorem dX12_seated_148 : decode cX12_seated 148 = .ok (.ishl, 1) := by decide +kernel
theorem dX12_seated_149 : decode cX12_seated 149 = .ok (.ior, 1) := by decide +kernel
theorem dX12_seated_150 : decode cX12_seated 150 = .ok (.imul, 1) := by decide +kernel
theorem dX12_seated_151 : decode cX12_seated 151 = .ok (.iload 5, 2) := by decide +kernel
theorem dX12_seated_153 : decode cX12_seated 153 = .ok (.iadd, 1) := by decide +kernel
theorem dX12_seated_154 : decode cX12_seated 154 = .ok (.aload_n 0, 1) := by decide +kernel
theorem dX12_seated_155 : decode cX12_seated 155 = .ok (.getfield 152, 3) := by decide +kernel
theorem dX12_seated_158 : decode cX12_seated 158 = .ok (.bipush 8, 2) := by decide +kernel
theorem dX12_seated_160 : decode cX12_seated 160 = .ok (.iload_n 3, 1) := by decide +kernel
theorem dX12_seated_161 : decode cX12_seated 161 = .ok (.iconst 1, 1) := by decide +kernel
theorem dX12_seated_162 : decode cX12_seated 162 = .ok (.iload 5, 2) := by decide +kernel
theorem dX12_seated_164 : decode cX12_seated 164 = .ok (.ishl, 1) := by decide +kernel
theorem dX12_seated_165 : decode cX12_seated 165 = .ok (.ior, 1) := by decide +kernel
theorem dX12_seated_166 : decode cX12_seated 166 = .ok (.imul, 1) := by decide +kernel
theorem dX12_seated_167 : decode cX12_seated 167 = .ok (.iload 5, 2) := by decide +kernel
theorem dX12_seated_169 : decode cX12_seated 169 = .ok (.iadd, 1) := by decide +kernel
theorem dX12_seated_170 : decode cX12_seated 170 = .ok (.iaload, 1) := by decide +kernel
theorem dX12_seated_171 : decode cX12_seated 171 = .ok (.aload_n 0, 1) := by decide +kernel
theorem dX12_seated_172 : decode cX12_seated 172 = .ok (.getfield 152, 3) := by decide +kernel
theorem dX12_seated_175 : decode cX12_seated 175 = .ok (.bipush 8, 2) := by decide +kernel
theorem dX12_seated_177 : decode cX12_seated 177 = .ok (.iload_n 3, 1) := by decide +kernel
theorem dX12_seated_178 : decode cX12_seated 178 = .ok (.imul, 1) := by decide +kernel
theorem dX12_seated_179 : decode cX12_seated 179 = .ok (.iload 4, 2) := by decide +kernel
theorem dX12_seated_181 : decode cX12_seated 181 = .ok (.iadd, 1) := by decide +kernel
theorem dX12_seated_182 : decode cX12_seated 182 = .ok (.iaload, 1) := by decide +kernel
theorem dX12_seated_183 : decode cX12_seated 183 = .ok (.iadd, 1) := by decide +kernel
theorem dX12_seated_184 : decode cX12_seated 184 = .ok (.iastore, 1) := by decide +kernel
theorem dX12_seated_185 : decode cX12_seated 185 = .ok (.iinc 5 1, 3) := by decide +kernel
theorem dX12_seated_188 : decode cX12_seated 188 = .ok (.goto (-82), 3) := by decide +kernel
theorem dX12_seated_191 : decode cX12_seated 191 = .ok (.iinc 4 1, 3) := by decide +kernel
theorem dX12_seated_194 : decode cX12_seated 194 = .ok (.goto (-97), 3) := by decide +kernel
theorem dX12_seated_197 : decode cX12_seated 197 = .ok (.iinc 3 1, 3) := by decide +kernel
theorem dX12_seated_200 : decode cX12_seated 200 = .ok (.goto (-113), 3) := by decide +kernel
theorem dX12_seated_203 : decode cX12_seated 203 = .ok (.iconst 0, 1) := by decide +kernel
theorem dX12_seated_204 : decode cX12_seated 204 = .ok (.istore_n 3, 1) := by decide +kernel
theorem dX12_seated_205 : decode cX12_seated 205 = .ok (.iconst 0, 1) := by decide +kernel
theorem dX12_seated_206 : decode cX12_seated 206 = .ok (.istore 4, 2) := by decide +kernel
theorem dX12_seated_208 : decode cX12_seated 208 = .ok (.iload 4, 2) := by decide +kernel
theorem dX12_seated_210 : decode cX12_seated 210 = .ok (.iload_n 1, 1) := by decide +kernel
theorem dX12_seated_211 : decode cX12_seated 211 = .ok (.if_icmp .ge 47, 3) := by decide +kernel
theorem dX12_seated_214 : decode cX12_seated 214 = .ok (.iload_n 2, 1) := by decide +kernel
theorem dX12_seated_215 : decode cX12_seated 215 = .ok (.ifCond .eq 18, 3) := by decide +kernel
theorem dX12_seated_218 : decode cX12_seated 218 = .ok (.aload_n 0, 1) := by decide +kernel
theorem dX12_seated_219 : decode cX12_seated 219 = .ok (.aload_n 0, 1) := by decide +kernel
theorem dX12_seated_220 : decode cX12_seated 220 = .ok (.getfield 149, 3) := by decide +kernel
theorem dX12_seated_223 : decode cX12_seated 223 = .ok (.iload 4, 2) := by decide +kernel
theorem dX12_seated_225 : decode cX12_seated 225 = .ok (.iaload, 1) := by decide +kernel
theorem dX12_seated_226 : decode cX12_seated 226 = .ok (.iconst 0, 1) := by decide +kernel
theorem dX12_seated_227 : decode cX12_seated 227 = .ok (.invokevirtual 469, 3) := by decide +kernel
theorem dX12_seated_230 : decode cX12_seated 230 = .ok (.ifCond .ne 22, 3) := by decide +kernel
theorem dX12_seated_233 : decode cX12_seated 233 = .ok (.iload_n 3, 1) := by decide +kernel
theorem dX12_seated_234 : decode cX12_seated 234 = .ok (.aload_n 0, 1) := by decide +kernel
theorem dX12_seated_235 : decode cX12_seated 235 = .ok (.getfield 152, 3) := by decide +kernel
theorem dX12_seated_238 : decode cX12_seated 238 = .ok (.bipush 8, 2) := by decide +kernel
theorem dX12_seated_240 : decode cX12_seated 240 = .ok (.iconst 1, 1) := by decide +kernel
theorem dX12_seated_241 : decode cX12_seated 241 = .ok (.iload_n 1, 1) := by decide +kernel
theorem dX12_seated_242 : decode cX12_seated 242 = .ok (.ishl, 1) := by decide +kernel
theorem dX12_seated_243 : decode cX12_seated 243 = .ok (.iconst 1, 1) := by decide +kernel
theorem dX12_seated_244 : decode cX12_seated 244 = .ok (.isub, 1) := by decide +kernel
theorem dX12_seated_245 : decode cX12_seated 245 = .ok (.imul, 1) := by decide +kernel
theorem dX12_seated_246 : decode cX12_seated 246 = .ok (.iload 4, 2) := by decide +kernel
theorem dX12_seated_248 : decode cX12_seated 248 = .ok (.iadd, 1) := by decide +kernel
theorem dX12_seated_249 : decode cX12_seated 249 = .ok (.iaload, 1) := by decide +kernel
theorem dX12_seated_250 : decode cX12_seated 250 = .ok (.iadd, 1) := by decide +kernel
theorem dX12_seated_251 : decode cX12_seated 251 = .ok (.istore_n 3, 1) := by decide +kernel
theorem dX12_seated_252 : decode cX12_seated 252 = .ok (.iinc 4 1, 3) := by decide +kernel
theorem dX12_seated_255 : decode cX12_seated 255 = .ok (.goto (-47), 3) := by decide +kernel
theorem dX12_seated_258 : decode cX12_seated 258 = .ok (.iload_n 3, 1) := by decide +kernel
theorem dX12_seated_259 : decode cX12_seated 259 = .ok (.ireturn, 1) := by decide +kernel
theorem dX12_last_0 : decode cX12_last 0 = .ok (.aload_n 0, 1) := by decide +kernel
theorem dX12_last_1 : decode cX12_last 1 = .ok (.iconst 0, 1) := by decide +kernel
theorem dX12_last_2 : decode cX12_last 2 = .ok (.putfield 183, 3) := by decide +kernel
theorem dX12_last_5 : decode cX12_last 5 = .ok (.aload_n 0, 1) := by decide +kernel
theorem dX12_last_6 : decode cX12_last 6 = .ok (.iload_n 1, 1) := by decide +kernel
theorem dX12_last_7 : decode cX12_last 7 = .ok (.invokevirtual 210, 3) := by decide +kernel
theorem dX12_last_10 : decode cX12_last 10 = .ok (.ifCond .eq 13, 3) := by decide +kernel
theorem dX12_last_13 : decode cX12_last 13 = .ok (.aload_n 0, 1) := by decide +kernel
theorem dX12_last_14 : decode cX12_last 14 = .ok (.iload_n 2, 1) := by decide +kernel
theorem dX12_last_15 : decode cX12_last 15 = .ok (.iconst 0, 1) := by decide +kernel
theorem dX12_last_16 : decode cX12_last 16 = .ok (.iconst 2, 1) := by decide +kernel
theorem dX12_last_17 : decode cX12_last 17 = .ok (.invokevirtual 206, 3) := by decide +kernel
theorem dX12_last_20 : decode cX12_last 20 = .ok (.ifCond .ne 5, 3) := by decide +kernel
theorem dX12_last_23 : decode cX12_last 23 = .ok (.iconst (-1), 1) := by decide +kernel
theorem dX12_last_24 : decode cX12_last 24 = .ok (.ireturn, 1) := by decide +kernel
theorem dX12_last_25 : decode cX12_last 25 = .ok (.iconst 0, 1) := by decide +kernel
theorem dX12_last_26 : decode cX12_last 26 = .ok (.istore_n 3, 1) := by decide +kernel
theorem dX12_last_27 : decode cX12_last 27 = .ok (.iload_n 3, 1) := by decide +kernel
theorem dX12_last_28 : decode cX12_last 28 = .ok (.aload_n 0, 1) := by decide +kernel
theorem dX12_last_29 : decode cX12_last 29 = .ok (.getfield 196, 3) := by decide +kernel
theorem dX12_last_32 : decode cX12_last 32 = .ok (.if_icmp .ge 27, 3) := by decide +kernel
theorem dX12_last_35 : decode cX12_last 35 = .ok (.aload_n 0, 1) := by decide +kernel
theorem dX12_last_36 : decode cX12_last 36 = .ok (.getfield 155, 3) := by decide +kernel
theorem dX12_last_39 : decode cX12_last 39 = .ok (.iload_n 3, 1) := by decide +kernel
theorem dX12_last_40 : decode cX12_last 40 = .ok (.iload_n 3, 1) := by decide +kernel
theorem dX12_last_41 : decode cX12_last 41 = .ok (.iload_n 1, 1) := by decide +kernel
theorem dX12_last_42 : decode cX12_last 42 = .ok (.if_icmp .ne 7, 3) := by decide +kernel
theorem dX12_last_45 : decode cX12_last 45 = .ok (.iconst 0, 1) := by decide +kernel
theorem dX12_last_46 : decode cX12_last 46 = .ok (.goto 6, 3) := by decide +kernel
theorem dX12_last_49 : decode cX12_last 49 = .ok (.ldc_w 499, 3) := by decide +kernel
theorem dX12_last_52 : decode cX12_last 52 = .ok (.iastore, 1) := by decide +kernel
theorem dX12_last_53 : decode cX12_last 53 = .ok (.iinc 3 1, 3) := by decide +kernel
theorem dX12_last_56 : decode cX12_last 56 = .ok (.goto (-29), 3) := by decide +kernel
theorem dX12_last_59 : decode cX12_last 59 = .ok (.iconst 0, 1) := by decide +kernel
theorem dX12_last_60 : decode cX12_last 60 = .ok (.istore_n 3, 1) := by decide +kernel
theorem dX12_last_61 : decode cX12_last 61 = .ok (.iload_n 3, 1) := by decide +kernel
theorem dX12_last_62 : decode cX12_last 62 = .ok (.aload_n 0, 1) := by decide +kernel
theorem dX12_last_63 : decode cX12_last 63 = .ok (.getfield 196, 3) := by decide +kernel
theorem dX12_last_66 : decode cX12_last 66 = .ok (.if_icmp .ge 100, 3) := by decide +kernel
theorem dX12_last_69 : decode cX12_last 69 = .ok (.iconst 0, 1) := by decide +kernel
theorem dX12_last_70 : decode cX12_last 70 = .ok (.istore 4, 2) := by decide +kernel
theorem dX12_last_72 : decode cX12_last 72 = .ok (.iload 4, 2) := by decide +kernel
theorem dX12_last_74 : decode cX12_last 74 = .ok (.aload_n 0, 1) := by decide +kernel
theorem dX12_last_75 : decode cX12_last 75 = .ok (.getfield 196, 3) := by decide +kernel
theorem dX12_last_78 : decode cX12_last 78 = .ok (.if_icmp .ge 82, 3) := by decide +kernel
theorem dX12_last_81 : decode cX12_last 81 = .ok (.iconst 0, 1) := by decide +kernel
theorem dX12_last_82 : decode cX12_last 82 = .ok (.istore 5, 2) := by decide +kernel
theorem dX12_last_84 : decode cX12_last 84 = .ok (.iload 5, 2) := by decide +kernel
theorem dX12_last_86 : decode cX12_last 86 = .ok (.aload_n 0, 1) := by decide +kernel
theorem dX12_last_87 : decode cX12_last 87 = .ok (.getfield 196, 3) := by decide +kernel
theorem dX12_last_90 : decode cX12_last 90 = .ok (.if_icmp .ge 64, 3) := by decide +kernel
theorem dX12_last_93 : decode cX12_last 93 = .ok (.aload_n 0, 1) := by decide +kernel
theorem dX12_last_94 : decode cX12_last 94 = .ok (.getfield 71, 3) := by decide +kernel
theorem dX12_last_97 : decode cX12_last 97 = .ok (.bipush 12, 2) := by decide +kernel
theorem dX12_last_99 : decode cX12_last 99 = .ok (.iload 4, 2) := by decide +kernel
theorem dX12_last_101 : decode cX12_last 101 = .ok (.imul, 1) := by decide +kernel
theorem dX12_last_102 : decode cX12_last 102 = .ok (.iload 5, 2) := by decide +kernel
theorem dX12_last_104 : decode cX12_last 104 = .ok (.iadd, 1) := by decide +kernel
theorem dX12_last_105 : decode cX12_last 105 = .ok (.iaload, 1) := by decide +kernel
theorem dX12_last_106 : decode cX12_last 106 = .ok (.ifCond .le 42, 3) := by decide +kernel
theorem dX12_last_109 : decode cX12_last 109 = .ok (.aload_n 0, 1) := by decide +kernel
theorem dX12_last_110 : decode cX12_last 110 = .ok (.getfield 155, 3) := by decide +kernel
theorem dX12_last_113 : decode cX12_last 113 = .ok (.iload 5, 2) := by decide +kernel
theorem dX12_last_115 : decode cX12_last 115 = .ok (.aload_n 0, 1) := by decide +kernel
theorem dX12_last_116 : decode cX12_last 116 = .ok (.aload_n 0, 1) := by decide +kernel
theorem dX12_last_117 : decode cX12_last 117 = .ok (.getfield 155, 3) := by decide +kernel
theorem dX12_last_120 : decode cX12_last 120 = .ok (.iload 5, 2) := by decide +kernel
theorem dX12_last_122 : decode cX12_last 122 = .ok (.iaload, 1) := by decide +kernel
theorem dX12_last_123 : decode cX12_last 123 = .ok (.aload_n 0, 1) := by decide +kernel
theorem dX12_last_124 : decode cX12_last 124 = .ok (.getfield 155, 3) := by decide +kernel
theorem dX12_last_127 : decode cX12_last 127 = .ok (.iload 4, 2) := by decide +kernel
theorem dX12_last_129 : decode cX12_last 129 = .ok (.iaload, 1) := by decide +kernel
theorem dX12_last_130 : decode cX12_last 130 = .ok (.aload_n 0, 1) := by decide +kernel
theorem dX12_last_131 : decode cX12_last 131 = .ok (.getfield 71, 3) := by decide +kernel
theorem dX12_last_134 : decode cX12_last 134 = .ok (.bipush 12, 2) := by decide +kernel
theorem dX12_last_136 : decode cX12_last 136 = .ok (.iload 4, 2) := by decide +kernel
theorem dX12_last_138 : decode cX12_last 138 = .ok (.imul, 1) := by decide +kernel
theorem dX12_last_139 : decode cX12_last 139 = .ok (.iload 5, 2) := by decide +kernel
theorem dX12_last_141 : decode cX12_last 141 = .ok (.iadd, 1) := by decide +kernel
theorem dX12_last_142 : decode cX12_last 142 = .ok (.iaload, 1) := by decide +kernel
theorem dX12_last_143 : decode cX12_last 143 = .ok (.iadd, 1) := by decide +kernel
theorem dX12_last_144 : decode cX12_last 144 = .ok (.invokevirtual 453, 3) := by decide +kernel
theorem dX12_last_147 : decode cX12_last 147 = .ok (.iastore, 1) := by decide +kernel
theorem dX12_last_148 : decode cX12_last 148 = .ok (.iinc 5 1, 3) := by decide +kernel
theorem dX12_last_151 : decode cX12_last 151 = .ok (.goto (-67), 3) := by decide +kernel
theorem dX12_last_154 : decode cX12_last 154 = .ok (.iinc 4 1, 3) := by decide +kernel
theorem dX12_last_157 : decode cX12_last 157 = .ok (.goto (-85), 3) := by decide +kernel
theorem dX12_last_160 : decode cX12_last 160 = .ok (.iinc 3 1, 3) := by decide +kernel
theorem dX12_last_163 : decode cX12_last 163 = .ok (.goto (-102), 3) := by decide +kernel
theorem dX12_last_166 : decode cX12_last 166 = .ok (.iconst 0, 1) := by decide +kernel
theorem dX12_last_167 : decode cX12_last 167 = .ok (.istore_n 3, 1) := by decide +kernel
theorem dX12_last_168 : decode cX12_last 168 = .ok (.iload_n 1, 1) := by decide +kernel
theorem dX12_last_169 : decode cX12_last 169 = .ok (.istore 4, 2) := by decide +kernel
theorem dX12_last_171 : decode cX12_last 171 = .ok (.aload_n 0, 1) := by decide +kernel
theorem dX12_last_172 : decode cX12_last 172 = .ok (.getfield 196, 3) := by decide +kernel
theorem dX12_last_175 : decode cX12_last 175 = .ok (.iconst 1, 1) := by decide +kernel
theorem dX12_last_176 : decode cX12_last 176 = .ok (.isub, 1) := by decide +kernel
theorem dX12_last_177 : decode cX12_last 177 = .ok (.istore 5, 2) := by decide +kernel
theorem dX12_last_179 : decode cX12_last 179 = .ok (.iload 5, 2) := by decide +kernel
theorem dX12_last_181 : decode cX12_last 181 = .ok (.ifCond .lt 50, 3) := by decide +kernel
theorem dX12_last_184 : decode cX12_last 184 = .ok (.aload_n 0, 1) := by decide +kernel
theorem dX12_last_185 : decode cX12_last 185 = .ok (.getfield 155, 3) := by decide +kernel
theorem dX12_last_188 : decode cX12_last 188 = .ok (.iload 5, 2) := by decide +kernel
theorem dX12_last_190 : decode cX12_last 190 = .ok (.iaload, 1) := by decide +kernel
theorem dX12_last_191 : decode cX12_last 191 = .ok (.ldc_w 499, 3) := by decide +kernel
theorem dX12_last_194 : decode cX12_last 194 = .ok (.if_icmp .lt 6, 3) := by decide +kernel
theorem dX12_last_197 : decode cX12_last 197 = .ok (.goto 28, 3) := by decide +kernel
theorem dX12_last_200 : decode cX12_last 200 = .ok (.iload_n 3, 1) := by decide +kernel
theorem dX12_last_201 : decode cX12_last 201 = .ok (.iconst 1, 1) := by decide +kernel
theorem dX12_last_202 : decode cX12_last 202 = .ok (.iadd, 1) := by decide +kernel
theorem dX12_last_203 : decode cX12_last 203 = .ok (.istore_n 3, 1) := by decide +kernel
theorem dX12_last_204 : decode cX12_last 204 = .ok (.aload_n 0, 1) := by decide +kernel
theorem dX12_last_205 : decode cX12_last 205 = .ok (.getfield 155, 3) := by decide +kernel
theorem dX12_last_208 : decode cX12_last 208 = .ok (.iload 5, 2) := by decide +kernel
theorem dX12_last_210 : decode cX12_last 210 = .ok (.iaload, 1) := by decide +kernel
theorem dX12_last_211 : decode cX12_last 211 = .ok (.aload_n 0, 1) := by decide +kernel
theorem dX12_last_212 : decode cX12_last 212 = .ok (.getfield 155, 3) := by decide +kernel
theorem dX12_last_215 : decode cX12_last 215 = .ok (.iload 4, 2) := by decide +kernel
theorem dX12_last_217 : decode cX12_last 217 = .ok (.iaload, 1) := by decide +kernel
theorem dX12_last_218 : decode cX12_last 218 = .ok (.if_icmp .lt 7, 3) := by decide +kernel
theorem dX12_last_221 : decode cX12_last 221 = .ok (.iload 5, 2) := by decide +kernel
theorem dX12_last_223 : decode cX12_last 223 = .ok (.istore 4, 2) := by decide +kernel
theorem dX12_last_225 : decode cX12_last 225 = .ok (.iinc 5 (-1), 3) := by decide +kernel
theorem dX12_last_228 : decode cX12_last 228 = .ok (.goto (-49), 3) := by decide +kernel
theorem dX12_last_231 : decode cX12_last 231 = .ok (.iload_n 2, 1) := by decide +kernel
theorem dX12_last_232 : decode cX12_last 232 = .ok (.ifCond .ne 8, 3) := by decide +kernel
theorem dX12_last_235 : decode cX12_last 235 = .ok (.iload 4, 2) := by decide +kernel
theorem dX12_last_237 : decode cX12_last 237 = .ok (.goto 19, 3) := by decide +kernel
theorem dX12_last_240 : decode cX12_last 240 = .ok (.iload_n 2, 1) := by decide +kernel
theorem dX12_last_241 : decode cX12_last 241 = .ok (.iconst 1, 1) := by decide +kernel
theorem dX12_last_242 : decode cX12_last 242 = .ok (.if_icmp .ne 13, 3) := by decide +kernel
theorem dX12_last_245 : decode cX12_last 245 = .ok (.aload_n 0, 1) := by decide +kernel
theorem dX12_last_246 : decode cX12_last 246 = .ok (.getfield 155, 3) := by decide +kernel
theorem dX12_last_249 : decode cX12_last 249 = .ok (.iload 4, 2) := by decide +kernel
theorem dX12_last_251 : decode cX12_last 251 = .ok (.iaload, 1) := by decide +kernel
theorem dX12_last_252 : decode cX12_last 252 = .ok (.goto 4, 3) := by decide +kernel
theorem dX12_last_255 : decode cX12_last 255 = .ok (.iload_n 3, 1) := by decide +kernel
theorem dX12_last_256 : decode cX12_last 256 = .ok (.ireturn, 1) := by decide +kernel
theorem dX12_waysUp_0 : decode cX12_waysUp 0 = .ok (.iconst 0, 1) := by decide +kernel
theorem dX12_waysUp_1 : decode cX12_waysUp 1 = .ok (.istore_n 3, 1) := by decide +kernel
theorem dX12_waysUp_2 : decode cX12_waysUp 2 = .ok (.iload_n 3, 1) := by decide +kernel
theorem dX12_waysUp_3 : decode cX12_waysUp 3 = .ok (.iload_n 1, 1) := by decide +kernel
theorem dX12_waysUp_4 : decode cX12_waysUp 4 = .ok (.if_icmp .gt 83, 3) := by decide +kernel
theorem dX12_waysUp_7 : decode cX12_waysUp 7 = .ok (.aload_n 0, 1) := by decide +kernel
theorem dX12_waysUp_8 : decode cX12_waysUp 8 = .ok (.getfield 158, 3) := by decide +kernel
theorem dX12_waysUp_11 : decode cX12_waysUp 11 = .ok (.iload_n 3, 1) := by decide +kernel
theorem dX12_waysUp_12 : decode cX12_waysUp 12 = .ok (.iload_n 3, 1) := by decide +kernel
theorem dX12_waysUp_13 : decode cX12_waysUp 13 = .ok (.ifCond .ne 7, 3) := by decide +kernel
theorem dX12_waysUp_16 : decode cX12_waysUp 16 = .ok (.iconst 1, 1) := by decide +kernel
theorem dX12_waysUp_17 : decode cX12_waysUp 17 = .ok (.goto 4, 3) := by decide +kernel
theorem dX12_waysUp_20 : decode cX12_waysUp 20 = .ok (.iconst 0, 1) := by decide +kernel
theorem dX12_waysUp_21 : decode cX12_waysUp 21 = .ok (.iastore, 1) := by decide +kernel
theorem dX12_waysUp_22 : decode cX12_waysUp 22 = .ok (.iconst 1, 1) := by decide +kernel
theorem dX12_waysUp_23 : decode cX12_waysUp 23 = .ok (.istore 4, 2) := by decide +kernel
theorem dX12_waysUp_25 : decode cX12_waysUp 25 = .ok (.iload 4, 2) := by decide +kernel
theorem dX12_waysUp_27 : decode cX12_waysUp 27 = .ok (.bipush 6, 2) := by decide +kernel
theorem dX12_waysUp_29 : decode cX12_waysUp 29 = .ok (.if_icmp .ge 52, 3) := by decide +kernel
theorem dX12_waysUp_32 : decode cX12_waysUp 32 = .ok (.iload 4, 2) := by decide +kernel
theorem dX12_waysUp_34 : decode cX12_waysUp 34 = .ok (.iload_n 3, 1) := by decide +kernel
theorem dX12_waysUp_35 : decode cX12_waysUp 35 = .ok (.if_icmp .gt 46, 3) := by decide +kernel
theorem dX12_waysUp_38 : decode cX12_waysUp 38 = .ok (.aload_n 0, 1) := by decide +kernel
theorem dX12_waysUp_39 : decode cX12_waysUp 39 = .ok (.iload_n 2, 1) := by decide +kernel
theorem dX12_waysUp_40 : decode cX12_waysUp 40 = .ok (.iload 4, 2) := by decide +kernel
theorem dX12_waysUp_42 : decode cX12_waysUp 42 = .ok (.iconst 1, 1) := by decide +kernel
theorem dX12_waysUp_43 : decode cX12_waysUp 43 = .ok (.isub, 1) := by decide +kernel
theorem dX12_waysUp_44 : decode cX12_waysUp 44 = .ok (.invokevirtual 469, 3) := by decide +kernel
theorem dX12_waysUp_47 : decode cX12_waysUp 47 = .ok (.ifCond .eq 28, 3) := by decide +kernel
theorem dX12_waysUp_50 : decode cX12_waysUp 50 = .ok (.aload_n 0, 1) := by decide +kernel
theorem dX12_waysUp_51 : decode cX12_waysUp 51 = .ok (.getfield 158, 3) := by decide +kernel
theorem dX12_waysUp_54 : decode cX12_waysUp 54 = .ok (.iload_n 3, 1) := by decide +kernel
theorem dX12_waysUp_55 : decode cX12_waysUp 55 = .ok (.aload_n 0, 1) := by decide +kernel
theorem dX12_waysUp_56 : decode cX12_waysUp 56 = .ok (.aload_n 0, 1) := by decide +kernel
theorem dX12_waysUp_57 : decode cX12_waysUp 57 = .ok (.getfield 158, 3) := by decide +kernel
theorem dX12_waysUp_60 : decode cX12_waysUp 60 = .ok (.iload_n 3, 1) := by decide +kernel
theorem dX12_waysUp_61 : decode cX12_waysUp 61 = .ok (.iaload, 1) := by decide +kernel
theorem dX12_waysUp_62 : decode cX12_waysUp 62 = .ok (.aload_n 0, 1) := by decide +kernel
theorem dX12_waysUp_63 : decode cX12_waysUp 63 = .ok (.getfield 158, 3) := by decide +kernel
theorem dX12_waysUp_66 : decode cX12_waysUp 66 = .ok (.iload_n 3, 1) := by decide +kernel
theorem dX12_waysUp_67 : decode cX12_waysUp 67 = .ok (.iload 4, 2) := by decide +kernel
theorem dX12_waysUp_69 : decode cX12_waysUp 69 = .ok (.isub, 1) := by decide +kernel
theorem dX12_waysUp_70 : decode cX12_waysUp 70 = .ok (.iaload, 1) := by decide +kernel
theorem dX12_waysUp_71 : decode cX12_waysUp 71 = .ok (.invokevirtual 531, 3) := by decide +kernel
theorem dX12_waysUp_74 : decode cX12_waysUp 74 = .ok (.iastore, 1) := by decide +kernel
theorem dX12_waysUp_75 : decode cX12_waysUp 75 = .ok (.iinc 4 1, 3) := by decide +kernel
theorem dX12_waysUp_78 : decode cX12_waysUp 78 = .ok (.goto (-53), 3) := by decide +kernel
theorem dX12_waysUp_81 : decode cX12_waysUp 81 = .ok (.iinc 3 1, 3) := by decide +kernel
theorem dX12_waysUp_84 : decode cX12_waysUp 84 = .ok (.goto (-82), 3) := by decide +kernel
theorem dX12_waysUp_87 : decode cX12_waysUp 87 = .ok (.aload_n 0, 1) := by decide +kernel
theorem dX12_waysUp_88 : decode cX12_waysUp 88 = .ok (.getfield 158, 3) := by decide +kernel
theorem dX12_waysUp_91 : decode cX12_waysUp 91 = .ok (.iload_n 1, 1) := by decide +kernel
theorem dX12_waysUp_92 : decode cX12_waysUp 92 = .ok (.iaload, 1) := by decide +kernel
theorem dX12_waysUp_93 : decode cX12_waysUp 93 = .ok (.ireturn, 1) := by decide +kernel
theorem dX12_steps_0 : decode cX12_steps 0 = .ok (.aload_n 0, 1) := by decide +kernel
theorem dX12_steps_1 : decode cX12_steps 1 = .ok (.iconst 0, 1) := by decide +kernel
theorem dX12_steps_2 : decode cX12_steps 2 = .ok (.putfield 183, 3) := by decide +kernel
theorem dX12_steps_5 : decode cX12_steps 5 = .ok (.aload_n 0, 1) := by decide +kernel
theorem dX12_steps_6 : decode cX12_steps 6 = .ok (.iload_n 1, 1) := by decide +kernel
theorem dX12_steps_7 : decode cX12_steps 7 = .ok (.iconst 0, 1) := by decide +kernel
theorem dX12_steps_8 : decode cX12_steps 8 = .ok (.bipush 40, 2) := by decide +kernel
theorem dX12_steps_10 : decode cX12_steps 10 = .ok (.invokevirtual 206, 3) := by decide +kernel
theorem dX12_steps_13 : decode cX12_steps 13 = .ok (.ifCond .eq 24, 3) := by decide +kernel
theorem dX12_steps_16 : decode cX12_steps 16 = .ok (.aload_n 0, 1) := by decide +kernel
theorem dX12_steps_17 : decode cX12_steps 17 = .ok (.iload_n 2, 1) := by decide +kernel
theorem dX12_steps_18 : decode cX12_steps 18 = .ok (.iconst 0, 1) := by decide +kernel
theorem dX12_steps_19 : decode cX12_steps 19 = .ok (.bipush 31, 2) := by decide +kernel
theorem dX12_steps_21 : decode cX12_steps 21 = .ok (.invokevirtual 206, 3) := by decide +kernel
theorem dX12_steps_24 : decode cX12_steps 24 = .ok (.ifCond .eq 13, 3) := by decide +kernel
theorem dX12_steps_27 : decode cX12_steps 27 = .ok (.aload_n 0, 1) := by decide +kernel
theorem dX12_steps_28 : decode cX12_steps 28 = .ok (.iload_n 3, 1) := by decide +kernel
theorem dX12_steps_29 : decode cX12_steps 29 = .ok (.iconst 0, 1) := by decide +kernel
theorem dX12_steps_30 : decode cX12_steps 30 = .ok (.iconst 1, 1) := by decide +kernel
theorem dX12_steps_31 : decode cX12_steps 31 = .ok (.invokevirtual 206, 3) := by decide +kernel
theorem dX12_steps_34 : decode cX12_steps 34 = .ok (.ifCond .ne 5, 3) := by decide +kernel
theorem dX12_steps_37 : decode cX12_steps 37 = .ok (.iconst (-1), 1) := by decide +kernel
theorem dX12_steps_38 : decode cX12_steps 38 = .ok (.ireturn, 1) := by decide +kernel
theorem dX12_steps_39 : decode cX12_steps 39 = .ok (.aload_n 0, 1) := by decide +kernel
theorem dX12_steps_40 : decode cX12_steps 40 = .ok (.iload_n 1, 1) := by decide +kernel
theorem dX12_steps_41 : decode cX12_steps 41 = .ok (.iload_n 2, 1) := by decide +kernel
theorem dX12_steps_42 : decode cX12_steps 42 = .ok (.invokevirtual 546, 3) := by decide +kernel
theorem dX12_steps_45 : decode cX12_steps 45 = .ok (.istore 4, 2) := by decide +kernel
theorem dX12_steps_47 : decode cX12_steps 47 = .ok (.iload_n 3, 1) := by decide +kernel
theorem dX12_steps_48 : decode cX12_steps 48 = .ok (.ifCond .eq 7, 3) := by decide +kernel
theorem dX12_steps_51 : decode cX12_steps 51 = .ok (.iload_n 1, 1) := by decide +kernel
theorem dX12_steps_52 : decode cX12_steps 52 = .ok (.ifCond .ne 6, 3) := by decide +kernel
theorem dX12_steps_55 : decode cX12_steps 55 = .ok (.iload 4, 2) := by decide +kernel
theorem dX12_steps_57 : decode cX12_steps 57 = .ok (.ireturn, 1) := by decide +kernel
theorem dX12_steps_58 : decode cX12_steps 58 = .ok (.iconst 0, 1) := by decide +kernel
theorem dX12_steps_59 : decode cX12_steps 59 = .ok (.istore 5, 2) := by decide +kernel
theorem dX12_steps_61 : decode cX12_steps 61 = .ok (.iconst 1, 1) := by decide +kernel
theorem dX12_steps_62 : decode cX12_steps 62 = .ok (.istore 6, 2) := by decide +kernel
theorem dX12_steps_64 : decode cX12_steps 64 = .ok (.iload 6, 2) := by decide +kernel
theorem dX12_steps_66 : decode cX12_steps 66 = .ok (.bipush 6, 2) := by decide +kernel
theorem dX12_steps_68 : decode cX12_steps 68 = .ok (.if_icmp .ge 66, 3) := by decide +kernel
theorem dX12_steps_71 : decode cX12_steps 71 = .ok (.aload_n 0, 1) := by decide +kernel
theorem dX12_steps_72 : decode cX12_steps 72 = .ok (.iload_n 2, 1) := by decide +kernel
theorem dX12_steps_73 : decode cX12_steps 73 = .ok (.iload 6, 2) := by decide +kernel
theorem dX12_steps_75 : decode cX12_steps 75 = .ok (.iconst 1, 1) := by decide +kernel
theorem dX12_steps_76 : decode cX12_steps 76 = .ok (.isub, 1) := by decide +kernel
theorem dX12_steps_77 : decode cX12_steps 77 = .ok (.invokevirtual 469, 3) := by decide +kernel
theorem dX12_steps_80 : decode cX12_steps 80 = .ok (.ifCond .ne 6, 3) := by decide +kernel
theorem dX12_steps_83 : decode cX12_steps 83 = .ok (.goto 45, 3) := by decide +kernel
theorem dX12_steps_86 : decode cX12_steps 86 = .ok (.iload_n 1, 1) := by decide +kernel
theorem dX12_steps_87 : decode cX12_steps 87 = .ok (.iload 6, 2) := by decide +kernel
theorem dX12_steps_89 : decode cX12_steps 89 = .ok (.if_icmp .ne 12, 3) := by decide +kernel
theorem dX12_steps_92 : decode cX12_steps 92 = .ok (.aload_n 0, 1) := by decide +kernel
theorem dX12_steps_93 : decode cX12_steps 93 = .ok (.iload 5, 2) := by decide +kernel
theorem dX12_steps_95 : decode cX12_steps 95 = .ok (.iconst 1, 1) := by decide +kernel
theorem dX12_steps_96 : decode cX12_steps 96 = .ok (.invokevirtual 531, 3) := by decide +kernel
theorem dX12_steps_99 : decode cX12_steps 99 = .ok (.istore 5, 2) := by decide +kernel
theorem dX12_steps_101 : decode cX12_steps 101 = .ok (.iload_n 1, 1) := by decide +kernel
theorem dX12_steps_102 : decode cX12_steps 102 = .ok (.iconst 2, 1) := by decide +kernel
theorem dX12_steps_103 : decode cX12_steps 103 = .ok (.iload 6, 2) := by decide +kernel
theorem dX12_steps_105 : decode cX12_steps 105 = .ok (.imul, 1) := by decide +kernel
theorem dX12_steps_106 : decode cX12_steps 106 = .ok (.if_icmp .lt 22, 3) := by decide +kernel
theorem dX12_steps_109 : decode cX12_steps 109 = .ok (.aload_n 0, 1) := by decide +kernel
theorem dX12_steps_110 : decode cX12_steps 110 = .ok (.iload 5, 2) := by decide +kernel
theorem dX12_steps_112 : decode cX12_steps 112 = .ok (.aload_n 0, 1) := by decide +kernel
theorem dX12_steps_113 : decode cX12_steps 113 = .ok (.getfield 158, 3) := by decide +kernel
theorem dX12_steps_116 : decode cX12_steps 116 = .ok (.iload_n 1, 1) := by decide +kernel
theorem dX12_steps_117 : decode cX12_steps 117 = .ok (.iconst 2, 1) := by decide +kernel
theorem dX12_steps_118 : decode cX12_steps 118 = .ok (.iload 6, 2) := by decide +kernel
theorem dX12_steps_120 : decode cX12_steps 120 = .ok (.imul, 1) := by decide +kernel
theorem dX12_steps_121 : decode cX12_steps 121 = .ok (.isub, 1) := by decide +kernel
theorem dX12_steps_122 : decode cX12_steps 122 = .ok (.iaload, 1) := by decide +kernel
theorem dX12_steps_123 : decode cX12_steps 123 = .ok (.invokevirtual 531, 3) := by decide +kernel
theorem dX12_steps_126 : decode cX12_steps 126 = .ok (.istore 5, 2) := by decide +kernel
theorem dX12_steps_128 : decode cX12_steps 128 = .ok (.iinc 6 1, 3) := by decide +kernel
theorem dX12_steps_131 : decode cX12_steps 131 = .ok (.goto (-67), 3) := by decide +kernel
theorem dX12_steps_134 : decode cX12_steps 134 = .ok (.iload 5, 2) := by decide +kernel
theorem dX12_steps_136 : decode cX12_steps 136 = .ok (.ireturn, 1) := by decide +kernel
theorem dX12_takesCans_0 : decode cX12_takesCans 0 = .ok (.aload_n 0, 1) := by decide +kernel
theorem dX12_takesCans_1 : decode cX12_takesCans 1 = .ok (.getfield 161, 3) := by decide +kernel
theorem dX12_takesCans_4 : decode cX12_takesCans 4 = .ok (.iconst 0, 1) := by decide +kernel
theorem dX12_takesCans_5 : decode cX12_takesCans 5 = .ok (.iload_n 1, 1) := by decide +kernel
theorem dX12_takesCans_6 : decode cX12_takesCans 6 = .ok (.sipush 169, 3) := by decide +kernel
theorem dX12_takesCans_9 : decode cX12_takesCans 9 = .ok (.idiv, 1) := by decide +kernel
theorem dX12_takesCans_10 : decode cX12_takesCans 10 = .ok (.iastore, 1) := by decide +kernel
theorem dX12_takesCans_11 : decode cX12_takesCans 11 = .ok (.aload_n 0, 1) := by decide +kernel
theorem dX12_takesCans_12 : decode cX12_takesCans 12 = .ok (.getfield 161, 3) := by decide +kernel
theorem dX12_takesCans_15 : decode cX12_takesCans 15 = .ok (.iconst 1, 1) := by decide +kernel
theorem dX12_takesCans_16 : decode cX12_takesCans 16 = .ok (.iload_n 1, 1) := by decide +kernel
theorem dX12_takesCans_17 : decode cX12_takesCans 17 = .ok (.bipush 13, 2) := by decide +kernel
theorem dX12_takesCans_19 : decode cX12_takesCans 19 = .ok (.idiv, 1) := by decide +kernel
theorem dX12_takesCans_20 : decode cX12_takesCans 20 = .ok (.bipush 13, 2) := by decide +kernel
theorem dX12_takesCans_22 : decode cX12_takesCans 22 = .ok (.irem, 1) := by decide +kernel
theorem dX12_takesCans_23 : decode cX12_takesCans 23 = .ok (.iastore, 1) := by decide +kernel
theorem dX12_takesCans_24 : decode cX12_takesCans 24 = .ok (.aload_n 0, 1) := by decide +kernel
theorem dX12_takesCans_25 : decode cX12_takesCans 25 = .ok (.getfield 161, 3) := by decide +kernel
theorem dX12_takesCans_28 : decode cX12_takesCans 28 = .ok (.iconst 2, 1) := by decide +kernel
theorem dX12_takesCans_29 : decode cX12_takesCans 29 = .ok (.iload_n 1, 1) := by decide +kernel
theorem dX12_takesCans_30 : decode cX12_takesCans 30 = .ok (.bipush 13, 2) := by decide +kernel
theorem dX12_takesCans_32 : decode cX12_takesCans 32 = .ok (.irem, 1) := by decide +kernel
theorem dX12_takesCans_33 : decode cX12_takesCans 33 = .ok (.iastore, 1) := by decide +kernel
theorem dX12_takesCans_34 : decode cX12_takesCans 34 = .ok (.return_, 1) := by decide +kernel
theorem dX12_poured_0 : decode cX12_poured 0 = .ok (.aload_n 0, 1) := by decide +kernel
theorem dX12_poured_1 : decode cX12_poured 1 = .ok (.iload_n 1, 1) := by decide +kernel
theorem dX12_poured_2 : decode cX12_poured 2 = .ok (.invokevirtual 549, 3) := by decide +kernel
theorem dX12_poured_5 : decode cX12_poured 5 = .ok (.aload_n 0, 1) := by decide +kernel
theorem dX12_poured_6 : decode cX12_poured 6 = .ok (.aload_n 0, 1) := by decide +kernel
theorem dX12_poured_7 : decode cX12_poured 7 = .ok (.getfield 161, 3) := by decide +kernel
theorem dX12_poured_10 : decode cX12_poured 10 = .ok (.iload_n 2, 1) := by decide +kernel
theorem dX12_poured_11 : decode cX12_poured 11 = .ok (.iaload, 1) := by decide +kernel
theorem dX12_poured_12 : decode cX12_poured 12 = .ok (.aload_n 0, 1) := by decide +kernel
theorem dX12_poured_13 : decode cX12_poured 13 = .ok (.getfield 164, 3) := by decide +kernel
theorem dX12_poured_16 : decode cX12_poured 16 = .ok (.iload_n 3, 1) := by decide +kernel
theorem dX12_poured_17 : decode cX12_poured 17 = .ok (.iaload, 1) := by decide +kernel
theorem dX12_poured_18 : decode cX12_poured 18 = .ok (.aload_n 0, 1) := by decide +kernel
theorem dX12_poured_19 : decode cX12_poured 19 = .ok (.getfield 161, 3) := by decide +kernel
theorem dX12_poured_22 : decode cX12_poured 22 = .ok (.iload_n 3, 1) := by decide +kernel
theorem dX12_poured_23 : decode cX12_poured 23 = .ok (.iaload, 1) := by decide +kernel
theorem dX12_poured_24 : decode cX12_poured 24 = .ok (.isub, 1) := by decide +kernel
theorem dX12_poured_25 : decode cX12_poured 25 = .ok (.invokevirtual 453, 3) := by decide +kernel
theorem dX12_poured_28 : decode cX12_poured 28 = .ok (.istore 4, 2) := by decide +kernel
theorem dX12_poured_30 : decode cX12_poured 30 = .ok (.aload_n 0, 1) := by decide +kernel
theorem dX12_poured_31 : decode cX12_poured 31 = .ok (.getfield 161, 3) := by decide +kernel
theorem dX12_poured_34 : decode cX12_poured 34 = .ok (.iload_n 2, 1) := by decide +kernel
theorem dX12_poured_35 : decode cX12_poured 35 = .ok (.aload_n 0, 1) := by decide +kernel
theorem dX12_poured_36 : decode cX12_poured 36 = .ok (.getfield 161, 3) := by decide +kernel
theorem dX12_poured_39 : decode cX12_poured 39 = .ok (.iload_n 2, 1) := by decide +kernel
theorem dX12_poured_40 : decode cX12_poured 40 = .ok (.iaload, 1) := by decide +kernel
theorem dX12_poured_41 : decode cX12_poured 41 = .ok (.iload 4, 2) := by decide +kernel
theorem dX12_poured_43 : decode cX12_poured 43 = .ok (.isub, 1) := by decide +kernel
theorem dX12_poured_44 : decode cX12_poured 44 = .ok (.iastore, 1) := by decide +kernel
theorem dX12_poured_45 : decode cX12_poured 45 = .ok (.aload_n 0, 1) := by decide +kernel
theorem dX12_poured_46 : decode cX12_poured 46 = .ok (.getfield 161, 3) := by decide +kernel
theorem dX12_poured_49 : decode cX12_poured 49 = .ok (.iload_n 3, 1) := by decide +kernel
theorem dX12_poured_50 : decode cX12_poured 50 = .ok (.aload_n 0, 1) := by decide +kernel
theorem dX12_poured_51 : decode cX12_poured 51 = .ok (.getfield 161, 3) := by decide +kernel
theorem dX12_poured_54 : decode cX12_poured 54 = .ok (.iload_n 3, 1) := by decide +kernel
theorem dX12_poured_55 : decode cX12_poured 55 = .ok (.iaload, 1) := by decide +kernel
theorem dX12_poured_56 : decode cX12_poured 56 = .ok (.iload 4, 2) := by decide +kernel
theorem dX12_poured_58 : decode cX12_poured 58 = .ok (.iadd, 1) := by decide +kernel
theorem dX12_poured_59 : decode cX12_poured 59 = .ok (.iastore, 1) := by decide +kernel
theorem dX12_poured_60 : decode cX12_poured 60 = .ok (.sipush 169, 3) := by decide +kernel
theorem dX12_poured_63 : decode cX12_poured 63 = .ok (.aload_n 0, 1) := by decide +kernel
theorem dX12_poured_64 : decode cX12_poured 64 = .ok (.getfield 161, 3) := by decide +kernel
theorem dX12_poured_67 : decode cX12_poured 67 = .ok (.iconst 0, 1) := by decide +kernel
theorem dX12_poured_68 : decode cX12_poured 68 = .ok (.iaload, 1) := by decide +kernel
theorem dX12_poured_69 : decode cX12_poured 69 = .ok (.imul, 1) := by decide +kernel
theorem dX12_poured_70 : decode cX12_poured 70 = .ok (.bipush 13, 2) := by decide +kernel
theorem dX12_poured_72 : decode cX12_poured 72 = .ok (.aload_n 0, 1) := by decide +kernel
theorem dX12_poured_73 : decode cX12_poured 73 = .ok (.getfield 161, 3) := by decide +kernel
theorem dX12_poured_76 : decode cX12_poured 76 = .ok (.iconst 1, 1) := by decide +kernel
theorem dX12_poured_77 : decode cX12_poured 77 = .ok (.iaload, 1) := by decide +kernel
theorem dX12_poured_78 : decode cX12_poured 78 = .ok (.imul, 1) := by decide +kernel
theorem dX12_poured_79 : decode cX12_poured 79 = .ok (.iadd, 1) := by decide +kernel
theorem dX12_poured_80 : decode cX12_poured 80 = .ok (.aload_n 0, 1) := by decide +kernel
theorem dX12_poured_81 : decode cX12_poured 81 = .ok (.getfield 161, 3) := by decide +kernel
theorem dX12_poured_84 : decode cX12_poured 84 = .ok (.iconst 2, 1) := by decide +kernel
theorem dX12_poured_85 : decode cX12_poured 85 = .ok (.iaload, 1) := by decide +kernel
theorem dX12_poured_86 : decode cX12_poured 86 = .ok (.iadd, 1) := by decide +kernel
theorem dX12_poured_87 : decode cX12_poured 87 = .ok (.ireturn, 1) := by decide +kernel
theorem dX12_lamps_0 : decode cX12_lamps 0 = .ok (.aload_n 0, 1) := by decide +kernel
theorem dX12_lamps_1 : decode cX12_lamps 1 = .ok (.iconst 0, 1) := by decide +kernel
theorem dX12_lamps_2 : decode cX12_lamps 2 = .ok (.putfield 183, 3) := by decide +kernel
theorem dX12_lamps_5 : decode cX12_lamps 5 = .ok (.aload_n 0, 1) := by decide +kernel
theorem dX12_lamps_6 : decode cX12_lamps 6 = .ok (.iload_n 1, 1) := by decide +kernel
theorem dX12_lamps_7 : decode cX12_lamps 7 = .ok (.iconst 1, 1) := by decide +kernel
theorem dX12_lamps_8 : decode cX12_lamps 8 = .ok (.bipush 12, 2) := by decide +kernel
theorem dX12_lamps_10 : decode cX12_lamps 10 = .ok (.invokevirtual 206, 3) := by decide +kernel
theorem dX12_lamps_13 : decode cX12_lamps 13 = .ok (.ifCond .eq 37, 3) := by decide +kernel
theorem dX12_lamps_16 : decode cX12_lamps 16 = .ok (.aload_n 0, 1) := by decide +kernel
theorem dX12_lamps_17 : decode cX12_lamps 17 = .ok (.iload_n 2, 1) := by decide +kernel
theorem dX12_lamps_18 : decode cX12_lamps 18 = .ok (.iconst 1, 1) := by decide +kernel
theorem dX12_lamps_19 : decode cX12_lamps 19 = .ok (.bipush 12, 2) := by decide +kernel
theorem dX12_lamps_21 : decode cX12_lamps 21 = .ok (.invokevirtual 206, 3) := by decide +kernel
theorem dX12_lamps_24 : decode cX12_lamps 24 = .ok (.ifCond .eq 26, 3) := by decide +kernel
theorem dX12_lamps_27 : decode cX12_lamps 27 = .ok (.aload_n 0, 1) := by decide +kernel
theorem dX12_lamps_28 : decode cX12_lamps 28 = .ok (.iload_n 3, 1) := by decide +kernel
theorem dX12_lamps_29 : decode cX12_lamps 29 = .ok (.iconst 1, 1) := by decide +kernel
theorem dX12_lamps_30 : decode cX12_lamps 30 = .ok (.bipush 12, 2) := by decide +kernel
theorem dX12_lamps_32 : decode cX12_lamps 32 = .ok (.invokevirtual 206, 3) := by decide +kernel
theorem dX12_lamps_35 : decode cX12_lamps 35 = .ok (.ifCond .eq 15, 3) := by decide +kernel
theorem dX12_lamps_38 : decode cX12_lamps 38 = .ok (.aload_n 0, 1) := by decide +kernel
theorem dX12_lamps_39 : decode cX12_lamps 39 = .ok (.iload 4, 2) := by decide +kernel
theorem dX12_lamps_41 : decode cX12_lamps 41 = .ok (.iconst 0, 1) := by decide +kernel
theorem dX12_lamps_42 : decode cX12_lamps 42 = .ok (.bipush 12, 2) := by decide +kernel
theorem dX12_lamps_44 : decode cX12_lamps 44 = .ok (.invokevirtual 206, 3) := by decide +kernel
theorem dX12_lamps_47 : decode cX12_lamps 47 = .ok (.ifCond .ne 5, 3) := by decide +kernel
theorem dX12_lamps_50 : decode cX12_lamps 50 = .ok (.iconst (-1), 1) := by decide +kernel
theorem dX12_lamps_51 : decode cX12_lamps 51 = .ok (.ireturn, 1) := by decide +kernel
theorem dX12_lamps_52 : decode cX12_lamps 52 = .ok (.aload_n 0, 1) := by decide +kernel
theorem dX12_lamps_53 : decode cX12_lamps 53 = .ok (.getfield 164, 3) := by decide +kernel
theorem dX12_lamps_56 : decode cX12_lamps 56 = .ok (.iconst 0, 1) := by decide +kernel
theorem dX12_lamps_57 : decode cX12_lamps 57 = .ok (.iload_n 1, 1) := by decide +kernel
theorem dX12_lamps_58 : decode cX12_lamps 58 = .ok (.iastore, 1) := by decide +kernel
theorem dX12_lamps_59 : decode cX12_lamps 59 = .ok (.aload_n 0, 1) := by decide +kernel
theorem dX12_lamps_60 : decode cX12_lamps 60 = .ok (.getfield 164, 3) := by decide +kernel
theorem dX12_lamps_63 : decode cX12_lamps 63 = .ok (.iconst 1, 1) := by decide +kernel
theorem dX12_lamps_64 : decode cX12_lamps 64 = .ok (.iload_n 2, 1) := by decide +kernel
theorem dX12_lamps_65 : decode cX12_lamps 65 = .ok (.iastore, 1) := by decide +kernel
theorem dX12_lamps_66 : decode cX12_lamps 66 = .ok (.aload_n 0, 1) := by decide +kernel
theorem dX12_lamps_67 : decode cX12_lamps 67 = .ok (.getfield 164, 3) := by decide +kernel
theorem dX12_lamps_70 : decode cX12_lamps 70 = .ok (.iconst 2, 1) := by decide +kernel
theorem dX12_lamps_71 : decode cX12_lamps 71 = .ok (.iload_n 3, 1) := by decide +kernel
theorem dX12_lamps_72 : decode cX12_lamps 72 = .ok (.iastore, 1) := by decide +kernel
theorem dX12_lamps_73 : decode cX12_lamps 73 = .ok (.iconst 0, 1) := by decide +kernel
theorem dX12_lamps_74 : decode cX12_lamps 74 = .ok (.istore 5, 2) := by decide +kernel
theorem dX12_lamps_76 : decode cX12_lamps 76 = .ok (.iload 5, 2) := by decide +kernel
theorem dX12_lamps_78 : decode cX12_lamps 78 = .ok (.sipush 2197, 3) := by decide +kernel
theorem dX12_lamps_81 : decode cX12_lamps 81 = .ok (.if_icmp .ge 19, 3) := by decide +kernel
theorem dX12_lamps_84 : decode cX12_lamps 84 = .ok (.aload_n 0, 1) := by decide +kernel
theorem dX12_lamps_85 : decode cX12_lamps 85 = .ok (.getfield 167, 3) := by decide +kernel
theorem dX12_lamps_88 : decode cX12_lamps 88 = .ok (.iload 5, 2) := by decide +kernel
theorem dX12_lamps_90 : decode cX12_lamps 90 = .ok (.ldc_w 499, 3) := by decide +kernel
theorem dX12_lamps_93 : decode cX12_lamps 93 = .ok (.iastore, 1) := by decide +kernel
theorem dX12_lamps_94 : decode cX12_lamps 94 = .ok (.iinc 5 1, 3) := by decide +kernel
theorem dX12_lamps_97 : decode cX12_lamps 97 = .ok (.goto (-21), 3) := by decide +kernel
theorem dX12_lamps_100 : decode cX12_lamps 100 = .ok (.aload_n 0, 1) := by decide +kernel
theorem dX12_lamps_101 : decode cX12_lamps 101 = .ok (.getfield 167, 3) := by decide +kernel
theorem dX12_lamps_104 : decode cX12_lamps 104 = .ok (.sipush 169, 3) := by decide +kernel
theorem dX12_lamps_107 : decode cX12_lamps 107 = .ok (.iload_n 1, 1) := by decide +kernel
theorem dX12_lamps_108 : decode cX12_lamps 108 = .ok (.imul, 1) := by decide +kernel
theorem dX12_lamps_109 : decode cX12_lamps 109 = .ok (.iconst 0, 1) := by decide +kernel
theorem dX12_lamps_110 : decode cX12_lamps 110 = .ok (.iastore, 1) := by decide +kernel
theorem dX12_lamps_111 : decode cX12_lamps 111 = .ok (.aload_n 0, 1) := by decide +kernel
theorem dX12_lamps_112 : decode cX12_lamps 112 = .ok (.getfield 170, 3) := by decide +kernel
theorem dX12_lamps_115 : decode cX12_lamps 115 = .ok (.iconst 0, 1) := by decide +kernel
theorem dX12_lamps_116 : decode cX12_lamps 116 = .ok (.sipush 169, 3) := by decide +kernel
theorem dX12_lamps_119 : decode cX12_lamps 119 = .ok (.iload_n 1, 1) := by decide +kernel
theorem dX12_lamps_120 : decode cX12_lamps 120 = .ok (.imul, 1) := by decide +kernel
theorem dX12_lamps_121 : decode cX12_lamps 121 = .ok (.iastore, 1) := by decide +kernel
theorem dX12_lamps_122 : decode cX12_lamps 122 = .ok (.iconst 1, 1) := by decide +kernel
theorem dX12_lamps_123 : decode cX12_lamps 123 = .ok (.istore 5, 2) := by decide +kernel
theorem dX12_lamps_125 : decode cX12_lamps 125 = .ok (.iconst 0, 1) := by decide +kernel
theorem dX12_lamps_126 : decode cX12_lamps 126 = .ok (.istore 6, 2) := by decide +kernel
theorem dX12_lamps_128 : decode cX12_lamps 128 = .ok (.iload 6, 2) := by decide +kernel
theorem dX12_lamps_130 : decode cX12_lamps 130 = .ok (.iload 5, 2) := by decide +kernel
theorem dX12_lamps_132 : decode cX12_lamps 132 = .ok (.if_icmp .ge 158, 3) := by decide +kernel
theorem dX12_lamps_135 : decode cX12_lamps 135 = .ok (.aload_n 0, 1) := by decide +kernel
theorem dX12_lamps_136 : decode cX12_lamps 136 = .ok (.getfield 170, 3) := by decide +kernel
theorem dX12_lamps_139 : decode cX12_lamps 139 = .ok (.iload 6, 2) := by decide +kernel
theorem dX12_lamps_141 : decode cX12_lamps 141 = .ok (.iaload, 1) := by decide +kernel
theorem dX12_lamps_142 : decode cX12_lamps 142 = .ok (.istore 7, 2) := by decide +kernel
theorem dX12_lamps_144 : decode cX12_lamps 144 = .ok (.aload_n 0, 1) := by decide +kernel
theorem dX12_lamps_145 : decode cX12_lamps 145 = .ok (.iload 7, 2) := by decide +kernel
theorem dX12_lamps_147 : decode cX12_lamps 147 = .ok (.invokevirtual 549, 3) := by decide +kernel
theorem dX12_lamps_150 : decode cX12_lamps 150 = .ok (.aload_n 0, 1) := by decide +kernel
theorem dX12_lamps_151 : decode cX12_lamps 151 = .ok (.getfield 161, 3) := by decide +kernel
theorem dX12_lamps_154 : decode cX12_lamps 154 = .ok (.iconst 0, 1) := by decide +kernel
theorem dX12_lamps_155 : decode cX12_lamps 155 = .ok (.iaload, 1) := by decide +kernel
theorem dX12_lamps_156 : decode cX12_lamps 156 = .ok (.iload 4, 2) := by decide +kernel
theorem dX12_lamps_158 : decode cX12_lamps 158 = .ok (.if_icmp .eq 25, 3) := by decide +kernel
theorem dX12_lamps_161 : decode cX12_lamps 161 = .ok (.aload_n 0, 1) := by decide +kernel
theorem dX12_lamps_162 : decode cX12_lamps 162 = .ok (.getfield 161, 3) := by decide +kernel
theorem dX12_lamps_165 : decode cX12_lamps 165 = .ok (.iconst 1, 1) := by decide +kernel
theorem dX12_lamps_166 : decode cX12_lamps 166 = .ok (.iaload, 1) := by decide +kernel
theorem dX12_lamps_167 : decode cX12_lamps 167 = .ok (.iload 4, 2) := by decide +kernel
theorem dX12_lamps_169 : decode cX12_lamps 169 = .ok (.if_icmp .eq 14, 3) := by decide +kernel
theorem dX12_lamps_172 : decode cX12_lamps 172 = .ok (.aload_n 0, 1) := by decide +kernel
theorem dX12_lamps_173 : decode cX12_lamps 173 = .ok (.getfield 161, 3) := by decide +kernel
theorem dX12_lamps_176 : decode cX12_lamps 176 = .ok (.iconst 2, 1) := by decide +kernel
theorem dX12_lamps_177 : decode cX12_lamps 177 = .ok (.iaload, 1) := by decide +kernel
theorem dX12_lamps_178 : decode cX12_lamps 178 = .ok (.iload 4, 2) := by decide +kernel
theorem dX12_lamps_180 : decode cX12_lamps 180 = .ok (.if_icmp .ne 11, 3) := by decide +kernel
theorem dX12_lamps_183 : decode cX12_lamps 183 = .ok (.aload_n 0, 1) := by decide +kernel
theorem dX12_lamps_184 : decode cX12_lamps 184 = .ok (.getfield 167, 3) := by decide +kernel
theorem dX12_lamps_187 : decode cX12_lamps 187 = .ok (.iload 7, 2) := by decide +kernel
theorem dX12_lamps_189 : decode cX12_lamps 189 = .ok (.iaload, 1) := by decide +kernel
theorem dX12_lamps_190 : decode cX12_lamps 190 = .ok (.ireturn, 1) := by decide +kernel
theorem dX12_lamps_191 : decode cX12_lamps 191 = .ok (.iconst 0, 1) := by decide +kernel
theorem dX12_lamps_192 : decode cX12_lamps 192 = .ok (.istore 8, 2) := by decide +kernel
theorem dX12_lamps_194 : decode cX12_lamps 194 = .ok (.iload 8, 2) := by decide +kernel
theorem dX12_lamps_196 : decode cX12_lamps 196 = .ok (.bipush 9, 2) := by decide +kernel
theorem dX12_lamps_198 : decode cX12_lamps 198 = .ok (.if_icmp .ge 86, 3) := by decide +kernel
theorem dX12_lamps_201 : decode cX12_lamps 201 = .ok (.iload 8, 2) := by decide +kernel
theorem dX12_lamps_203 : decode cX12_lamps 203 = .ok (.iconst 3, 1) := by decide +kernel
theorem dX12_lamps_204 : decode cX12_lamps 204 = .ok (.idiv, 1) := by decide +kernel
theorem dX12_lamps_205 : decode cX12_lamps 205 = .ok (.iload 8, 2) := by decide +kernel
theorem dX12_lamps_207 : decode cX12_lamps 207 = .ok (.iconst 3, 1) := by decide +kernel
theorem dX12_lamps_208 : decode cX12_lamps 208 = .ok (.irem, 1) := by decide +kernel
theorem dX12_lamps_209 : decode cX12_lamps 209 = .ok (.if_icmp .ne 6, 3) := by decide +kernel
theorem dX12_lamps_212 : decode cX12_lamps 212 = .ok (.goto 66, 3) := by decide +kernel
theorem dX12_lamps_215 : decode cX12_lamps 215 = .ok (.aload_n 0, 1) := by decide +kernel
theorem dX12_lamps_216 : decode cX12_lamps 216 = .ok (.iload 7, 2) := by decide +kernel
theorem dX12_lamps_218 : decode cX12_lamps 218 = .ok (.iload 8, 2) := by decide +kernel
theorem dX12_lamps_220 : decode cX12_lamps 220 = .ok (.iconst 3, 1) := by decide +kernel
theorem dX12_lamps_221 : decode cX12_lamps 221 = .ok (.idiv, 1) := by decide +kernel
theorem dX12_lamps_222 : decode cX12_lamps 222 = .ok (.iload 8, 2) := by decide +kernel
theorem dX12_lamps_224 : decode cX12_lamps 224 = .ok (.iconst 3, 1) := by decide +kernel
theorem dX12_lamps_225 : decode cX12_lamps 225 = .ok (.irem, 1) := by decide +kernel
theorem dX12_lamps_226 : decode cX12_lamps 226 = .ok (.invokevirtual 552, 3) := by decide +kernel
theorem dX12_lamps_229 : decode cX12_lamps 229 = .ok (.istore 9, 2) := by decide +kernel
theorem dX12_lamps_231 : decode cX12_lamps 231 = .ok (.aload_n 0, 1) := by decide +kernel
theorem dX12_lamps_232 : decode cX12_lamps 232 = .ok (.getfield 167, 3) := by decide +kernel
theorem dX12_lamps_235 : decode cX12_lamps 235 = .ok (.iload 9, 2) := by decide +kernel
theorem dX12_lamps_237 : decode cX12_lamps 237 = .ok (.iaload, 1) := by decide +kernel
theorem dX12_lamps_238 : decode cX12_lamps 238 = .ok (.ldc_w 499, 3) := by decide +kernel
theorem dX12_lamps_241 : decode cX12_lamps 241 = .ok (.if_icmp .ge 6, 3) := by decide +kernel
theorem dX12_lamps_244 : decode cX12_lamps 244 = .ok (.goto 34, 3) := by decide +kernel
theorem dX12_lamps_247 : decode cX12_lamps 247 = .ok (.aload_n 0, 1) := by decide +kernel
theorem dX12_lamps_248 : decode cX12_lamps 248 = .ok (.getfield 167, 3) := by decide +kernel
theorem dX12_lamps_251 : decode cX12_lamps 251 = .ok (.iload 9, 2) := by decide +kernel
theorem dX12_lamps_253 : decode cX12_lamps 253 = .ok (.aload_n 0, 1) := by decide +kernel
theorem dX12_lamps_254 : decode cX12_lamps 254 = .ok (.getfield 167, 3) := by decide +kernel
theorem dX12_lamps_257 : decode cX12_lamps 257 = .ok (.iload 7, 2) := by decide +kernel
theorem dX12_lamps_259 : decode cX12_lamps 259 = .ok (.iaload, 1) := by decide +kernel
theorem dX12_lamps_260 : decode cX12_lamps 260 = .ok (.iconst 1, 1) := by decide +kernel
theorem dX12_lamps_261 : decode cX12_lamps 261 = .ok (.iadd, 1) := by decide +kernel
theorem dX12_lamps_262 : decode cX12_lamps 262 = .ok (.iastore, 1) := by decide +kernel
theorem dX12_lamps_263 : decode cX12_lamps 263 = .ok (.aload_n 0, 1) := by decide +kernel
theorem dX12_lamps_264 : decode cX12_lamps 264 = .ok (.getfield 170, 3) := by decide +kernel
theorem dX12_lamps_267 : decode cX12_lamps 267 = .ok (.iload 5, 2) := by decide +kernel
theorem dX12_lamps_269 : decode cX12_lamps 269 = .ok (.iload 9, 2) := by decide +kernel
theorem dX12_lamps_271 : decode cX12_lamps 271 = .ok (.iastore, 1) := by decide +kernel
theorem dX12_lamps_272 : decode cX12_lamps 272 = .ok (.iload 5, 2) := by decide +kernel
theorem dX12_lamps_274 : decode cX12_lamps 274 = .ok (.iconst 1, 1) := by decide +kernel
theorem dX12_lamps_275 : decode cX12_lamps 275 = .ok (.iadd, 1) := by decide +kernel
theorem dX12_lamps_276 : decode cX12_lamps 276 = .ok (.istore 5, 2) := by decide +kernel
theorem dX12_lamps_278 : decode cX12_lamps 278 = .ok (.iinc 8 1, 3) := by decide +kernel
theorem dX12_lamps_281 : decode cX12_lamps 281 = .ok (.goto (-87), 3) := by decide +kernel
theorem dX12_lamps_284 : decode cX12_lamps 284 = .ok (.iinc 6 1, 3) := by decide +kernel
theorem dX12_lamps_287 : decode cX12_lamps 287 = .ok (.goto (-159), 3) := by decide +kernel
theorem dX12_lamps_290 : decode cX12_lamps 290 = .ok (.iconst (-1), 1) := by decide +kernel
theorem dX12_lamps_291 : decode cX12_lamps 291 = .ok (.ireturn, 1) := by decide +kernel
theorem dX12_takesHats_0 : decode cX12_takesHats 0 = .ok (.iconst 0, 1) := by decide +kernel
theorem dX12_takesHats_1 : decode cX12_takesHats 1 = .ok (.istore_n 2, 1) := by decide +kernel
theorem dX12_takesHats_2 : decode cX12_takesHats 2 = .ok (.iload_n 1, 1) := by decide +kernel
theorem dX12_takesHats_3 : decode cX12_takesHats 3 = .ok (.istore_n 3, 1) := by decide +kernel
theorem dX12_takesHats_4 : decode cX12_takesHats 4 = .ok (.iload_n 3, 1) := by decide +kernel
theorem dX12_takesHats_5 : decode cX12_takesHats 5 = .ok (.bipush 9, 2) := by decide +kernel
theorem dX12_takesHats_7 : decode cX12_takesHats 7 = .ok (.if_icmp .le 15, 3) := by decide +kernel
theorem dX12_takesHats_10 : decode cX12_takesHats 10 = .ok (.iload_n 2, 1) := by decide +kernel
theorem dX12_takesHats_11 : decode cX12_takesHats 11 = .ok (.iconst 1, 1) := by decide +kernel
theorem dX12_takesHats_12 : decode cX12_takesHats 12 = .ok (.iadd, 1) := by decide +kernel
theorem dX12_takesHats_13 : decode cX12_takesHats 13 = .ok (.istore_n 2, 1) := by decide +kernel
theorem dX12_takesHats_14 : decode cX12_takesHats 14 = .ok (.iload_n 3, 1) := by decide +kernel
theorem dX12_takesHats_15 : decode cX12_takesHats 15 = .ok (.bipush 10, 2) := by decide +kernel
theorem dX12_takesHats_17 : decode cX12_takesHats 17 = .ok (.idiv, 1) := by decide +kernel
theorem dX12_takesHats_18 : decode cX12_takesHats 18 = .ok (.istore_n 3, 1) := by decide +kernel
theorem dX12_takesHats_19 : decode cX12_takesHats 19 = .ok (.goto (-15), 3) := by decide +kernel
theorem dX12_takesHats_22 : decode cX12_takesHats 22 = .ok (.aload_n 0, 1) := by decide +kernel
theorem dX12_takesHats_23 : decode cX12_takesHats 23 = .ok (.iload_n 2, 1) := by decide +kernel
theorem dX12_takesHats_24 : decode cX12_takesHats 24 = .ok (.iconst 1, 1) := by decide +kernel
theorem dX12_takesHats_25 : decode cX12_takesHats 25 = .ok (.bipush 9, 2) := by decide +kernel
theorem dX12_takesHats_27 : decode cX12_takesHats 27 = .ok (.invokevirtual 206, 3) := by decide +kernel
theorem dX12_takesHats_30 : decode cX12_takesHats 30 = .ok (.ifCond .ne 5, 3) := by decide +kernel
theorem dX12_takesHats_33 : decode cX12_takesHats 33 = .ok (.iconst (-1), 1) := by decide +kernel
theorem dX12_takesHats_34 : decode cX12_takesHats 34 = .ok (.ireturn, 1) := by decide +kernel
theorem dX12_takesHats_35 : decode cX12_takesHats 35 = .ok (.iconst 0, 1) := by decide +kernel
theorem dX12_takesHats_36 : decode cX12_takesHats 36 = .ok (.istore_n 3, 1) := by decide +kernel
theorem dX12_takesHats_37 : decode cX12_takesHats 37 = .ok (.iload_n 1, 1) := by decide +kernel
theorem dX12_takesHats_38 : decode cX12_takesHats 38 = .ok (.istore 4, 2) := by decide +kernel
theorem dX12_takesHats_40 : decode cX12_takesHats 40 = .ok (.iload_n 2, 1) := by decide +kernel
theorem dX12_takesHats_41 : decode cX12_takesHats 41 = .ok (.iconst 1, 1) := by decide +kernel
theorem dX12_takesHats_42 : decode cX12_takesHats 42 = .ok (.isub, 1) := by decide +kernel
theorem dX12_takesHats_43 : decode cX12_takesHats 43 = .ok (.istore 5, 2) := by decide +kernel
theorem dX12_takesHats_45 : decode cX12_takesHats 45 = .ok (.iload 5, 2) := by decide +kernel
theorem dX12_takesHats_47 : decode cX12_takesHats 47 = .ok (.ifCond .lt 38, 3) := by decide +kernel
theorem dX12_takesHats_50 : decode cX12_takesHats 50 = .ok (.aload_n 0, 1) := by decide +kernel
theorem dX12_takesHats_51 : decode cX12_takesHats 51 = .ok (.getfield 95, 3) := by decide +kernel
theorem dX12_takesHats_54 : decode cX12_takesHats 54 = .ok (.iload 5, 2) := by decide +kernel
theorem dX12_takesHats_56 : decode cX12_takesHats 56 = .ok (.iload 4, 2) := by decide +kernel
theorem dX12_takesHats_58 : decode cX12_takesHats 58 = .ok (.bipush 10, 2) := by decide +kernel
theorem dX12_takesHats_60 : decode cX12_takesHats 60 = .ok (.irem, 1) := by decide +kernel
theorem dX12_takesHats_61 : decode cX12_takesHats 61 = .ok (.iastore, 1) := by decide +kernel
theorem dX12_takesHats_62 : decode cX12_takesHats 62 = .ok (.iload_n 3, 1) := by decide +kernel
theorem dX12_takesHats_63 : decode cX12_takesHats 63 = .ok (.iconst 1, 1) := by decide +kernel
theorem dX12_takesHats_64 : decode cX12_takesHats 64 = .ok (.iload 4, 2) := by decide +kernel
theorem dX12_takesHats_66 : decode cX12_takesHats 66 = .ok (.bipush 10, 2) := by decide +kernel
theorem dX12_takesHats_68 : decode cX12_takesHats 68 = .ok (.irem, 1) := by decide +kernel
theorem dX12_takesHats_69 : decode cX12_takesHats 69 = .ok (.ishl, 1) := by decide +kernel
theorem dX12_takesHats_70 : decode cX12_takesHats 70 = .ok (.ior, 1) := by decide +kernel
theorem dX12_takesHats_71 : decode cX12_takesHats 71 = .ok (.istore_n 3, 1) := by decide +kernel
theorem dX12_takesHats_72 : decode cX12_takesHats 72 = .ok (.iload 4, 2) := by decide +kernel
theorem dX12_takesHats_74 : decode cX12_takesHats 74 = .ok (.bipush 10, 2) := by decide +kernel
theorem dX12_takesHats_76 : decode cX12_takesHats 76 = .ok (.idiv, 1) := by decide +kernel
theorem dX12_takesHats_77 : decode cX12_takesHats 77 = .ok (.istore 4, 2) := by decide +kernel
theorem dX12_takesHats_79 : decode cX12_takesHats 79 = .ok (.iinc 5 (-1), 3) := by decide +kernel
theorem dX12_takesHats_82 : decode cX12_takesHats 82 = .ok (.goto (-37), 3) := by decide +kernel
theorem dX12_takesHats_85 : decode cX12_takesHats 85 = .ok (.iload 4, 2) := by decide +kernel
theorem dX12_takesHats_87 : decode cX12_takesHats 87 = .ok (.iconst 1, 1) := by decide +kernel
theorem dX12_takesHats_88 : decode cX12_takesHats 88 = .ok (.if_icmp .ne 16, 3) := by decide +kernel
theorem dX12_takesHats_91 : decode cX12_takesHats 91 = .ok (.iload_n 3, 1) := by decide +kernel
theorem dX12_takesHats_92 : decode cX12_takesHats 92 = .ok (.iconst 1, 1) := by decide +kernel
theorem dX12_takesHats_93 : decode cX12_takesHats 93 = .ok (.iload_n 2, 1) := by decide +kernel
theorem dX12_takesHats_94 : decode cX12_takesHats 94 = .ok (.ishl, 1) := by decide +kernel
theorem dX12_takesHats_95 : decode cX12_takesHats 95 = .ok (.iconst 1, 1) := by decide +kernel
theorem dX12_takesHats_96 : decode cX12_takesHats 96 = .ok (.isub, 1) := by decide +kernel
theorem dX12_takesHats_97 : decode cX12_takesHats 97 = .ok (.if_icmp .ne 7, 3) := by decide +kernel
theorem dX12_takesHats_100 : decode cX12_takesHats 100 = .ok (.iload_n 2, 1) := by decide +kernel
theorem dX12_takesHats_101 : decode cX12_takesHats 101 = .ok (.goto 4, 3) := by decide +kernel
theorem dX12_takesHats_104 : decode cX12_takesHats 104 = .ok (.iconst (-1), 1) := by decide +kernel
theorem dX12_takesHats_105 : decode cX12_takesHats 105 = .ok (.ireturn, 1) := by decide +kernel
theorem dX12_hooks_0 : decode cX12_hooks 0 = .ok (.aload_n 0, 1) := by decide +kernel
theorem dX12_hooks_1 : decode cX12_hooks 1 = .ok (.iconst 0, 1) := by decide +kernel
theorem dX12_hooks_2 : decode cX12_hooks 2 = .ok (.putfield 183, 3) := by decide +kernel
theorem dX12_hooks_5 : decode cX12_hooks 5 = .ok (.iload_n 1, 1) := by decide +kernel
theorem dX12_hooks_6 : decode cX12_hooks 6 = .ok (.bipush 10, 2) := by decide +kernel
theorem dX12_hooks_8 : decode cX12_hooks 8 = .ok (.if_icmp .lt 13, 3) := by decide +kernel
theorem dX12_hooks_11 : decode cX12_hooks 11 = .ok (.aload_n 0, 1) := by decide +kernel
theorem dX12_hooks_12 : decode cX12_hooks 12 = .ok (.iload_n 2, 1) := by decide +kernel
theorem dX12_hooks_13 : decode cX12_hooks 13 = .ok (.iconst 0, 1) := by decide +kernel
theorem dX12_hooks_14 : decode cX12_hooks 14 = .ok (.iconst 2, 1) := by decide +kernel
theorem dX12_hooks_15 : decode cX12_hooks 15 = .ok (.invokevirtual 206, 3) := by decide +kernel
theorem dX12_hooks_18 : decode cX12_hooks 18 = .ok (.ifCond .ne 5, 3) := by decide +kernel
theorem dX12_hooks_21 : decode cX12_hooks 21 = .ok (.iconst (-1), 1) := by decide +kernel
theorem dX12_hooks_22 : decode cX12_hooks 22 = .ok (.ireturn, 1) := by decide +kernel
theorem dX12_hooks_23 : decode cX12_hooks 23 = .ok (.aload_n 0, 1) := by decide +kernel
theorem dX12_hooks_24 : decode cX12_hooks 24 = .ok (.iload_n 1, 1) := by decide +kernel
theorem dX12_hooks_25 : decode cX12_hooks 25 = .ok (.invokevirtual 555, 3) := by decide +kernel
theorem dX12_hooks_28 : decode cX12_hooks 28 = .ok (.istore_n 3, 1) := by decide +kernel
theorem dX12_hooks_29 : decode cX12_hooks 29 = .ok (.iload_n 3, 1) := by decide +kernel
theorem dX12_hooks_30 : decode cX12_hooks 30 = .ok (.iconst (-1), 1) := by decide +kernel
theorem dX12_hooks_31 : decode cX12_hooks 31 = .ok (.if_icmp .ne 5, 3) := by decide +kernel
theorem dX12_hooks_34 : decode cX12_hooks 34 = .ok (.iconst (-1), 1) := by decide +kernel
theorem dX12_hooks_35 : decode cX12_hooks 35 = .ok (.ireturn, 1) := by decide +kernel
theorem dX12_hooks_36 : decode cX12_hooks 36 = .ok (.iconst 0, 1) := by decide +kernel
theorem dX12_hooks_37 : decode cX12_hooks 37 = .ok (.istore 4, 2) := by decide +kernel
theorem dX12_hooks_39 : decode cX12_hooks 39 = .ok (.iconst 0, 1) := by decide +kernel
theorem dX12_hooks_40 : decode cX12_hooks 40 = .ok (.istore 5, 2) := by decide +kernel
theorem dX12_hooks_42 : decode cX12_hooks 42 = .ok (.iconst 0, 1) := by decide +kernel
theorem dX12_hooks_43 : decode cX12_hooks 43 = .ok (.istore 6, 2) := by decide +kernel
theorem dX12_hooks_45 : decode cX12_hooks 45 = .ok (.iconst 0, 1) := by decide +kernel
theorem dX12_hooks_46 : decode cX12_hooks 46 = .ok (.istore 7, 2) := by decide +kernel
theorem dX12_hooks_48 : decode cX12_hooks 48 = .ok (.iload 7, 2) := by decide +kernel
theorem dX12_hooks_50 : decode cX12_hooks 50 = .ok (.iload_n 3, 1) := by decide +kernel
theorem dX12_hooks_51 : decode cX12_hooks 51 = .ok (.if_icmp .ge 150, 3) := by decide +kernel
theorem dX12_hooks_54 : decode cX12_hooks 54 = .ok (.aload_n 0, 1) := by decide +kernel
theorem dX12_hooks_55 : decode cX12_hooks 55 = .ok (.getfield 173, 3) := by decide +kernel
theorem dX12_hooks_58 : decode cX12_hooks 58 = .ok (.iload 7, 2) := by decide +kernel
theorem dX12_hooks_60 : decode cX12_hooks 60 = .ok (.iconst 1, 1) := by decide +kernel
theorem dX12_hooks_61 : decode cX12_hooks 61 = .ok (.iastore, 1) := by decide +kernel
theorem dX12_hooks_62 : decode cX12_hooks 62 = .ok (.iconst 0, 1) := by decide +kernel
theorem dX12_hooks_63 : decode cX12_hooks 63 = .ok (.istore 8, 2) := by decide +kernel
theorem dX12_hooks_65 : decode cX12_hooks 65 = .ok (.iconst 0, 1) := by decide +kernel
theorem dX12_hooks_66 : decode cX12_hooks 66 = .ok (.istore 9, 2) := by decide +kernel
theorem dX12_hooks_68 : decode cX12_hooks 68 = .ok (.iload 9, 2) := by decide +kernel
theorem dX12_hooks_70 : decode cX12_hooks 70 = .ok (.iload_n 3, 1) := by decide +kernel
theorem dX12_hooks_71 : decode cX12_hooks 71 = .ok (.if_icmp .ge 90, 3) := by decide +kernel
theorem dX12_hooks_74 : decode cX12_hooks 74 = .ok (.iload 9, 2) := by decide +kernel
theorem dX12_hooks_76 : decode cX12_hooks 76 = .ok (.iload 7, 2) := by decide +kernel
theorem dX12_hooks_78 : decode cX12_hooks 78 = .ok (.if_icmp .ge 47, 3) := by decide +kernel
theorem dX12_hooks_81 : decode cX12_hooks 81 = .ok (.aload_n 0, 1) := by decide +kernel
theorem dX12_hooks_82 : decode cX12_hooks 82 = .ok (.getfield 95, 3) := by decide +kernel
theorem dX12_hooks_85 : decode cX12_hooks 85 = .ok (.iload 9, 2) := by decide +kernel
theorem dX12_hooks_87 : decode cX12_hooks 87 = .ok (.iaload, 1) := by decide +kernel
theorem dX12_hooks_88 : decode cX12_hooks 88 = .ok (.aload_n 0, 1) := by decide +kernel
theorem dX12_hooks_89 : decode cX12_hooks 89 = .ok (.getfield 95, 3) := by decide +kernel
theorem dX12_hooks_92 : decode cX12_hooks 92 = .ok (.iload 7, 2) := by decide +kernel
theorem dX12_hooks_94 : decode cX12_hooks 94 = .ok (.iaload, 1) := by decide +kernel
theorem dX12_hooks_95 : decode cX12_hooks 95 = .ok (.if_icmp .ge 30, 3) := by decide +kernel
theorem dX12_hooks_98 : decode cX12_hooks 98 = .ok (.aload_n 0, 1) := by decide +kernel
theorem dX12_hooks_99 : decode cX12_hooks 99 = .ok (.getfield 173, 3) := by decide +kernel
theorem dX12_hooks_102 : decode cX12_hooks 102 = .ok (.iload 7, 2) := by decide +kernel
theorem dX12_hooks_104 : decode cX12_hooks 104 = .ok (.aload_n 0, 1) := by decide +kernel
theorem dX12_hooks_105 : decode cX12_hooks 105 = .ok (.aload_n 0, 1) := by decide +kernel
theorem dX12_hooks_106 : decode cX12_hooks 106 = .ok (.getfield 173, 3) := by decide +kernel
theorem dX12_hooks_109 : decode cX12_hooks 109 = .ok (.iload 7, 2) := by decide +kernel
theorem dX12_hooks_111 : decode cX12_hooks 111 = .ok (.iaload, 1) := by decide +kernel
theorem dX12_hooks_112 : decode cX12_hooks 112 = .ok (.aload_n 0, 1) := by decide +kernel
theorem dX12_hooks_113 : decode cX12_hooks 113 = .ok (.getfield 173, 3) := by decide +kernel
theorem dX12_hooks_116 : decode cX12_hooks 116 = .ok (.iload 9, 2) := by decide +kernel
theorem dX12_hooks_118 : decode cX12_hooks 118 = .ok (.iaload, 1) := by decide +kernel
theorem dX12_hooks_119 : decode cX12_hooks 119 = .ok (.iconst 1, 1) := by decide +kernel
theorem dX12_hooks_120 : decode cX12_hooks 120 = .ok (.iadd, 1) := by decide +kernel
theorem dX12_hooks_121 : decode cX12_hooks 121 = .ok (.invokevirtual 493, 3) := by decide +kernel
theorem dX12_hooks_124 : decode cX12_hooks 124 = .ok (.iastore, 1) := by decide +kernel
theorem dX12_hooks_125 : decode cX12_hooks 125 = .ok (.iload 9, 2) := by decide +kernel
theorem dX12_hooks_127 : decode cX12_hooks 127 = .ok (.iload 7, 2) := by decide +kernel
theorem dX12_hooks_129 : decode cX12_hooks 129 = .ok (.if_icmp .le 26, 3) := by decide +kernel
theorem dX12_hooks_132 : decode cX12_hooks 132 = .ok (.aload_n 0, 1) := by decide +kernel
theorem dX12_hooks_133 : decode cX12_hooks 133 = .ok (.getfield 95, 3) := by decide +kernel
theorem dX12_hooks_136 : decode cX12_hooks 136 = .ok (.iload 9, 2) := by decide +kernel
theorem dX12_hooks_138 : decode cX12_hooks 138 = .ok (.iaload, 1) := by decide +kernel
theorem dX12_hooks_139 : decode cX12_hooks 139 = .ok (.aload_n 0, 1) := by decide +kernel
theorem dX12_hooks_140 : decode cX12_hooks 140 = .ok (.getfield 95, 3) := by decide +kernel
theorem dX12_hooks_143 : decode cX12_hooks 143 = .ok (.iload 7, 2) := by decide +kernel
theorem dX12_hooks_145 : decode cX12_hooks 145 = .ok (.iaload, 1) := by decide +kernel
theorem dX12_hooks_146 : decode cX12_hooks 146 = .ok (.if_icmp .ge 9, 3) := by decide +kernel
theorem dX12_hooks_149 : decode cX12_hooks 149 = .ok (.iload 8, 2) := by decide +kernel
theorem dX12_hooks_151 : decode cX12_hooks 151 = .ok (.iconst 1, 1) := by decide +kernel
theorem dX12_hooks_152 : decode cX12_hooks 152 = .ok (.iadd, 1) := by decide +kernel
theorem dX12_hooks_153 : decode cX12_hooks 153 = .ok (.istore 8, 2) := by decide +kernel
theorem dX12_hooks_155 : decode cX12_hooks 155 = .ok (.iinc 9 1, 3) := by decide +kernel
theorem dX12_hooks_158 : decode cX12_hooks 158 = .ok (.goto (-90), 3) := by decide +kernel
theorem dX12_hooks_161 : decode cX12_hooks 161 = .ok (.aload_n 0, 1) := by decide +kernel
theorem dX12_hooks_162 : decode cX12_hooks 162 = .ok (.iload 4, 2) := by decide +kernel
theorem dX12_hooks_164 : decode cX12_hooks 164 = .ok (.aload_n 0, 1) := by decide +kernel
theorem dX12_hooks_165 : decode cX12_hooks 165 = .ok (.getfield 173, 3) := by decide +kernel
theorem dX12_hooks_168 : decode cX12_hooks 168 = .ok (.iload 7, 2) := by decide +kernel
theorem dX12_hooks_170 : decode cX12_hooks 170 = .ok (.iaload, 1) := by decide +kernel
theorem dX12_hooks_171 : decode cX12_hooks 171 = .ok (.invokevirtual 493, 3) := by decide +kernel
theorem dX12_hooks_174 : decode cX12_hooks 174 = .ok (.istore 4, 2) := by decide +kernel
theorem dX12_hooks_176 : decode cX12_hooks 176 = .ok (.iload 5, 2) := by decide +kernel
theorem dX12_hooks_178 : decode cX12_hooks 178 = .ok (.iload 8, 2) := by decide +kernel
theorem dX12_hooks_180 : decode cX12_hooks 180 = .ok (.iadd, 1) := by decide +kernel
theorem dX12_hooks_181 : decode cX12_hooks 181 = .ok (.istore 5, 2) := by decide +kernel
theorem dX12_hooks_183 : decode cX12_hooks 183 = .ok (.iload 6, 2) := by decide +kernel
theorem dX12_hooks_185 : decode cX12_hooks 185 = .ok (.iload_n 3, 1) := by decide +kernel
theorem dX12_hooks_186 : decode cX12_hooks 186 = .ok (.iload 7, 2) := by decide +kernel
theorem dX12_hooks_188 : decode cX12_hooks 188 = .ok (.isub, 1) := by decide +kernel
theorem dX12_hooks_189 : decode cX12_hooks 189 = .ok (.imul, 1) := by decide +kernel
theorem dX12_hooks_190 : decode cX12_hooks 190 = .ok (.iload 8, 2) := by decide +kernel
theorem dX12_hooks_192 : decode cX12_hooks 192 = .ok (.iadd, 1) := by decide +kernel
theorem dX12_hooks_193 : decode cX12_hooks 193 = .ok (.istore 6, 2) := by decide +kernel
theorem dX12_hooks_195 : decode cX12_hooks 195 = .ok (.iinc 7 1, 3) := by decide +kernel
theorem dX12_hooks_198 : decode cX12_hooks 198 = .ok (.goto (-150), 3) := by decide +kernel
theorem dX12_hooks_201 : decode cX12_hooks 201 = .ok (.iload_n 2, 1) := by decide +kernel
theorem dX12_hooks_202 : decode cX12_hooks 202 = .ok (.ifCond .ne 8, 3) := by decide +kernel
theorem dX12_hooks_205 : decode cX12_hooks 205 = .ok (.iload 4, 2) := by decide +kernel
theorem dX12_hooks_207 : decode cX12_hooks 207 = .ok (.goto 15, 3) := by decide +kernel
theorem dX12_hooks_210 : decode cX12_hooks 210 = .ok (.iload_n 2, 1) := by decide +kernel
theorem dX12_hooks_211 : decode cX12_hooks 211 = .ok (.iconst 1, 1) := by decide +kernel
theorem dX12_hooks_212 : decode cX12_hooks 212 = .ok (.if_icmp .ne 8, 3) := by decide +kernel
theorem dX12_hooks_215 : decode cX12_hooks 215 = .ok (.iload 5, 2) := by decide +kernel
theorem dX12_hooks_217 : decode cX12_hooks 217 = .ok (.goto 5, 3) := by decide +kernel
theorem dX12_hooks_220 : decode cX12_hooks 220 = .ok (.iload 6, 2) := by decide +kernel
theorem dX12_hooks_222 : decode cX12_hooks 222 = .ok (.ireturn, 1) := by decide +kernel
theorem dX12_goodTaking_0 : decode cX12_goodTaking 0 = .ok (.iload_n 2, 1) := by decide +kernel
theorem dX12_goodTaking_1 : decode cX12_goodTaking 1 = .ok (.istore_n 3, 1) := by decide +kernel
theorem dX12_goodTaking_2 : decode cX12_goodTaking 2 = .ok (.iload_n 3, 1) := by decide +kernel
theorem dX12_goodTaking_3 : decode cX12_goodTaking 3 = .ok (.iload_n 1, 1) := by decide +kernel
theorem dX12_goodTaking_4 : decode cX12_goodTaking 4 = .ok (.if_icmp .gt 49, 3) := by decide +kernel
theorem dX12_goodTaking_7 : decode cX12_goodTaking 7 = .ok (.iload_n 1, 1) := by decide +kernel
theorem dX12_goodTaking_8 : decode cX12_goodTaking 8 = .ok (.iload_n 3, 1) := by decide +kernel
theorem dX12_goodTaking_9 : decode cX12_goodTaking 9 = .ok (.isub, 1) := by decide +kernel
theorem dX12_goodTaking_10 : decode cX12_goodTaking 10 = .ok (.istore 4, 2) := by decide +kernel
theorem dX12_goodTaking_12 : decode cX12_goodTaking 12 = .ok (.iload 4, 2) := by decide +kernel
theorem dX12_goodTaking_14 : decode cX12_goodTaking 14 = .ok (.ifCond .eq 30, 3) := by decide +kernel
theorem dX12_goodTaking_17 : decode cX12_goodTaking 17 = .ok (.aload_n 0, 1) := by decide +kernel
theorem dX12_goodTaking_18 : decode cX12_goodTaking 18 = .ok (.getfield 177, 3) := by decide +kernel
theorem dX12_goodTaking_21 : decode cX12_goodTaking 21 = .ok (.sipush 201, 3) := by decide +kernel
theorem dX12_goodTaking_24 : decode cX12_goodTaking 24 = .ok (.aload_n 0, 1) := by decide +kernel
theorem dX12_goodTaking_25 : decode cX12_goodTaking 25 = .ok (.iload 4, 2) := by decide +kernel
theorem dX12_goodTaking_27 : decode cX12_goodTaking 27 = .ok (.iload_n 2, 1) := by decide +kernel
theorem dX12_goodTaking_28 : decode cX12_goodTaking 28 = .ok (.invokevirtual 493, 3) := by decide +kernel
theorem dX12_goodTaking_31 : decode cX12_goodTaking 31 = .ok (.imul, 1) := by decide +kernel
theorem dX12_goodTaking_32 : decode cX12_goodTaking 32 = .ok (.aload_n 0, 1) := by decide +kernel
theorem dX12_goodTaking_33 : decode cX12_goodTaking 33 = .ok (.iload 4, 2) := by decide +kernel
theorem dX12_goodTaking_35 : decode cX12_goodTaking 35 = .ok (.iload_n 2, 1) := by decide +kernel
theorem dX12_goodTaking_36 : decode cX12_goodTaking 36 = .ok (.invokevirtual 453, 3) := by decide +kernel
theorem dX12_goodTaking_39 : decode cX12_goodTaking 39 = .ok (.iadd, 1) := by decide +kernel
theorem dX12_goodTaking_40 : decode cX12_goodTaking 40 = .ok (.iaload, 1) := by decide +kernel
theorem dX12_goodTaking_41 : decode cX12_goodTaking 41 = .ok (.ifCond .ne 5, 3) := by decide +kernel
theorem dX12_goodTaking_44 : decode cX12_goodTaking 44 = .ok (.iload_n 3, 1) := by decide +kernel
theorem dX12_goodTaking_45 : decode cX12_goodTaking 45 = .ok (.ireturn, 1) := by decide +kernel
theorem dX12_goodTaking_46 : decode cX12_goodTaking 46 = .ok (.iload_n 3, 1) := by decide +kernel
theorem dX12_goodTaking_47 : decode cX12_goodTaking 47 = .ok (.iload_n 2, 1) := by decide +kernel
theorem dX12_goodTaking_48 : decode cX12_goodTaking 48 = .ok (.iadd, 1) := by decide +kernel
theorem dX12_goodTaking_49 : decode cX12_goodTaking 49 = .ok (.istore_n 3, 1) := by decide +kernel
theorem dX12_goodTaking_50 : decode cX12_goodTaking 50 = .ok (.goto (-48), 3) := by decide +kernel
theorem dX12_goodTaking_53 : decode cX12_goodTaking 53 = .ok (.iconst (-1), 1) := by decide +kernel
theorem dX12_goodTaking_54 : decode cX12_goodTaking 54 = .ok (.ireturn, 1) := by decide +kernel
theorem dX12_game_0 : decode cX12_game 0 = .ok (.aload_n 0, 1) := by decide +kernel
theorem dX12_game_1 : decode cX12_game 1 = .ok (.iconst 0, 1) := by decide +kernel
theorem dX12_game_2 : decode cX12_game 2 = .ok (.putfield 183, 3) := by decide +kernel
theorem dX12_game_5 : decode cX12_game 5 = .ok (.aload_n 0, 1) := by decide +kernel
theorem dX12_game_6 : decode cX12_game 6 = .ok (.iload_n 1, 1) := by decide +kernel
theorem dX12_game_7 : decode cX12_game 7 = .ok (.iconst 1, 1) := by decide +kernel
theorem dX12_game_8 : decode cX12_game 8 = .ok (.sipush 200, 3) := by decide +kernel
theorem dX12_game_11 : decode cX12_game 11 = .ok (.invokevirtual 206, 3) := by decide +kernel
theorem dX12_game_14 : decode cX12_game 14 = .ok (.ifCond .eq 15, 3) := by decide +kernel
theorem dX12_game_17 : decode cX12_game 17 = .ok (.aload_n 0, 1) := by decide +kernel
theorem dX12_game_18 : decode cX12_game 18 = .ok (.iload_n 2, 1) := by decide +kernel
theorem dX12_game_19 : decode cX12_game 19 = .ok (.iconst 1, 1) := by decide +kernel
theorem dX12_game_20 : decode cX12_game 20 = .ok (.sipush 200, 3) := by decide +kernel
theorem dX12_game_23 : decode cX12_game 23 = .ok (.invokevirtual 206, 3) := by decide +kernel
theorem dX12_game_26 : decode cX12_game 26 = .ok (.ifCond .ne 5, 3) := by decide +kernel
theorem dX12_game_29 : decode cX12_game 29 = .ok (.iconst (-1), 1) := by decide +kernel
theorem dX12_game_30 : decode cX12_game 30 = .ok (.ireturn, 1) := by decide +kernel
theorem dX12_game_31 : decode cX12_game 31 = .ok (.aload_n 0, 1) := by decide +kernel
theorem dX12_game_32 : decode cX12_game 32 = .ok (.iload_n 1, 1) := by decide +kernel
theorem dX12_game_33 : decode cX12_game 33 = .ok (.iload_n 2, 1) := by decide +kernel
theorem dX12_game_34 : decode cX12_game 34 = .ok (.invokevirtual 493, 3) := by decide +kernel
theorem dX12_game_37 : decode cX12_game 37 = .ok (.istore_n 3, 1) := by decide +kernel
theorem dX12_game_38 : decode cX12_game 38 = .ok (.iconst 1, 1) := by decide +kernel
theorem dX12_game_39 : decode cX12_game 39 = .ok (.istore 4, 2) := by decide +kernel
theorem dX12_game_41 : decode cX12_game 41 = .ok (.iload 4, 2) := by decide +kernel
theorem dX12_game_43 : decode cX12_game 43 = .ok (.iload_n 3, 1) := by decide +kernel
theorem dX12_game_44 : decode cX12_game 44 = .ok (.if_icmp .gt 56, 3) := by decide +kernel
theorem dX12_game_47 : decode cX12_game 47 = .ok (.iconst 1, 1) := by decide +kernel
theorem dX12_game_48 : decode cX12_game 48 = .ok (.istore 5, 2) := by decide +kernel
theorem dX12_game_50 : decode cX12_game 50 = .ok (.iload 5, 2) := by decide +kernel
theorem dX12_game_52 : decode cX12_game 52 = .ok (.iload 4, 2) := by decide +kernel
theorem dX12_game_54 : decode cX12_game 54 = .ok (.if_icmp .gt 40, 3) := by decide +kernel
theorem dX12_game_57 : decode cX12_game 57 = .ok (.aload_n 0, 1) := by decide +kernel
theorem dX12_game_58 : decode cX12_game 58 = .ok (.getfield 177, 3) := by decide +kernel
theorem dX12_game_61 : decode cX12_game 61 = .ok (.sipush 201, 3) := by decide +kernel
theorem dX12_game_64 : decode cX12_game 64 = .ok (.iload 4, 2) := by decide +kernel
theorem dX12_game_66 : decode cX12_game 66 = .ok (.imul, 1) := by decide +kernel
theorem dX12_game_67 : decode cX12_game 67 = .ok (.iload 5, 2) := by decide +kernel
theorem dX12_game_69 : decode cX12_game 69 = .ok (.iadd, 1) := by decide +kernel
theorem dX12_game_70 : decode cX12_game 70 = .ok (.aload_n 0, 1) := by decide +kernel
theorem dX12_game_71 : decode cX12_game 71 = .ok (.iload 4, 2) := by decide +kernel
theorem dX12_game_73 : decode cX12_game 73 = .ok (.iload 5, 2) := by decide +kernel
theorem dX12_game_75 : decode cX12_game 75 = .ok (.invokevirtual 558, 3) := by decide +kernel
theorem dX12_game_78 : decode cX12_game 78 = .ok (.iconst (-1), 1) := by decide +kernel
theorem dX12_game_79 : decode cX12_game 79 = .ok (.if_icmp .ne 7, 3) := by decide +kernel
theorem dX12_game_82 : decode cX12_game 82 = .ok (.iconst 0, 1) := by decide +kernel
theorem dX12_game_83 : decode cX12_game 83 = .ok (.goto 4, 3) := by decide +kernel
theorem dX12_game_86 : decode cX12_game 86 = .ok (.iconst 1, 1) := by decide +kernel
theorem dX12_game_87 : decode cX12_game 87 = .ok (.iastore, 1) := by decide +kernel
theorem dX12_game_88 : decode cX12_game 88 = .ok (.iinc 5 1, 3) := by decide +kernel
theorem dX12_game_91 : decode cX12_game 91 = .ok (.goto (-41), 3) := by decide +kernel
theorem dX12_game_94 : decode cX12_game 94 = .ok (.iinc 4 1, 3) := by decide +kernel
theorem dX12_game_97 : decode cX12_game 97 = .ok (.goto (-56), 3) := by decide +kernel
theorem dX12_game_100 : decode cX12_game 100 = .ok (.aload_n 0, 1) := by decide +kernel
theorem dX12_game_101 : decode cX12_game 101 = .ok (.iload_n 3, 1) := by decide +kernel
theorem dX12_game_102 : decode cX12_game 102 = .ok (.aload_n 0, 1) := by decide +kernel
theorem dX12_game_103 : decode cX12_game 103 = .ok (.iload_n 1, 1) := by decide +kernel
theorem dX12_game_104 : decode cX12_game 104 = .ok (.iload_n 2, 1) := by decide +kernel
theorem dX12_game_105 : decode cX12_game 105 = .ok (.invokevirtual 453, 3) := by decide +kernel
theorem dX12_game_108 : decode cX12_game 108 = .ok (.invokevirtual 558, 3) := by decide +kernel
theorem dX12_game_111 : decode cX12_game 111 = .ok (.ireturn, 1) := by decide +kernel
theorem dX12_keeps_0 : decode cX12_keeps 0 = .ok (.aload_n 0, 1) := by decide +kernel
theorem dX12_keeps_1 : decode cX12_keeps 1 = .ok (.aload_n 0, 1) := by decide +kernel
theorem dX12_keeps_2 : decode cX12_keeps 2 = .ok (.getfield 561, 3) := by decide +kernel
theorem dX12_keeps_5 : decode cX12_keeps 5 = .ok (.iconst 1, 1) := by decide +kernel
theorem dX12_keeps_6 : decode cX12_keeps 6 = .ok (.iadd, 1) := by decide +kernel
theorem dX12_keeps_7 : decode cX12_keeps 7 = .ok (.putfield 561, 3) := by decide +kernel
theorem dX12_keeps_10 : decode cX12_keeps 10 = .ok (.aload_n 0, 1) := by decide +kernel
theorem dX12_keeps_11 : decode cX12_keeps 11 = .ok (.getfield 564, 3) := by decide +kernel
theorem dX12_keeps_14 : decode cX12_keeps 14 = .ok (.ifCond .ne 15, 3) := by decide +kernel
theorem dX12_keeps_17 : decode cX12_keeps 17 = .ok (.aload_n 0, 1) := by decide +kernel
theorem dX12_keeps_18 : decode cX12_keeps 18 = .ok (.getfield 180, 3) := by decide +kernel
theorem dX12_keeps_21 : decode cX12_keeps 21 = .ok (.aload_n 0, 1) := by decide +kernel
theorem dX12_keeps_22 : decode cX12_keeps 22 = .ok (.getfield 561, 3) := by decide +kernel
theorem dX12_keeps_25 : decode cX12_keeps 25 = .ok (.iconst 1, 1) := by decide +kernel
theorem dX12_keeps_26 : decode cX12_keeps 26 = .ok (.isub, 1) := by decide +kernel
theorem dX12_keeps_27 : decode cX12_keeps 27 = .ok (.iaload, 1) := by decide +kernel
theorem dX12_keeps_28 : decode cX12_keeps 28 = .ok (.ireturn, 1) := by decide +kernel
theorem dX12_keeps_29 : decode cX12_keeps 29 = .ok (.aload_n 0, 1) := by decide +kernel
theorem dX12_keeps_30 : decode cX12_keeps 30 = .ok (.getfield 180, 3) := by decide +kernel
theorem dX12_keeps_33 : decode cX12_keeps 33 = .ok (.aload_n 0, 1) := by decide +kernel
theorem dX12_keeps_34 : decode cX12_keeps 34 = .ok (.getfield 561, 3) := by decide +kernel
theorem dX12_keeps_37 : decode cX12_keeps 37 = .ok (.iconst 1, 1) := by decide +kernel
theorem dX12_keeps_38 : decode cX12_keeps 38 = .ok (.isub, 1) := by decide +kernel
theorem dX12_keeps_39 : decode cX12_keeps 39 = .ok (.iload_n 1, 1) := by decide +kernel
theorem dX12_keeps_40 : decode cX12_keeps 40 = .ok (.iastore, 1) := by decide +kernel
theorem dX12_keeps_41 : decode cX12_keeps 41 = .ok (.iload_n 1, 1) := by decide +kernel
theorem dX12_keeps_42 : decode cX12_keeps 42 = .ok (.ireturn, 1) := by decide +kernel
theorem dX12_keepsLaw_0 : decode cX12_keepsLaw 0 = .ok (.aload_n 0, 1) := by decide +kernel
theorem dX12_keepsLaw_1 : decode cX12_keepsLaw 1 = .ok (.getfield 37, 3) := by decide +kernel
theorem dX12_keepsLaw_4 : decode cX12_keepsLaw 4 = .ok (.iconst 0, 1) := by decide +kernel
theorem dX12_keepsLaw_5 : decode cX12_keepsLaw 5 = .ok (.aload_n 0, 1) := by decide +kernel
theorem dX12_keepsLaw_6 : decode cX12_keepsLaw 6 = .ok (.aload_n 0, 1) := by decide +kernel
theorem dX12_keepsLaw_7 : decode cX12_keepsLaw 7 = .ok (.getfield 37, 3) := by decide +kernel
theorem dX12_keepsLaw_10 : decode cX12_keepsLaw 10 = .ok (.iconst 0, 1) := by decide +kernel
theorem dX12_keepsLaw_11 : decode cX12_keepsLaw 11 = .ok (.iaload, 1) := by decide +kernel
theorem dX12_keepsLaw_12 : decode cX12_keepsLaw 12 = .ok (.invokevirtual 567, 3) := by decide +kernel
theorem dX12_keepsLaw_15 : decode cX12_keepsLaw 15 = .ok (.iastore, 1) := by decide +kernel
theorem dX12_keepsLaw_16 : decode cX12_keepsLaw 16 = .ok (.iconst 0, 1) := by decide +kernel
theorem dX12_keepsLaw_17 : decode cX12_keepsLaw 17 = .ok (.istore_n 1, 1) := by decide +kernel
theorem dX12_keepsLaw_18 : decode cX12_keepsLaw 18 = .ok (.iload_n 1, 1) := by decide +kernel
theorem dX12_keepsLaw_19 : decode cX12_keepsLaw 19 = .ok (.bipush 16, 2) := by decide +kernel
theorem dX12_keepsLaw_21 : decode cX12_keepsLaw 21 = .ok (.if_icmp .ge 73, 3) := by decide +kernel
theorem dX12_keepsLaw_24 : decode cX12_keepsLaw 24 = .ok (.aload_n 0, 1) := by decide +kernel
theorem dX12_keepsLaw_25 : decode cX12_keepsLaw 25 = .ok (.getfield 40, 3) := by decide +kernel
theorem dX12_keepsLaw_28 : decode cX12_keepsLaw 28 = .ok (.iload_n 1, 1) := by decide +kernel
theorem dX12_keepsLaw_29 : decode cX12_keepsLaw 29 = .ok (.aload_n 0, 1) := by decide +kernel
theorem dX12_keepsLaw_30 : decode cX12_keepsLaw 30 = .ok (.aload_n 0, 1) := by decide +kernel
theorem dX12_keepsLaw_31 : decode cX12_keepsLaw 31 = .ok (.getfield 40, 3) := by decide +kernel
theorem dX12_keepsLaw_34 : decode cX12_keepsLaw 34 = .ok (.iload_n 1, 1) := by decide +kernel
theorem dX12_keepsLaw_35 : decode cX12_keepsLaw 35 = .ok (.iaload, 1) := by decide +kernel
theorem dX12_keepsLaw_36 : decode cX12_keepsLaw 36 = .ok (.invokevirtual 567, 3) := by decide +kernel
theorem dX12_keepsLaw_39 : decode cX12_keepsLaw 39 = .ok (.iastore, 1) := by decide +kernel
theorem dX12_keepsLaw_40 : decode cX12_keepsLaw 40 = .ok (.aload_n 0, 1) := by decide +kernel
theorem dX12_keepsLaw_41 : decode cX12_keepsLaw 41 = .ok (.getfield 43, 3) := by decide +kernel
theorem dX12_keepsLaw_44 : decode cX12_keepsLaw 44 = .ok (.iload_n 1, 1) := by decide +kernel
theorem dX12_keepsLaw_45 : decode cX12_keepsLaw 45 = .ok (.aload_n 0, 1) := by decide +kernel
theorem dX12_keepsLaw_46 : decode cX12_keepsLaw 46 = .ok (.aload_n 0, 1) := by decide +kernel
theorem dX12_keepsLaw_47 : decode cX12_keepsLaw 47 = .ok (.getfield 43, 3) := by decide +kernel
theorem dX12_keepsLaw_50 : decode cX12_keepsLaw 50 = .ok (.iload_n 1, 1) := by decide +kernel
theorem dX12_keepsLaw_51 : decode cX12_keepsLaw 51 = .ok (.iaload, 1) := by decide +kernel
theorem dX12_keepsLaw_52 : decode cX12_keepsLaw 52 = .ok (.invokevirtual 567, 3) := by decide +kernel
theorem dX12_keepsLaw_55 : decode cX12_keepsLaw 55 = .ok (.iastore, 1) := by decide +kernel
theorem dX12_keepsLaw_56 : decode cX12_keepsLaw 56 = .ok (.aload_n 0, 1) := by decide +kernel
theorem dX12_keepsLaw_57 : decode cX12_keepsLaw 57 = .ok (.getfield 46, 3) := by decide +kernel
theorem dX12_keepsLaw_60 : decode cX12_keepsLaw 60 = .ok (.iload_n 1, 1) := by decide +kernel
theorem dX12_keepsLaw_61 : decode cX12_keepsLaw 61 = .ok (.aload_n 0, 1) := by decide +kernel
theorem dX12_keepsLaw_62 : decode cX12_keepsLaw 62 = .ok (.aload_n 0, 1) := by decide +kernel
theorem dX12_keepsLaw_63 : decode cX12_keepsLaw 63 = .ok (.getfield 46, 3) := by decide +kernel
theorem dX12_keepsLaw_66 : decode cX12_keepsLaw 66 = .ok (.iload_n 1, 1) := by decide +kernel
theorem dX12_keepsLaw_67 : decode cX12_keepsLaw 67 = .ok (.iaload, 1) := by decide +kernel
theorem dX12_keepsLaw_68 : decode cX12_keepsLaw 68 = .ok (.invokevirtual 567, 3) := by decide +kernel
theorem dX12_keepsLaw_71 : decode cX12_keepsLaw 71 = .ok (.iastore, 1) := by decide +kernel
theorem dX12_keepsLaw_72 : decode cX12_keepsLaw 72 = .ok (.aload_n 0, 1) := by decide +kernel
theorem dX12_keepsLaw_73 : decode cX12_keepsLaw 73 = .ok (.getfield 49, 3) := by decide +kernel
theorem dX12_keepsLaw_76 : decode cX12_keepsLaw 76 = .ok (.iload_n 1, 1) := by decide +kernel
theorem dX12_keepsLaw_77 : decode cX12_keepsLaw 77 = .ok (.aload_n 0, 1) := by decide +kernel
theorem dX12_keepsLaw_78 : decode cX12_keepsLaw 78 = .ok (.aload_n 0, 1) := by decide +kernel
theorem dX12_keepsLaw_79 : decode cX12_keepsLaw 79 = .ok (.getfield 49, 3) := by decide +kernel
theorem dX12_keepsLaw_82 : decode cX12_keepsLaw 82 = .ok (.iload_n 1, 1) := by decide +kernel
theorem dX12_keepsLaw_83 : decode cX12_keepsLaw 83 = .ok (.iaload, 1) := by decide +kernel
theorem dX12_keepsLaw_84 : decode cX12_keepsLaw 84 = .ok (.invokevirtual 567, 3) := by decide +kernel
theorem dX12_keepsLaw_87 : decode cX12_keepsLaw 87 = .ok (.iastore, 1) := by decide +kernel
theorem dX12_keepsLaw_88 : decode cX12_keepsLaw 88 = .ok (.iinc 1 1, 3) := by decide +kernel
theorem dX12_keepsLaw_91 : decode cX12_keepsLaw 91 = .ok (.goto (-73), 3) := by decide +kernel
theorem dX12_keepsLaw_94 : decode cX12_keepsLaw 94 = .ok (.iconst 0, 1) := by decide +kernel
theorem dX12_keepsLaw_95 : decode cX12_keepsLaw 95 = .ok (.istore_n 1, 1) := by decide +kernel
theorem dX12_keepsLaw_96 : decode cX12_keepsLaw 96 = .ok (.iload_n 1, 1) := by decide +kernel
theorem dX12_keepsLaw_97 : decode cX12_keepsLaw 97 = .ok (.sipush 400, 3) := by decide +kernel
theorem dX12_keepsLaw_100 : decode cX12_keepsLaw 100 = .ok (.if_icmp .ge 41, 3) := by decide +kernel
theorem dX12_keepsLaw_103 : decode cX12_keepsLaw 103 = .ok (.aload_n 0, 1) := by decide +kernel
theorem dX12_keepsLaw_104 : decode cX12_keepsLaw 104 = .ok (.getfield 52, 3) := by decide +kernel
theorem dX12_keepsLaw_107 : decode cX12_keepsLaw 107 = .ok (.iload_n 1, 1) := by decide +kernel
theorem dX12_keepsLaw_108 : decode cX12_keepsLaw 108 = .ok (.aload_n 0, 1) := by decide +kernel
theorem dX12_keepsLaw_109 : decode cX12_keepsLaw 109 = .ok (.aload_n 0, 1) := by decide +kernel
theorem dX12_keepsLaw_110 : decode cX12_keepsLaw 110 = .ok (.getfield 52, 3) := by decide +kernel
theorem dX12_keepsLaw_113 : decode cX12_keepsLaw 113 = .ok (.iload_n 1, 1) := by decide +kernel
theorem dX12_keepsLaw_114 : decode cX12_keepsLaw 114 = .ok (.iaload, 1) := by decide +kernel
theorem dX12_keepsLaw_115 : decode cX12_keepsLaw 115 = .ok (.invokevirtual 567, 3) := by decide +kernel
theorem dX12_keepsLaw_118 : decode cX12_keepsLaw 118 = .ok (.iastore, 1) := by decide +kernel
theorem dX12_keepsLaw_119 : decode cX12_keepsLaw 119 = .ok (.aload_n 0, 1) := by decide +kernel
theorem dX12_keepsLaw_120 : decode cX12_keepsLaw 120 = .ok (.getfield 55, 3) := by decide +kernel
theorem dX12_keepsLaw_123 : decode cX12_keepsLaw 123 = .ok (.iload_n 1, 1) := by decide +kernel
theorem dX12_keepsLaw_124 : decode cX12_keepsLaw 124 = .ok (.aload_n 0, 1) := by decide +kernel
theorem dX12_keepsLaw_125 : decode cX12_keepsLaw 125 = .ok (.aload_n 0, 1) := by decide +kernel
theorem dX12_keepsLaw_126 : decode cX12_keepsLaw 126 = .ok (.getfield 55, 3) := by decide +kernel
theorem dX12_keepsLaw_129 : decode cX12_keepsLaw 129 = .ok (.iload_n 1, 1) := by decide +kernel
theorem dX12_keepsLaw_130 : decode cX12_keepsLaw 130 = .ok (.iaload, 1) := by decide +kernel
theorem dX12_keepsLaw_131 : decode cX12_keepsLaw 131 = .ok (.invokevirtual 567, 3) := by decide +kernel
theorem dX12_keepsLaw_134 : decode cX12_keepsLaw 134 = .ok (.iastore, 1) := by decide +kernel
theorem dX12_keepsLaw_135 : decode cX12_keepsLaw 135 = .ok (.iinc 1 1, 3) := by decide +kernel
theorem dX12_keepsLaw_138 : decode cX12_keepsLaw 138 = .ok (.goto (-42), 3) := by decide +kernel
theorem dX12_keepsLaw_141 : decode cX12_keepsLaw 141 = .ok (.return_, 1) := by decide +kernel
theorem dX12_keepsMany_0 : decode cX12_keepsMany 0 = .ok (.aload_n 0, 1) := by decide +kernel
theorem dX12_keepsMany_1 : decode cX12_keepsMany 1 = .ok (.aload_n 0, 1) := by decide +kernel
theorem dX12_keepsMany_2 : decode cX12_keepsMany 2 = .ok (.aload_n 0, 1) := by decide +kernel
theorem dX12_keepsMany_3 : decode cX12_keepsMany 3 = .ok (.getfield 196, 3) := by decide +kernel
theorem dX12_keepsMany_6 : decode cX12_keepsMany 6 = .ok (.invokevirtual 567, 3) := by decide +kernel
theorem dX12_keepsMany_9 : decode cX12_keepsMany 9 = .ok (.putfield 196, 3) := by decide +kernel
theorem dX12_keepsMany_12 : decode cX12_keepsMany 12 = .ok (.aload_n 0, 1) := by decide +kernel
theorem dX12_keepsMany_13 : decode cX12_keepsMany 13 = .ok (.aload_n 0, 1) := by decide +kernel
theorem dX12_keepsMany_14 : decode cX12_keepsMany 14 = .ok (.aload_n 0, 1) := by decide +kernel
theorem dX12_keepsMany_15 : decode cX12_keepsMany 15 = .ok (.getfield 199, 3) := by decide +kernel
theorem dX12_keepsMany_18 : decode cX12_keepsMany 18 = .ok (.invokevirtual 567, 3) := by decide +kernel
theorem dX12_keepsMany_21 : decode cX12_keepsMany 21 = .ok (.putfield 199, 3) := by decide +kernel
theorem dX12_keepsMany_24 : decode cX12_keepsMany 24 = .ok (.aload_n 0, 1) := by decide +kernel
theorem dX12_keepsMany_25 : decode cX12_keepsMany 25 = .ok (.aload_n 0, 1) := by decide +kernel
theorem dX12_keepsMany_26 : decode cX12_keepsMany 26 = .ok (.aload_n 0, 1) := by decide +kernel
theorem dX12_keepsMany_27 : decode cX12_keepsMany 27 = .ok (.getfield 355, 3) := by decide +kernel
theorem dX12_keepsMany_30 : decode cX12_keepsMany 30 = .ok (.invokevirtual 567, 3) := by decide +kernel
theorem dX12_keepsMany_33 : decode cX12_keepsMany 33 = .ok (.putfield 355, 3) := by decide +kernel
theorem dX12_keepsMany_36 : decode cX12_keepsMany 36 = .ok (.aload_n 0, 1) := by decide +kernel
theorem dX12_keepsMany_37 : decode cX12_keepsMany 37 = .ok (.aload_n 0, 1) := by decide +kernel
theorem dX12_keepsMany_38 : decode cX12_keepsMany 38 = .ok (.aload_n 0, 1) := by decide +kernel
theorem dX12_keepsMany_39 : decode cX12_keepsMany 39 = .ok (.getfield 358, 3) := by decide +kernel
theorem dX12_keepsMany_42 : decode cX12_keepsMany 42 = .ok (.invokevirtual 567, 3) := by decide +kernel
theorem dX12_keepsMany_45 : decode cX12_keepsMany 45 = .ok (.putfield 358, 3) := by decide +kernel
theorem dX12_keepsMany_48 : decode cX12_keepsMany 48 = .ok (.aload_n 0, 1) := by decide +kernel
theorem dX12_keepsMany_49 : decode cX12_keepsMany 49 = .ok (.aload_n 0, 1) := by decide +kernel
theorem dX12_keepsMany_50 : decode cX12_keepsMany 50 = .ok (.aload_n 0, 1) := by decide +kernel
theorem dX12_keepsMany_51 : decode cX12_keepsMany 51 = .ok (.getfield 352, 3) := by decide +kernel
theorem dX12_keepsMany_54 : decode cX12_keepsMany 54 = .ok (.invokevirtual 567, 3) := by decide +kernel
theorem dX12_keepsMany_57 : decode cX12_keepsMany 57 = .ok (.putfield 352, 3) := by decide +kernel
theorem dX12_keepsMany_60 : decode cX12_keepsMany 60 = .ok (.aload_n 0, 1) := by decide +kernel
theorem dX12_keepsMany_61 : decode cX12_keepsMany 61 = .ok (.aload_n 0, 1) := by decide +kernel
theorem dX12_keepsMany_62 : decode cX12_keepsMany 62 = .ok (.aload_n 0, 1) := by decide +kernel
theorem dX12_keepsMany_63 : decode cX12_keepsMany 63 = .ok (.getfield 487, 3) := by decide +kernel
theorem dX12_keepsMany_66 : decode cX12_keepsMany 66 = .ok (.invokevirtual 567, 3) := by decide +kernel
theorem dX12_keepsMany_69 : decode cX12_keepsMany 69 = .ok (.putfield 487, 3) := by decide +kernel
theorem dX12_keepsMany_72 : decode cX12_keepsMany 72 = .ok (.aload_n 0, 1) := by decide +kernel
theorem dX12_keepsMany_73 : decode cX12_keepsMany 73 = .ok (.aload_n 0, 1) := by decide +kernel
theorem dX12_keepsMany_74 : decode cX12_keepsMany 74 = .ok (.aload_n 0, 1) := by decide +kernel
theorem dX12_keepsMany_75 : decode cX12_keepsMany 75 = .ok (.getfield 496, 3) := by decide +kernel
theorem dX12_keepsMany_78 : decode cX12_keepsMany 78 = .ok (.invokevirtual 567, 3) := by decide +kernel
theorem dX12_keepsMany_81 : decode cX12_keepsMany 81 = .ok (.putfield 496, 3) := by decide +kernel
theorem dX12_keepsMany_84 : decode cX12_keepsMany 84 = .ok (.aload_n 0, 1) := by decide +kernel
theorem dX12_keepsMany_85 : decode cX12_keepsMany 85 = .ok (.aload_n 0, 1) := by decide +kernel
theorem dX12_keepsMany_86 : decode cX12_keepsMany 86 = .ok (.aload_n 0, 1) := by decide +kernel
theorem dX12_keepsMany_87 : decode cX12_keepsMany 87 = .ok (.getfield 500, 3) := by decide +kernel
theorem dX12_keepsMany_90 : decode cX12_keepsMany 90 = .ok (.invokevirtual 567, 3) := by decide +kernel
theorem dX12_keepsMany_93 : decode cX12_keepsMany 93 = .ok (.putfield 500, 3) := by decide +kernel
theorem dX12_keepsMany_96 : decode cX12_keepsMany 96 = .ok (.aload_n 0, 1) := by decide +kernel
theorem dX12_keepsMany_97 : decode cX12_keepsMany 97 = .ok (.aload_n 0, 1) := by decide +kernel
theorem dX12_keepsMany_98 : decode cX12_keepsMany 98 = .ok (.aload_n 0, 1) := by decide +kernel
theorem dX12_keepsMany_99 : decode cX12_keepsMany 99 = .ok (.getfield 512, 3) := by decide +kernel
theorem dX12_keepsMany_102 : decode cX12_keepsMany 102 = .ok (.invokevirtual 567, 3) := by decide +kernel
theorem dX12_keepsMany_105 : decode cX12_keepsMany 105 = .ok (.putfield 512, 3) := by decide +kernel
theorem dX12_keepsMany_108 : decode cX12_keepsMany 108 = .ok (.aload_n 0, 1) := by decide +kernel
theorem dX12_keepsMany_109 : decode cX12_keepsMany 109 = .ok (.aload_n 0, 1) := by decide +kernel
theorem dX12_keepsMany_110 : decode cX12_keepsMany 110 = .ok (.aload_n 0, 1) := by decide +kernel
theorem dX12_keepsMany_111 : decode cX12_keepsMany 111 = .ok (.getfield 524, 3) := by decide +kernel
theorem dX12_keepsMany_114 : decode cX12_keepsMany 114 = .ok (.invokevirtual 567, 3) := by decide +kernel
theorem dX12_keepsMany_117 : decode cX12_keepsMany 117 = .ok (.putfield 524, 3) := by decide +kernel
theorem dX12_keepsMany_120 : decode cX12_keepsMany 120 = .ok (.iconst 0, 1) := by decide +kernel
theorem dX12_keepsMany_121 : decode cX12_keepsMany 121 = .ok (.istore_n 1, 1) := by decide +kernel
theorem dX12_keepsMany_122 : decode cX12_keepsMany 122 = .ok (.iload_n 1, 1) := by decide +kernel
theorem dX12_keepsMany_123 : decode cX12_keepsMany 123 = .ok (.iconst 3, 1) := by decide +kernel
theorem dX12_keepsMany_124 : decode cX12_keepsMany 124 = .ok (.if_icmp .ge 25, 3) := by decide +kernel
theorem dX12_keepsMany_127 : decode cX12_keepsMany 127 = .ok (.aload_n 0, 1) := by decide +kernel
theorem dX12_keepsMany_128 : decode cX12_keepsMany 128 = .ok (.getfield 137, 3) := by decide +kernel
theorem dX12_keepsMany_131 : decode cX12_keepsMany 131 = .ok (.iload_n 1, 1) := by decide +kernel
theorem dX12_keepsMany_132 : decode cX12_keepsMany 132 = .ok (.aload_n 0, 1) := by decide +kernel
theorem dX12_keepsMany_133 : decode cX12_keepsMany 133 = .ok (.aload_n 0, 1) := by decide +kernel
theorem dX12_keepsMany_134 : decode cX12_keepsMany 134 = .ok (.getfield 137, 3) := by decide +kernel
theorem dX12_keepsMany_137 : decode cX12_keepsMany 137 = .ok (.iload_n 1, 1) := by decide +kernel
theorem dX12_keepsMany_138 : decode cX12_keepsMany 138 = .ok (.iaload, 1) := by decide +kernel
theorem dX12_keepsMany_139 : decode cX12_keepsMany 139 = .ok (.invokevirtual 567, 3) := by decide +kernel
theorem dX12_keepsMany_142 : decode cX12_keepsMany 142 = .ok (.iastore, 1) := by decide +kernel
theorem dX12_keepsMany_143 : decode cX12_keepsMany 143 = .ok (.iinc 1 1, 3) := by decide +kernel
theorem dX12_keepsMany_146 : decode cX12_keepsMany 146 = .ok (.goto (-24), 3) := by decide +kernel
theorem dX12_keepsMany_149 : decode cX12_keepsMany 149 = .ok (.aload_n 0, 1) := by decide +kernel
theorem dX12_keepsMany_150 : decode cX12_keepsMany 150 = .ok (.aload_n 0, 1) := by decide +kernel
theorem dX12_keepsMany_151 : decode cX12_keepsMany 151 = .ok (.aload_n 0, 1) := by decide +kernel
theorem dX12_keepsMany_152 : decode cX12_keepsMany 152 = .ok (.getfield 537, 3) := by decide +kernel
theorem dX12_keepsMany_155 : decode cX12_keepsMany 155 = .ok (.invokevirtual 567, 3) := by decide +kernel
theorem dX12_keepsMany_158 : decode cX12_keepsMany 158 = .ok (.putfield 537, 3) := by decide +kernel
theorem dX12_keepsMany_161 : decode cX12_keepsMany 161 = .ok (.aload_n 0, 1) := by decide +kernel
theorem dX12_keepsMany_162 : decode cX12_keepsMany 162 = .ok (.aload_n 0, 1) := by decide +kernel
theorem dX12_keepsMany_163 : decode cX12_keepsMany 163 = .ok (.aload_n 0, 1) := by decide +kernel
theorem dX12_keepsMany_164 : decode cX12_keepsMany 164 = .ok (.getfield 543, 3) := by decide +kernel
theorem dX12_keepsMany_167 : decode cX12_keepsMany 167 = .ok (.invokevirtual 567, 3) := by decide +kernel
theorem dX12_keepsMany_170 : decode cX12_keepsMany 170 = .ok (.putfield 543, 3) := by decide +kernel
theorem dX12_keepsMany_173 : decode cX12_keepsMany 173 = .ok (.return_, 1) := by decide +kernel
theorem dX12_keepsThought_0 : decode cX12_keepsThought 0 = .ok (.iconst 0, 1) := by decide +kernel
theorem dX12_keepsThought_1 : decode cX12_keepsThought 1 = .ok (.istore_n 1, 1) := by decide +kernel
theorem dX12_keepsThought_2 : decode cX12_keepsThought 2 = .ok (.iload_n 1, 1) := by decide +kernel
theorem dX12_keepsThought_3 : decode cX12_keepsThought 3 = .ok (.bipush 10, 2) := by decide +kernel
theorem dX12_keepsThought_5 : decode cX12_keepsThought 5 = .ok (.if_icmp .ge 25, 3) := by decide +kernel
theorem dX12_keepsThought_8 : decode cX12_keepsThought 8 = .ok (.aload_n 0, 1) := by decide +kernel
theorem dX12_keepsThought_9 : decode cX12_keepsThought 9 = .ok (.getfield 80, 3) := by decide +kernel
theorem dX12_keepsThought_12 : decode cX12_keepsThought 12 = .ok (.iload_n 1, 1) := by decide +kernel
theorem dX12_keepsThought_13 : decode cX12_keepsThought 13 = .ok (.aload_n 0, 1) := by decide +kernel
theorem dX12_keepsThought_14 : decode cX12_keepsThought 14 = .ok (.aload_n 0, 1) := by decide +kernel
theorem dX12_keepsThought_15 : decode cX12_keepsThought 15 = .ok (.getfield 80, 3) := by decide +kernel
theorem dX12_keepsThought_18 : decode cX12_keepsThought 18 = .ok (.iload_n 1, 1) := by decide +kernel
theorem dX12_keepsThought_19 : decode cX12_keepsThought 19 = .ok (.iaload, 1) := by decide +kernel
theorem dX12_keepsThought_20 : decode cX12_keepsThought 20 = .ok (.invokevirtual 567, 3) := by decide +kernel
theorem dX12_keepsThought_23 : decode cX12_keepsThought 23 = .ok (.iastore, 1) := by decide +kernel
theorem dX12_keepsThought_24 : decode cX12_keepsThought 24 = .ok (.iinc 1 1, 3) := by decide +kernel
theorem dX12_keepsThought_27 : decode cX12_keepsThought 27 = .ok (.goto (-25), 3) := by decide +kernel
theorem dX12_keepsThought_30 : decode cX12_keepsThought 30 = .ok (.iconst 0, 1) := by decide +kernel
theorem dX12_keepsThought_31 : decode cX12_keepsThought 31 = .ok (.istore_n 1, 1) := by decide +kernel
theorem dX12_keepsThought_32 : decode cX12_keepsThought 32 = .ok (.iload_n 1, 1) := by decide +kernel
theorem dX12_keepsThought_33 : decode cX12_keepsThought 33 = .ok (.iconst 5, 1) := by decide +kernel
theorem dX12_keepsThought_34 : decode cX12_keepsThought 34 = .ok (.if_icmp .ge 41, 3) := by decide +kernel
theorem dX12_keepsThought_37 : decode cX12_keepsThought 37 = .ok (.aload_n 0, 1) := by decide +kernel
theorem dX12_keepsThought_38 : decode cX12_keepsThought 38 = .ok (.getfield 98, 3) := by decide +kernel
theorem dX12_keepsThought_41 : decode cX12_keepsThought 41 = .ok (.iload_n 1, 1) := by decide +kernel
theorem dX12_keepsThought_42 : decode cX12_keepsThought 42 = .ok (.aload_n 0, 1) := by decide +kernel
theorem dX12_keepsThought_43 : decode cX12_keepsThought 43 = .ok (.aload_n 0, 1) := by decide +kernel
theorem dX12_keepsThought_44 : decode cX12_keepsThought 44 = .ok (.getfield 98, 3) := by decide +kernel
theorem dX12_keepsThought_47 : decode cX12_keepsThought 47 = .ok (.iload_n 1, 1) := by decide +kernel
theorem dX12_keepsThought_48 : decode cX12_keepsThought 48 = .ok (.iaload, 1) := by decide +kernel
theorem dX12_keepsThought_49 : decode cX12_keepsThought 49 = .ok (.invokevirtual 567, 3) := by decide +kernel
theorem dX12_keepsThought_52 : decode cX12_keepsThought 52 = .ok (.iastore, 1) := by decide +kernel
theorem dX12_keepsThought_53 : decode cX12_keepsThought 53 = .ok (.aload_n 0, 1) := by decide +kernel
theorem dX12_keepsThought_54 : decode cX12_keepsThought 54 = .ok (.getfield 101, 3) := by decide +kernel
theorem dX12_keepsThought_57 : decode cX12_keepsThought 57 = .ok (.iload_n 1, 1) := by decide +kernel
theorem dX12_keepsThought_58 : decode cX12_keepsThought 58 = .ok (.aload_n 0, 1) := by decide +kernel
theorem dX12_keepsThought_59 : decode cX12_keepsThought 59 = .ok (.aload_n 0, 1) := by decide +kernel
theorem dX12_keepsThought_60 : decode cX12_keepsThought 60 = .ok (.getfield 101, 3) := by decide +kernel
theorem dX12_keepsThought_63 : decode cX12_keepsThought 63 = .ok (.iload_n 1, 1) := by decide +kernel
theorem dX12_keepsThought_64 : decode cX12_keepsThought 64 = .ok (.iaload, 1) := by decide +kernel
theorem dX12_keepsThought_65 : decode cX12_keepsThought 65 = .ok (.invokevirtual 567, 3) := by decide +kernel
theorem dX12_keepsThought_68 : decode cX12_keepsThought 68 = .ok (.iastore, 1) := by decide +kernel
theorem dX12_keepsThought_69 : decode cX12_keepsThought 69 = .ok (.iinc 1 1, 3) := by decide +kernel
theorem dX12_keepsThought_72 : decode cX12_keepsThought 72 = .ok (.goto (-40), 3) := by decide +kernel
theorem dX12_keepsThought_75 : decode cX12_keepsThought 75 = .ok (.iconst 0, 1) := by decide +kernel
theorem dX12_keepsThought_76 : decode cX12_keepsThought 76 = .ok (.istore_n 1, 1) := by decide +kernel
theorem dX12_keepsThought_77 : decode cX12_keepsThought 77 = .ok (.iload_n 1, 1) := by decide +kernel
theorem dX12_keepsThought_78 : decode cX12_keepsThought 78 = .ok (.bipush 8, 2) := by decide +kernel
theorem dX12_keepsThought_80 : decode cX12_keepsThought 80 = .ok (.if_icmp .ge 57, 3) := by decide +kernel
theorem dX12_keepsThought_83 : decode cX12_keepsThought 83 = .ok (.aload_n 0, 1) := by decide +kernel
theorem dX12_keepsThought_84 : decode cX12_keepsThought 84 = .ok (.getfield 119, 3) := by decide +kernel
theorem dX12_keepsThought_87 : decode cX12_keepsThought 87 = .ok (.iload_n 1, 1) := by decide +kernel
theorem dX12_keepsThought_88 : decode cX12_keepsThought 88 = .ok (.aload_n 0, 1) := by decide +kernel
theorem dX12_keepsThought_89 : decode cX12_keepsThought 89 = .ok (.aload_n 0, 1) := by decide +kernel
theorem dX12_keepsThought_90 : decode cX12_keepsThought 90 = .ok (.getfield 119, 3) := by decide +kernel
theorem dX12_keepsThought_93 : decode cX12_keepsThought 93 = .ok (.iload_n 1, 1) := by decide +kernel
theorem dX12_keepsThought_94 : decode cX12_keepsThought 94 = .ok (.iaload, 1) := by decide +kernel
theorem dX12_keepsThought_95 : decode cX12_keepsThought 95 = .ok (.invokevirtual 567, 3) := by decide +kernel
theorem dX12_keepsThought_98 : decode cX12_keepsThought 98 = .ok (.iastore, 1) := by decide +kernel
theorem dX12_keepsThought_99 : decode cX12_keepsThought 99 = .ok (.aload_n 0, 1) := by decide +kernel
theorem dX12_keepsThought_100 : decode cX12_keepsThought 100 = .ok (.getfield 146, 3) := by decide +kernel
theorem dX12_keepsThought_103 : decode cX12_keepsThought 103 = .ok (.iload_n 1, 1) := by decide +kernel
theorem dX12_keepsThought_104 : decode cX12_keepsThought 104 = .ok (.aload_n 0, 1) := by decide +kernel
theorem dX12_keepsThought_105 : decode cX12_keepsThought 105 = .ok (.aload_n 0, 1) := by decide +kernel
theorem dX12_keepsThought_106 : decode cX12_keepsThought 106 = .ok (.getfield 146, 3) := by decide +kernel
theorem dX12_keepsThought_109 : decode cX12_keepsThought 109 = .ok (.iload_n 1, 1) := by decide +kernel
theorem dX12_keepsThought_110 : decode cX12_keepsThought 110 = .ok (.iaload, 1) := by decide +kernel
theorem dX12_keepsThought_111 : decode cX12_keepsThought 111 = .ok (.invokevirtual 567, 3) := by decide +kernel
theorem dX12_keepsThought_114 : decode cX12_keepsThought 114 = .ok (.iastore, 1) := by decide +kernel
theorem dX12_keepsThought_115 : decode cX12_keepsThought 115 = .ok (.aload_n 0, 1) := by decide +kernel
theorem dX12_keepsThought_116 : decode cX12_keepsThought 116 = .ok (.getfield 149, 3) := by decide +kernel
theorem dX12_keepsThought_119 : decode cX12_keepsThought 119 = .ok (.iload_n 1, 1) := by decide +kernel
theorem dX12_keepsThought_120 : decode cX12_keepsThought 120 = .ok (.aload_n 0, 1) := by decide +kernel
theorem dX12_keepsThought_121 : decode cX12_keepsThought 121 = .ok (.aload_n 0, 1) := by decide +kernel
theorem dX12_keepsThought_122 : decode cX12_keepsThought 122 = .ok (.getfield 149, 3) := by decide +kernel
theorem dX12_keepsThought_125 : decode cX12_keepsThought 125 = .ok (.iload_n 1, 1) := by decide +kernel
theorem dX12_keepsThought_126 : decode cX12_keepsThought 126 = .ok (.iaload, 1) := by decide +kernel
theorem dX12_keepsThought_127 : decode cX12_keepsThought 127 = .ok (.invokevirtual 567, 3) := by decide +kernel
theorem dX12_keepsThought_130 : decode cX12_keepsThought 130 = .ok (.iastore, 1) := by decide +kernel
theorem dX12_keepsThought_131 : decode cX12_keepsThought 131 = .ok (.iinc 1 1, 3) := by decide +kernel
theorem dX12_keepsThought_134 : decode cX12_keepsThought 134 = .ok (.goto (-57), 3) := by decide +kernel
theorem dX12_keepsThought_137 : decode cX12_keepsThought 137 = .ok (.iconst 0, 1) := by decide +kernel
theorem dX12_keepsThought_138 : decode cX12_keepsThought 138 = .ok (.istore_n 1, 1) := by decide +kernel
theorem dX12_keepsThought_139 : decode cX12_keepsThought 139 = .ok (.iload_n 1, 1) := by decide +kernel
theorem dX12_keepsThought_140 : decode cX12_keepsThought 140 = .ok (.bipush 24, 2) := by decide +kernel
theorem dX12_keepsThought_142 : decode cX12_keepsThought 142 = .ok (.if_icmp .ge 25, 3) := by decide +kernel
theorem dX12_keepsThought_145 : decode cX12_keepsThought 145 = .ok (.aload_n 0, 1) := by decide +kernel
theorem dX12_keepsThought_146 : decode cX12_keepsThought 146 = .ok (.getfield 131, 3) := by decide +kernel
theorem dX12_keepsThought_149 : decode cX12_keepsThought 149 = .ok (.iload_n 1, 1) := by decide +kernel
theorem dX12_keepsThought_150 : decode cX12_keepsThought 150 = .ok (.aload_n 0, 1) := by decide +kernel
theorem dX12_keepsThought_151 : decode cX12_keepsThought 151 = .ok (.aload_n 0, 1) := by decide +kernel
theorem dX12_keepsThought_152 : decode cX12_keepsThought 152 = .ok (.getfield 131, 3) := by decide +kernel
theorem dX12_keepsThought_155 : decode cX12_keepsThought 155 = .ok (.iload_n 1, 1) := by decide +kernel
theorem dX12_keepsThought_156 : decode cX12_keepsThought 156 = .ok (.iaload, 1) := by decide +kernel
theorem dX12_keepsThought_157 : decode cX12_keepsThought 157 = .ok (.invokevirtual 567, 3) := by decide +kernel
theorem dX12_keepsThought_160 : decode cX12_keepsThought 160 = .ok (.iastore, 1) := by decide +kernel
theorem dX12_keepsThought_161 : decode cX12_keepsThought 161 = .ok (.iinc 1 1, 3) := by decide +kernel
theorem dX12_keepsThought_164 : decode cX12_keepsThought 164 = .ok (.goto (-25), 3) := by decide +kernel
theorem dX12_keepsThought_167 : decode cX12_keepsThought 167 = .ok (.iconst 0, 1) := by decide +kernel
theorem dX12_keepsThought_168 : decode cX12_keepsThought 168 = .ok (.istore_n 1, 1) := by decide +kernel
theorem dX12_keepsThought_169 : decode cX12_keepsThought 169 = .ok (.iload_n 1, 1) := by decide +kernel
theorem dX12_keepsThought_170 : decode cX12_keepsThought 170 = .ok (.bipush 72, 2) := by decide +kernel
theorem dX12_keepsThought_172 : decode cX12_keepsThought 172 = .ok (.if_icmp .ge 25, 3) := by decide +kernel
theorem dX12_keepsThought_175 : decode cX12_keepsThought 175 = .ok (.aload_n 0, 1) := by decide +kernel
theorem dX12_keepsThought_176 : decode cX12_keepsThought 176 = .ok (.getfield 140, 3) := by decide +kernel
theorem dX12_keepsThought_179 : decode cX12_keepsThought 179 = .ok (.iload_n 1, 1) := by decide +kernel
theorem dX12_keepsThought_180 : decode cX12_keepsThought 180 = .ok (.aload_n 0, 1) := by decide +kernel
theorem dX12_keepsThought_181 : decode cX12_keepsThought 181 = .ok (.aload_n 0, 1) := by decide +kernel
theorem dX12_keepsThought_182 : decode cX12_keepsThought 182 = .ok (.getfield 140, 3) := by decide +kernel
theorem dX12_keepsThought_185 : decode cX12_keepsThought 185 = .ok (.iload_n 1, 1) := by decide +kernel
theorem dX12_keepsThought_186 : decode cX12_keepsThought 186 = .ok (.iaload, 1) := by decide +kernel
theorem dX12_keepsThought_187 : decode cX12_keepsThought 187 = .ok (.invokevirtual 567, 3) := by decide +kernel
theorem dX12_keepsThought_190 : decode cX12_keepsThought 190 = .ok (.iastore, 1) := by decide +kernel
theorem dX12_keepsThought_191 : decode cX12_keepsThought 191 = .ok (.iinc 1 1, 3) := by decide +kernel
theorem dX12_keepsThought_194 : decode cX12_keepsThought 194 = .ok (.goto (-25), 3) := by decide +kernel
theorem dX12_keepsThought_197 : decode cX12_keepsThought 197 = .ok (.return_, 1) := by decide +kernel
theorem dX12_keepsTold_0 : decode cX12_keepsTold 0 = .ok (.iconst 0, 1) := by decide +kernel
theorem dX12_keepsTold_1 : decode cX12_keepsTold 1 = .ok (.istore_n 1, 1) := by decide +kernel
theorem dX12_keepsTold_2 : decode cX12_keepsTold 2 = .ok (.iload_n 1, 1) := by decide +kernel
theorem dX12_keepsTold_3 : decode cX12_keepsTold 3 = .ok (.bipush 12, 2) := by decide +kernel
theorem dX12_keepsTold_5 : decode cX12_keepsTold 5 = .ok (.if_icmp .ge 105, 3) := by decide +kernel
theorem dX12_keepsTold_8 : decode cX12_keepsTold 8 = .ok (.aload_n 0, 1) := by decide +kernel
theorem dX12_keepsTold_9 : decode cX12_keepsTold 9 = .ok (.getfield 19, 3) := by decide +kernel
theorem dX12_keepsTold_12 : decode cX12_keepsTold 12 = .ok (.iload_n 1, 1) := by decide +kernel
theorem dX12_keepsTold_13 : decode cX12_keepsTold 13 = .ok (.aload_n 0, 1) := by decide +kernel
theorem dX12_keepsTold_14 : decode cX12_keepsTold 14 = .ok (.aload_n 0, 1) := by decide +kernel
theorem dX12_keepsTold_15 : decode cX12_keepsTold 15 = .ok (.getfield 19, 3) := by decide +kernel
theorem dX12_keepsTold_18 : decode cX12_keepsTold 18 = .ok (.iload_n 1, 1) := by decide +kernel
theorem dX12_keepsTold_19 : decode cX12_keepsTold 19 = .ok (.iaload, 1) := by decide +kernel
theorem dX12_keepsTold_20 : decode cX12_keepsTold 20 = .ok (.invokevirtual 567, 3) := by decide +kernel
theorem dX12_keepsTold_23 : decode cX12_keepsTold 23 = .ok (.iastore, 1) := by decide +kernel
theorem dX12_keepsTold_24 : decode cX12_keepsTold 24 = .ok (.aload_n 0, 1) := by decide +kernel
theorem dX12_keepsTold_25 : decode cX12_keepsTold 25 = .ok (.getfield 104, 3) := by decide +kernel
theorem dX12_keepsTold_28 : decode cX12_keepsTold 28 = .ok (.iload_n 1, 1) := by decide +kernel
theorem dX12_keepsTold_29 : decode cX12_keepsTold 29 = .ok (.aload_n 0, 1) := by decide +kernel
theorem dX12_keepsTold_30 : decode cX12_keepsTold 30 = .ok (.aload_n 0, 1) := by decide +kernel
theorem dX12_keepsTold_31 : decode cX12_keepsTold 31 = .ok (.getfield 104, 3) := by decide +kernel
theorem dX12_keepsTold_34 : decode cX12_keepsTold 34 = .ok (.iload_n 1, 1) := by decide +kernel
theorem dX12_keepsTold_35 : decode cX12_keepsTold 35 = .ok (.iaload, 1) := by decide +kernel
theorem dX12_keepsTold_36 : decode cX12_keepsTold 36 = .ok (.invokevirtual 567, 3) := by decide +kernel
theorem dX12_keepsTold_39 : decode cX12_keepsTold 39 = .ok (.iastore, 1) := by decide +kernel
theorem dX12_keepsTold_40 : decode cX12_keepsTold 40 = .ok (.aload_n 0, 1) := by decide +kernel
theorem dX12_keepsTold_41 : decode cX12_keepsTold 41 = .ok (.getfield 107, 3) := by decide +kernel
theorem dX12_keepsTold_44 : decode cX12_keepsTold 44 = .ok (.iload_n 1, 1) := by decide +kernel
theorem dX12_keepsTold_45 : decode cX12_keepsTold 45 = .ok (.aload_n 0, 1) := by decide +kernel
theorem dX12_keepsTold_46 : decode cX12_keepsTold 46 = .ok (.aload_n 0, 1) := by decide +kernel
theorem dX12_keepsTold_47 : decode cX12_keepsTold 47 = .ok (.getfield 107, 3) := by decide +kernel
theorem dX12_keepsTold_50 : decode cX12_keepsTold 50 = .ok (.iload_n 1, 1) := by decide +kernel
theorem dX12_keepsTold_51 : decode cX12_keepsTold 51 = .ok (.iaload, 1) := by decide +kernel
theorem dX12_keepsTold_52 : decode cX12_keepsTold 52 = .ok (.invokevirtual 567, 3) := by decide +kernel
theorem dX12_keepsTold_55 : decode cX12_keepsTold 55 = .ok (.iastore, 1) := by decide +kernel
theorem dX12_keepsTold_56 : decode cX12_keepsTold 56 = .ok (.aload_n 0, 1) := by decide +kernel
theorem dX12_keepsTold_57 : decode cX12_keepsTold 57 = .ok (.getfield 110, 3) := by decide +kernel
theorem dX12_keepsTold_60 : decode cX12_keepsTold 60 = .ok (.iload_n 1, 1) := by decide +kernel
theorem dX12_keepsTold_61 : decode cX12_keepsTold 61 = .ok (.aload_n 0, 1) := by decide +kernel
theorem dX12_keepsTold_62 : decode cX12_keepsTold 62 = .ok (.aload_n 0, 1) := by decide +kernel
theorem dX12_keepsTold_63 : decode cX12_keepsTold 63 = .ok (.getfield 110, 3) := by decide +kernel
theorem dX12_keepsTold_66 : decode cX12_keepsTold 66 = .ok (.iload_n 1, 1) := by decide +kernel
theorem dX12_keepsTold_67 : decode cX12_keepsTold 67 = .ok (.iaload, 1) := by decide +kernel
theorem dX12_keepsTold_68 : decode cX12_keepsTold 68 = .ok (.invokevirtual 567, 3) := by decide +kernel
theorem dX12_keepsTold_71 : decode cX12_keepsTold 71 = .ok (.iastore, 1) := by decide +kernel
theorem dX12_keepsTold_72 : decode cX12_keepsTold 72 = .ok (.aload_n 0, 1) := by decide +kernel
theorem dX12_keepsTold_73 : decode cX12_keepsTold 73 = .ok (.getfield 113, 3) := by decide +kernel
theorem dX12_keepsTold_76 : decode cX12_keepsTold 76 = .ok (.iload_n 1, 1) := by decide +kernel
theorem dX12_keepsTold_77 : decode cX12_keepsTold 77 = .ok (.aload_n 0, 1) := by decide +kernel
theorem dX12_keepsTold_78 : decode cX12_keepsTold 78 = .ok (.aload_n 0, 1) := by decide +kernel
theorem dX12_keepsTold_79 : decode cX12_keepsTold 79 = .ok (.getfield 113, 3) := by decide +kernel
theorem dX12_keepsTold_82 : decode cX12_keepsTold 82 = .ok (.iload_n 1, 1) := by decide +kernel
theorem dX12_keepsTold_83 : decode cX12_keepsTold 83 = .ok (.iaload, 1) := by decide +kernel
theorem dX12_keepsTold_84 : decode cX12_keepsTold 84 = .ok (.invokevirtual 567, 3) := by decide +kernel
theorem dX12_keepsTold_87 : decode cX12_keepsTold 87 = .ok (.iastore, 1) := by decide +kernel
theorem dX12_keepsTold_88 : decode cX12_keepsTold 88 = .ok (.aload_n 0, 1) := by decide +kernel
theorem dX12_keepsTold_89 : decode cX12_keepsTold 89 = .ok (.getfield 128, 3) := by decide +kernel
theorem dX12_keepsTold_92 : decode cX12_keepsTold 92 = .ok (.iload_n 1, 1) := by decide +kernel
theorem dX12_keepsTold_93 : decode cX12_keepsTold 93 = .ok (.aload_n 0, 1) := by decide +kernel
theorem dX12_keepsTold_94 : decode cX12_keepsTold 94 = .ok (.aload_n 0, 1) := by decide +kernel
theorem dX12_keepsTold_95 : decode cX12_keepsTold 95 = .ok (.getfield 128, 3) := by decide +kernel
theorem dX12_keepsTold_98 : decode cX12_keepsTold 98 = .ok (.iload_n 1, 1) := by decide +kernel
theorem dX12_keepsTold_99 : decode cX12_keepsTold 99 = .ok (.iaload, 1) := by decide +kernel
theorem dX12_keepsTold_100 : decode cX12_keepsTold 100 = .ok (.invokevirtual 567, 3) := by decide +kernel
theorem dX12_keepsTold_103 : decode cX12_keepsTold 103 = .ok (.iastore, 1) := by decide +kernel
theorem dX12_keepsTold_104 : decode cX12_keepsTold 104 = .ok (.iinc 1 1, 3) := by decide +kernel
theorem dX12_keepsTold_107 : decode cX12_keepsTold 107 = .ok (.goto (-105), 3) := by decide +kernel
theorem dX12_keepsTold_110 : decode cX12_keepsTold 110 = .ok (.iconst 0, 1) := by decide +kernel
theorem dX12_keepsTold_111 : decode cX12_keepsTold 111 = .ok (.istore_n 1, 1) := by decide +kernel
theorem dX12_keepsTold_112 : decode cX12_keepsTold 112 = .ok (.iload_n 1, 1) := by decide +kernel
theorem dX12_keepsTold_113 : decode cX12_keepsTold 113 = .ok (.bipush 20, 2) := by decide +kernel
theorem dX12_keepsTold_115 : decode cX12_keepsTold 115 = .ok (.if_icmp .ge 41, 3) := by decide +kernel
theorem dX12_keepsTold_118 : decode cX12_keepsTold 118 = .ok (.aload_n 0, 1) := by decide +kernel
theorem dX12_keepsTold_119 : decode cX12_keepsTold 119 = .ok (.getfield 22, 3) := by decide +kernel
theorem dX12_keepsTold_122 : decode cX12_keepsTold 122 = .ok (.iload_n 1, 1) := by decide +kernel
theorem dX12_keepsTold_123 : decode cX12_keepsTold 123 = .ok (.aload_n 0, 1) := by decide +kernel
theorem dX12_keepsTold_124 : decode cX12_keepsTold 124 = .ok (.aload_n 0, 1) := by decide +kernel
theorem dX12_keepsTold_125 : decode cX12_keepsTold 125 = .ok (.getfield 22, 3) := by decide +kernel
theorem dX12_keepsTold_128 : decode cX12_keepsTold 128 = .ok (.iload_n 1, 1) := by decide +kernel
theorem dX12_keepsTold_129 : decode cX12_keepsTold 129 = .ok (.iaload, 1) := by decide +kernel
theorem dX12_keepsTold_130 : decode cX12_keepsTold 130 = .ok (.invokevirtual 567, 3) := by decide +kernel
theorem dX12_keepsTold_133 : decode cX12_keepsTold 133 = .ok (.iastore, 1) := by decide +kernel
theorem dX12_keepsTold_134 : decode cX12_keepsTold 134 = .ok (.aload_n 0, 1) := by decide +kernel
theorem dX12_keepsTold_135 : decode cX12_keepsTold 135 = .ok (.getfield 25, 3) := by decide +kernel
theorem dX12_keepsTold_138 : decode cX12_keepsTold 138 = .ok (.iload_n 1, 1) := by decide +kernel
theorem dX12_keepsTold_139 : decode cX12_keepsTold 139 = .ok (.aload_n 0, 1) := by decide +kernel
theorem dX12_keepsTold_140 : decode cX12_keepsTold 140 = .ok (.aload_n 0, 1) := by decide +kernel
theorem dX12_keepsTold_141 : decode cX12_keepsTold 141 = .ok (.getfield 25, 3) := by decide +kernel
theorem dX12_keepsTold_144 : decode cX12_keepsTold 144 = .ok (.iload_n 1, 1) := by decide +kernel
theorem dX12_keepsTold_145 : decode cX12_keepsTold 145 = .ok (.iaload, 1) := by decide +kernel
theorem dX12_keepsTold_146 : decode cX12_keepsTold 146 = .ok (.invokevirtual 567, 3) := by decide +kernel
theorem dX12_keepsTold_149 : decode cX12_keepsTold 149 = .ok (.iastore, 1) := by decide +kernel
theorem dX12_keepsTold_150 : decode cX12_keepsTold 150 = .ok (.iinc 1 1, 3) := by decide +kernel
theorem dX12_keepsTold_153 : decode cX12_keepsTold 153 = .ok (.goto (-41), 3) := by decide +kernel
theorem dX12_keepsTold_156 : decode cX12_keepsTold 156 = .ok (.iconst 0, 1) := by decide +kernel
theorem dX12_keepsTold_157 : decode cX12_keepsTold 157 = .ok (.istore_n 1, 1) := by decide +kernel
theorem dX12_keepsTold_158 : decode cX12_keepsTold 158 = .ok (.iload_n 1, 1) := by decide +kernel
theorem dX12_keepsTold_159 : decode cX12_keepsTold 159 = .ok (.sipush 144, 3) := by decide +kernel
theorem dX12_keepsTold_162 : decode cX12_keepsTold 162 = .ok (.if_icmp .ge 25, 3) := by decide +kernel
theorem dX12_keepsTold_165 : decode cX12_keepsTold 165 = .ok (.aload_n 0, 1) := by decide +kernel
theorem dX12_keepsTold_166 : decode cX12_keepsTold 166 = .ok (.getfield 71, 3) := by decide +kernel
theorem dX12_keepsTold_169 : decode cX12_keepsTold 169 = .ok (.iload_n 1, 1) := by decide +kernel
theorem dX12_keepsTold_170 : decode cX12_keepsTold 170 = .ok (.aload_n 0, 1) := by decide +kernel
theorem dX12_keepsTold_171 : decode cX12_keepsTold 171 = .ok (.aload_n 0, 1) := by decide +kernel
theorem dX12_keepsTold_172 : decode cX12_keepsTold 172 = .ok (.getfield 71, 3) := by decide +kernel
theorem dX12_keepsTold_175 : decode cX12_keepsTold 175 = .ok (.iload_n 1, 1) := by decide +kernel
theorem dX12_keepsTold_176 : decode cX12_keepsTold 176 = .ok (.iaload, 1) := by decide +kernel
theorem dX12_keepsTold_177 : decode cX12_keepsTold 177 = .ok (.invokevirtual 567, 3) := by decide +kernel
theorem dX12_keepsTold_180 : decode cX12_keepsTold 180 = .ok (.iastore, 1) := by decide +kernel
theorem dX12_keepsTold_181 : decode cX12_keepsTold 181 = .ok (.iinc 1 1, 3) := by decide +kernel
theorem dX12_keepsTold_184 : decode cX12_keepsTold 184 = .ok (.goto (-26), 3) := by decide +kernel
theorem dX12_keepsTold_187 : decode cX12_keepsTold 187 = .ok (.iconst 0, 1) := by decide +kernel
theorem dX12_keepsTold_188 : decode cX12_keepsTold 188 = .ok (.istore_n 1, 1) := by decide +kernel
theorem dX12_keepsTold_189 : decode cX12_keepsTold 189 = .ok (.iload_n 1, 1) := by decide +kernel
theorem dX12_keepsTold_190 : decode cX12_keepsTold 190 = .ok (.bipush 64, 2) := by decide +kernel
theorem dX12_keepsTold_192 : decode cX12_keepsTold 192 = .ok (.if_icmp .ge 25, 3) := by decide +kernel
theorem dX12_keepsTold_195 : decode cX12_keepsTold 195 = .ok (.aload_n 0, 1) := by decide +kernel
theorem dX12_keepsTold_196 : decode cX12_keepsTold 196 = .ok (.getfield 65, 3) := by decide +kernel
theorem dX12_keepsTold_199 : decode cX12_keepsTold 199 = .ok (.iload_n 1, 1) := by decide +kernel
theorem dX12_keepsTold_200 : decode cX12_keepsTold 200 = .ok (.aload_n 0, 1) := by decide +kernel
theorem dX12_keepsTold_201 : decode cX12_keepsTold 201 = .ok (.aload_n 0, 1) := by decide +kernel
theorem dX12_keepsTold_202 : decode cX12_keepsTold 202 = .ok (.getfield 65, 3) := by decide +kernel
theorem dX12_keepsTold_205 : decode cX12_keepsTold 205 = .ok (.iload_n 1, 1) := by decide +kernel
theorem dX12_keepsTold_206 : decode cX12_keepsTold 206 = .ok (.iaload, 1) := by decide +kernel
theorem dX12_keepsTold_207 : decode cX12_keepsTold 207 = .ok (.invokevirtual 567, 3) := by decide +kernel
theorem dX12_keepsTold_210 : decode cX12_keepsTold 210 = .ok (.iastore, 1) := by decide +kernel
theorem dX12_keepsTold_211 : decode cX12_keepsTold 211 = .ok (.iinc 1 1, 3) := by decide +kernel
theorem dX12_keepsTold_214 : decode cX12_keepsTold 214 = .ok (.goto (-25), 3) := by decide +kernel
theorem dX12_keepsTold_217 : decode cX12_keepsTold 217 = .ok (.iconst 0, 1) := by decide +kernel
theorem dX12_keepsTold_218 : decode cX12_keepsTold 218 = .ok (.istore_n 1, 1) := by decide +kernel
theorem dX12_keepsTold_219 : decode cX12_keepsTold 219 = .ok (.iload_n 1, 1) := by decide +kernel
theorem dX12_keepsTold_220 : decode cX12_keepsTold 220 = .ok (.bipush 64, 2) := by decide +kernel
theorem dX12_keepsTold_222 : decode cX12_keepsTold 222 = .ok (.if_icmp .ge 25, 3) := by decide +kernel
theorem dX12_keepsTold_225 : decode cX12_keepsTold 225 = .ok (.aload_n 0, 1) := by decide +kernel
theorem dX12_keepsTold_226 : decode cX12_keepsTold 226 = .ok (.getfield 68, 3) := by decide +kernel
theorem dX12_keepsTold_229 : decode cX12_keepsTold 229 = .ok (.iload_n 1, 1) := by decide +kernel
theorem dX12_keepsTold_230 : decode cX12_keepsTold 230 = .ok (.aload_n 0, 1) := by decide +kernel
theorem dX12_keepsTold_231 : decode cX12_keepsTold 231 = .ok (.aload_n 0, 1) := by decide +kernel
theorem dX12_keepsTold_232 : decode cX12_keepsTold 232 = .ok (.getfield 68, 3) := by decide +kernel
theorem dX12_keepsTold_235 : decode cX12_keepsTold 235 = .ok (.iload_n 1, 1) := by decide +kernel
theorem dX12_keepsTold_236 : decode cX12_keepsTold 236 = .ok (.iaload, 1) := by decide +kernel
theorem dX12_keepsTold_237 : decode cX12_keepsTold 237 = .ok (.invokevirtual 567, 3) := by decide +kernel
theorem dX12_keepsTold_240 : decode cX12_keepsTold 240 = .ok (.iastore, 1) := by decide +kernel
theorem dX12_keepsTold_241 : decode cX12_keepsTold 241 = .ok (.iinc 1 1, 3) := by decide +kernel
theorem dX12_keepsTold_244 : decode cX12_keepsTold 244 = .ok (.goto (-25), 3) := by decide +kernel
theorem dX12_keepsTold_247 : decode cX12_keepsTold 247 = .ok (.return_, 1) := by decide +kernel
theorem dX12_image_0 : decode cX12_image 0 = .ok (.aload_n 0, 1) := by decide +kernel
theorem dX12_image_1 : decode cX12_image 1 = .ok (.iconst 0, 1) := by decide +kernel
theorem dX12_image_2 : decode cX12_image 2 = .ok (.putfield 183, 3) := by decide +kernel
theorem dX12_image_5 : decode cX12_image 5 = .ok (.iload_n 1, 1) := by decide +kernel
theorem dX12_image_6 : decode cX12_image 6 = .ok (.ifCond .ne 12, 3) := by decide +kernel
theorem dX12_image_9 : decode cX12_image 9 = .ok (.aload_n 0, 1) := by decide +kernel
theorem dX12_image_10 : decode cX12_image 10 = .ok (.getfield 570, 3) := by decide +kernel
theorem dX12_image_13 : decode cX12_image 13 = .ok (.ifCond .ne 5, 3) := by decide +kernel
theorem dX12_image_16 : decode cX12_image 16 = .ok (.iconst 0, 1) := by decide +kernel
theorem dX12_image_17 : decode cX12_image 17 = .ok (.ireturn, 1) := by decide +kernel
theorem dX12_image_18 : decode cX12_image 18 = .ok (.aload_n 0, 1) := by decide +kernel
theorem dX12_image_19 : decode cX12_image 19 = .ok (.iload_n 1, 1) := by decide +kernel
theorem dX12_image_20 : decode cX12_image 20 = .ok (.putfield 564, 3) := by decide +kernel
theorem dX12_image_23 : decode cX12_image 23 = .ok (.aload_n 0, 1) := by decide +kernel
theorem dX12_image_24 : decode cX12_image 24 = .ok (.iconst 1, 1) := by decide +kernel
theorem dX12_image_25 : decode cX12_image 25 = .ok (.putfield 570, 3) := by decide +kernel
theorem dX12_image_28 : decode cX12_image 28 = .ok (.aload_n 0, 1) := by decide +kernel
theorem dX12_image_29 : decode cX12_image 29 = .ok (.iconst 0, 1) := by decide +kernel
theorem dX12_image_30 : decode cX12_image 30 = .ok (.putfield 561, 3) := by decide +kernel
theorem dX12_image_33 : decode cX12_image 33 = .ok (.iconst 0, 1) := by decide +kernel
theorem dX12_image_34 : decode cX12_image 34 = .ok (.istore_n 2, 1) := by decide +kernel
theorem dX12_image_35 : decode cX12_image 35 = .ok (.iload_n 2, 1) := by decide +kernel
theorem dX12_image_36 : decode cX12_image 36 = .ok (.sipush 161, 3) := by decide +kernel
theorem dX12_image_39 : decode cX12_image 39 = .ok (.if_icmp .ge 25, 3) := by decide +kernel
theorem dX12_image_42 : decode cX12_image 42 = .ok (.aload_n 0, 1) := by decide +kernel
theorem dX12_image_43 : decode cX12_image 43 = .ok (.getfield 7, 3) := by decide +kernel
theorem dX12_image_46 : decode cX12_image 46 = .ok (.iload_n 2, 1) := by decide +kernel
theorem dX12_image_47 : decode cX12_image 47 = .ok (.aload_n 0, 1) := by decide +kernel
theorem dX12_image_48 : decode cX12_image 48 = .ok (.aload_n 0, 1) := by decide +kernel
theorem dX12_image_49 : decode cX12_image 49 = .ok (.getfield 7, 3) := by decide +kernel
theorem dX12_image_52 : decode cX12_image 52 = .ok (.iload_n 2, 1) := by decide +kernel
theorem dX12_image_53 : decode cX12_image 53 = .ok (.iaload, 1) := by decide +kernel
theorem dX12_image_54 : decode cX12_image 54 = .ok (.invokevirtual 567, 3) := by decide +kernel
theorem dX12_image_57 : decode cX12_image 57 = .ok (.iastore, 1) := by decide +kernel
theorem dX12_image_58 : decode cX12_image 58 = .ok (.iinc 2 1, 3) := by decide +kernel
theorem dX12_image_61 : decode cX12_image 61 = .ok (.goto (-26), 3) := by decide +kernel
theorem dX12_image_64 : decode cX12_image 64 = .ok (.aload_n 0, 1) := by decide +kernel
theorem dX12_image_65 : decode cX12_image 65 = .ok (.invokevirtual 573, 3) := by decide +kernel
theorem dX12_image_68 : decode cX12_image 68 = .ok (.aload_n 0, 1) := by decide +kernel
theorem dX12_image_69 : decode cX12_image 69 = .ok (.invokevirtual 576, 3) := by decide +kernel
theorem dX12_image_72 : decode cX12_image 72 = .ok (.aload_n 0, 1) := by decide +kernel
theorem dX12_image_73 : decode cX12_image 73 = .ok (.invokevirtual 579, 3) := by decide +kernel
theorem dX12_image_76 : decode cX12_image 76 = .ok (.iconst 0, 1) := by decide +kernel
theorem dX12_image_77 : decode cX12_image 77 = .ok (.istore_n 2, 1) := by decide +kernel
theorem dX12_image_78 : decode cX12_image 78 = .ok (.iload_n 2, 1) := by decide +kernel
theorem dX12_image_79 : decode cX12_image 79 = .ok (.sipush 750, 3) := by decide +kernel
theorem dX12_image_82 : decode cX12_image 82 = .ok (.if_icmp .ge 25, 3) := by decide +kernel
theorem dX12_image_85 : decode cX12_image 85 = .ok (.aload_n 0, 1) := by decide +kernel
theorem dX12_image_86 : decode cX12_image 86 = .ok (.getfield 28, 3) := by decide +kernel
theorem dX12_image_89 : decode cX12_image 89 = .ok (.iload_n 2, 1) := by decide +kernel
theorem dX12_image_90 : decode cX12_image 90 = .ok (.aload_n 0, 1) := by decide +kernel
theorem dX12_image_91 : decode cX12_image 91 = .ok (.aload_n 0, 1) := by decide +kernel
theorem dX12_image_92 : decode cX12_image 92 = .ok (.getfield 28, 3) := by decide +kernel
theorem dX12_image_95 : decode cX12_image 95 = .ok (.iload_n 2, 1) := by decide +kernel
theorem dX12_image_96 : decode cX12_image 96 = .ok (.iaload, 1) := by decide +kernel
theorem dX12_image_97 : decode cX12_image 97 = .ok (.invokevirtual 567, 3) := by decide +kernel
theorem dX12_image_100 : decode cX12_image 100 = .ok (.iastore, 1) := by decide +kernel
theorem dX12_image_101 : decode cX12_image 101 = .ok (.iinc 2 1, 3) := by decide +kernel
theorem dX12_image_104 : decode cX12_image 104 = .ok (.goto (-26), 3) := by decide +kernel
theorem dX12_image_107 : decode cX12_image 107 = .ok (.aload_n 0, 1) := by decide +kernel
theorem dX12_image_108 : decode cX12_image 108 = .ok (.invokevirtual 582, 3) := by decide +kernel
theorem dX12_image_111 : decode cX12_image 111 = .ok (.iload_n 1, 1) := by decide +kernel
theorem dX12_image_112 : decode cX12_image 112 = .ok (.ifCond .ne 8, 3) := by decide +kernel
theorem dX12_image_115 : decode cX12_image 115 = .ok (.aload_n 0, 1) := by decide +kernel
theorem dX12_image_116 : decode cX12_image 116 = .ok (.iconst 0, 1) := by decide +kernel
theorem dX12_image_117 : decode cX12_image 117 = .ok (.putfield 187, 3) := by decide +kernel
theorem dX12_image_120 : decode cX12_image 120 = .ok (.iconst 1, 1) := by decide +kernel
theorem dX12_image_121 : decode cX12_image 121 = .ok (.ireturn, 1) := by decide +kernel
theorem dX12_look_0 : decode cX12_look 0 = .ok (.aload_n 0, 1) := by decide +kernel
theorem dX12_look_1 : decode cX12_look 1 = .ok (.iconst 0, 1) := by decide +kernel
theorem dX12_look_2 : decode cX12_look 2 = .ok (.putfield 183, 3) := by decide +kernel
theorem dX12_look_5 : decode cX12_look 5 = .ok (.iload_n 1, 1) := by decide +kernel
theorem dX12_look_6 : decode cX12_look 6 = .ok (.ifCond .ne 8, 3) := by decide +kernel
theorem dX12_look_9 : decode cX12_look 9 = .ok (.aload_n 0, 1) := by decide +kernel
theorem dX12_look_10 : decode cX12_look 10 = .ok (.getfield 196, 3) := by decide +kernel
theorem dX12_look_13 : decode cX12_look 13 = .ok (.ireturn, 1) := by decide +kernel
theorem dX12_look_14 : decode cX12_look 14 = .ok (.iload_n 1, 1) := by decide +kernel
theorem dX12_look_15 : decode cX12_look 15 = .ok (.iconst 1, 1) := by decide +kernel
theorem dX12_look_16 : decode cX12_look 16 = .ok (.if_icmp .ne 8, 3) := by decide +kernel
theorem dX12_look_19 : decode cX12_look 19 = .ok (.aload_n 0, 1) := by decide +kernel
theorem dX12_look_20 : decode cX12_look 20 = .ok (.getfield 199, 3) := by decide +kernel
theorem dX12_look_23 : decode cX12_look 23 = .ok (.ireturn, 1) := by decide +kernel
theorem dX12_look_24 : decode cX12_look 24 = .ok (.iload_n 1, 1) := by decide +kernel
theorem dX12_look_25 : decode cX12_look 25 = .ok (.iconst 2, 1) := by decide +kernel
theorem dX12_look_26 : decode cX12_look 26 = .ok (.if_icmp .ne 10, 3) := by decide +kernel
theorem dX12_look_29 : decode cX12_look 29 = .ok (.aload_n 0, 1) := by decide +kernel
theorem dX12_look_30 : decode cX12_look 30 = .ok (.getfield 7, 3) := by decide +kernel
theorem dX12_look_33 : decode cX12_look 33 = .ok (.iconst 1, 1) := by decide +kernel
theorem dX12_look_34 : decode cX12_look 34 = .ok (.iaload, 1) := by decide +kernel
theorem dX12_look_35 : decode cX12_look 35 = .ok (.ireturn, 1) := by decide +kernel
theorem dX12_look_36 : decode cX12_look 36 = .ok (.iload_n 1, 1) := by decide +kernel
theorem dX12_look_37 : decode cX12_look 37 = .ok (.iconst 3, 1) := by decide +kernel
theorem dX12_look_38 : decode cX12_look 38 = .ok (.if_icmp .ne 10, 3) := by decide +kernel
theorem dX12_look_41 : decode cX12_look 41 = .ok (.aload_n 0, 1) := by decide +kernel
theorem dX12_look_42 : decode cX12_look 42 = .ok (.getfield 7, 3) := by decide +kernel
theorem dX12_look_45 : decode cX12_look 45 = .ok (.iconst 0, 1) := by decide +kernel
theorem dX12_look_46 : decode cX12_look 46 = .ok (.iaload, 1) := by decide +kernel
theorem dX12_look_47 : decode cX12_look 47 = .ok (.ireturn, 1) := by decide +kernel
theorem dX12_look_48 : decode cX12_look 48 = .ok (.iload_n 1, 1) := by decide +kernel
theorem dX12_look_49 : decode cX12_look 49 = .ok (.iconst 4, 1) := by decide +kernel
theorem dX12_look_50 : decode cX12_look 50 = .ok (.if_icmp .ne 10, 3) := by decide +kernel
theorem dX12_look_53 : decode cX12_look 53 = .ok (.aload_n 0, 1) := by decide +kernel
theorem dX12_look_54 : decode cX12_look 54 = .ok (.getfield 7, 3) := by decide +kernel
theorem dX12_look_57 : decode cX12_look 57 = .ok (.iconst 4, 1) := by decide +kernel
theorem dX12_look_58 : decode cX12_look 58 = .ok (.iaload, 1) := by decide +kernel
theorem dX12_look_59 : decode cX12_look 59 = .ok (.ireturn, 1) := by decide +kernel
theorem dX12_look_60 : decode cX12_look 60 = .ok (.iload_n 1, 1) := by decide +kernel
theorem dX12_look_61 : decode cX12_look 61 = .ok (.bipush 7, 2) := by decide +kernel
theorem dX12_look_63 : decode cX12_look 63 = .ok (.if_icmp .ne 10, 3) := by decide +kernel
theorem dX12_look_66 : decode cX12_look 66 = .ok (.aload_n 0, 1) := by decide +kernel
theorem dX12_look_67 : decode cX12_look 67 = .ok (.getfield 7, 3) := by decide +kernel
theorem dX12_look_70 : decode cX12_look 70 = .ok (.iconst 3, 1) := by decide +kernel
theorem dX12_look_71 : decode cX12_look 71 = .ok (.iaload, 1) := by decide +kernel
theorem dX12_look_72 : decode cX12_look 72 = .ok (.ireturn, 1) := by decide +kernel
theorem dX12_look_73 : decode cX12_look 73 = .ok (.iload_n 1, 1) := by decide +kernel
theorem dX12_look_74 : decode cX12_look 74 = .ok (.bipush 8, 2) := by decide +kernel
theorem dX12_look_76 : decode cX12_look 76 = .ok (.if_icmp .ne 10, 3) := by decide +kernel
theorem dX12_look_79 : decode cX12_look 79 = .ok (.aload_n 0, 1) := by decide +kernel
theorem dX12_look_80 : decode cX12_look 80 = .ok (.getfield 7, 3) := by decide +kernel
theorem dX12_look_83 : decode cX12_look 83 = .ok (.iconst 2, 1) := by decide +kernel
theorem dX12_look_84 : decode cX12_look 84 = .ok (.iaload, 1) := by decide +kernel
theorem dX12_look_85 : decode cX12_look 85 = .ok (.ireturn, 1) := by decide +kernel
theorem dX12_look_86 : decode cX12_look 86 = .ok (.iload_n 1, 1) := by decide +kernel
theorem dX12_look_87 : decode cX12_look 87 = .ok (.bipush 9, 2) := by decide +kernel
theorem dX12_look_89 : decode cX12_look 89 = .ok (.if_icmp .ne 10, 3) := by decide +kernel
theorem dX12_look_92 : decode cX12_look 92 = .ok (.aload_n 0, 1) := by decide +kernel
theorem dX12_look_93 : decode cX12_look 93 = .ok (.getfield 37, 3) := by decide +kernel
theorem dX12_look_96 : decode cX12_look 96 = .ok (.iconst 0, 1) := by decide +kernel
theorem dX12_look_97 : decode cX12_look 97 = .ok (.iaload, 1) := by decide +kernel
theorem dX12_look_98 : decode cX12_look 98 = .ok (.ireturn, 1) := by decide +kernel
theorem dX12_look_99 : decode cX12_look 99 = .ok (.iload_n 1, 1) := by decide +kernel
theorem dX12_look_100 : decode cX12_look 100 = .ok (.bipush 10, 2) := by decide +kernel
theorem dX12_look_102 : decode cX12_look 102 = .ok (.if_icmp .ne 8, 3) := by decide +kernel
theorem dX12_look_105 : decode cX12_look 105 = .ok (.aload_n 0, 1) := by decide +kernel
theorem dX12_look_106 : decode cX12_look 106 = .ok (.getfield 355, 3) := by decide +kernel
theorem dX12_look_109 : decode cX12_look 109 = .ok (.ireturn, 1) := by decide +kernel
theorem dX12_look_110 : decode cX12_look 110 = .ok (.iload_n 1, 1) := by decide +kernel
theorem dX12_look_111 : decode cX12_look 111 = .ok (.bipush 11, 2) := by decide +kernel
theorem dX12_look_113 : decode cX12_look 113 = .ok (.if_icmp .ne 8, 3) := by decide +kernel
theorem dX12_look_116 : decode cX12_look 116 = .ok (.aload_n 0, 1) := by decide +kernel
theorem dX12_look_117 : decode cX12_look 117 = .ok (.getfield 358, 3) := by decide +kernel
theorem dX12_look_120 : decode cX12_look 120 = .ok (.ireturn, 1) := by decide +kernel
theorem dX12_look_121 : decode cX12_look 121 = .ok (.iload_n 1, 1) := by decide +kernel
theorem dX12_look_122 : decode cX12_look 122 = .ok (.bipush 12, 2) := by decide +kernel
theorem dX12_look_124 : decode cX12_look 124 = .ok (.if_icmp .ne 8, 3) := by decide +kernel
theorem dX12_look_127 : decode cX12_look 127 = .ok (.aload_n 0, 1) := by decide +kernel
theorem dX12_look_128 : decode cX12_look 128 = .ok (.getfield 352, 3) := by decide +kernel
theorem dX12_look_131 : decode cX12_look 131 = .ok (.ireturn, 1) := by decide +kernel
theorem dX12_look_132 : decode cX12_look 132 = .ok (.iload_n 1, 1) := by decide +kernel
theorem dX12_look_133 : decode cX12_look 133 = .ok (.bipush 13, 2) := by decide +kernel
theorem dX12_look_135 : decode cX12_look 135 = .ok (.if_icmp .ne 8, 3) := by decide +kernel
theorem dX12_look_138 : decode cX12_look 138 = .ok (.aload_n 0, 1) := by decide +kernel
theorem dX12_look_139 : decode cX12_look 139 = .ok (.getfield 187, 3) := by decide +kernel
theorem dX12_look_142 : decode cX12_look 142 = .ok (.ireturn, 1) := by decide +kernel
theorem dX12_look_143 : decode cX12_look 143 = .ok (.iload_n 1, 1) := by decide +kernel
theorem dX12_look_144 : decode cX12_look 144 = .ok (.iconst 5, 1) := by decide +kernel
theorem dX12_look_145 : decode cX12_look 145 = .ok (.if_icmp .eq 11, 3) := by decide +kernel
theorem dX12_look_148 : decode cX12_look 148 = .ok (.iload_n 1, 1) := by decide +kernel
theorem dX12_look_149 : decode cX12_look 149 = .ok (.bipush 6, 2) := by decide +kernel
theorem dX12_look_151 : decode cX12_look 151 = .ok (.if_icmp .eq 5, 3) := by decide +kernel
theorem dX12_look_154 : decode cX12_look 154 = .ok (.iconst (-1), 1) := by decide +kernel
theorem dX12_look_155 : decode cX12_look 155 = .ok (.ireturn, 1) := by decide +kernel
theorem dX12_look_156 : decode cX12_look 156 = .ok (.iconst 0, 1) := by decide +kernel
theorem dX12_look_157 : decode cX12_look 157 = .ok (.istore_n 2, 1) := by decide +kernel
theorem dX12_look_158 : decode cX12_look 158 = .ok (.iconst 0, 1) := by decide +kernel
theorem dX12_look_159 : decode cX12_look 159 = .ok (.istore_n 3, 1) := by decide +kernel
theorem dX12_look_160 : decode cX12_look 160 = .ok (.iload_n 3, 1) := by decide +kernel
theorem dX12_look_161 : decode cX12_look 161 = .ok (.aload_n 0, 1) := by decide +kernel
theorem dX12_look_162 : decode cX12_look 162 = .ok (.getfield 199, 3) := by decide +kernel
theorem dX12_look_165 : decode cX12_look 165 = .ok (.if_icmp .ge 38, 3) := by decide +kernel
theorem dX12_look_168 : decode cX12_look 168 = .ok (.aload_n 0, 1) := by decide +kernel
theorem dX12_look_169 : decode cX12_look 169 = .ok (.getfield 7, 3) := by decide +kernel
theorem dX12_look_172 : decode cX12_look 172 = .ok (.iload_n 1, 1) := by decide +kernel
theorem dX12_look_173 : decode cX12_look 173 = .ok (.iconst 5, 1) := by decide +kernel
theorem dX12_look_174 : decode cX12_look 174 = .ok (.if_icmp .ne 8, 3) := by decide +kernel
theorem dX12_look_177 : decode cX12_look 177 = .ok (.bipush 41, 2) := by decide +kernel
theorem dX12_look_179 : decode cX12_look 179 = .ok (.goto 6, 3) := by decide +kernel
theorem dX12_look_182 : decode cX12_look 182 = .ok (.sipush 141, 3) := by decide +kernel
theorem dX12_look_185 : decode cX12_look 185 = .ok (.iload_n 3, 1) := by decide +kernel
theorem dX12_look_186 : decode cX12_look 186 = .ok (.iadd, 1) := by decide +kernel
theorem dX12_look_187 : decode cX12_look 187 = .ok (.iaload, 1) := by decide +kernel
theorem dX12_look_188 : decode cX12_look 188 = .ok (.ifCond .le 9, 3) := by decide +kernel
theorem dX12_look_191 : decode cX12_look 191 = .ok (.iload_n 2, 1) := by decide +kernel
theorem dX12_look_192 : decode cX12_look 192 = .ok (.iconst 1, 1) := by decide +kernel
theorem dX12_look_193 : decode cX12_look 193 = .ok (.iload_n 3, 1) := by decide +kernel
theorem dX12_look_194 : decode cX12_look 194 = .ok (.ishl, 1) := by decide +kernel
theorem dX12_look_195 : decode cX12_look 195 = .ok (.ior, 1) := by decide +kernel
theorem dX12_look_196 : decode cX12_look 196 = .ok (.istore_n 2, 1) := by decide +kernel
theorem dX12_look_197 : decode cX12_look 197 = .ok (.iinc 3 1, 3) := by decide +kernel
theorem dX12_look_200 : decode cX12_look 200 = .ok (.goto (-40), 3) := by decide +kernel
theorem dX12_look_203 : decode cX12_look 203 = .ok (.iload_n 2, 1) := by decide +kernel
theorem dX12_look_204 : decode cX12_look 204 = .ok (.ireturn, 1) := by decide +kernel
theorem dJ6_bitCount_0f7a4_0 : decode cJ6_bitCount_0f7a4 0 = .ok (.iload_n 0, 1) := by decide +kernel
theorem dJ6_bitCount_0f7a4_1 : decode cJ6_bitCount_0f7a4 1 = .ok (.iload_n 0, 1) := by decide +kernel
theorem dJ6_bitCount_0f7a4_2 : decode cJ6_bitCount_0f7a4 2 = .ok (.iconst 1, 1) := by decide +kernel
theorem dJ6_bitCount_0f7a4_3 : decode cJ6_bitCount_0f7a4 3 = .ok (.iushr, 1) := by decide +kernel
theorem dJ6_bitCount_0f7a4_4 : decode cJ6_bitCount_0f7a4 4 = .ok (.ldc_w 265, 3) := by decide +kernel
theorem dJ6_bitCount_0f7a4_7 : decode cJ6_bitCount_0f7a4 7 = .ok (.iand, 1) := by decide +kernel
theorem dJ6_bitCount_0f7a4_8 : decode cJ6_bitCount_0f7a4 8 = .ok (.isub, 1) := by decide +kernel
theorem dJ6_bitCount_0f7a4_9 : decode cJ6_bitCount_0f7a4 9 = .ok (.istore_n 0, 1) := by decide +kernel
theorem dJ6_bitCount_0f7a4_10 : decode cJ6_bitCount_0f7a4 10 = .ok (.iload_n 0, 1) := by decide +kernel
theorem dJ6_bitCount_0f7a4_11 : decode cJ6_bitCount_0f7a4 11 = .ok (.ldc_w 266, 3) := by decide +kernel
theorem dJ6_bitCount_0f7a4_14 : decode cJ6_bitCount_0f7a4 14 = .ok (.iand, 1) := by decide +kernel
theorem dJ6_bitCount_0f7a4_15 : decode cJ6_bitCount_0f7a4 15 = .ok (.iload_n 0, 1) := by decide +kernel
theorem dJ6_bitCount_0f7a4_16 : decode cJ6_bitCount_0f7a4 16 = .ok (.iconst 2, 1) := by decide +kernel
theorem dJ6_bitCount_0f7a4_17 : decode cJ6_bitCount_0f7a4 17 = .ok (.iushr, 1) := by decide +kernel
theorem dJ6_bitCount_0f7a4_18 : decode cJ6_bitCount_0f7a4 18 = .ok (.ldc_w 266, 3) := by decide +kernel
theorem dJ6_bitCount_0f7a4_21 : decode cJ6_bitCount_0f7a4 21 = .ok (.iand, 1) := by decide +kernel
theorem dJ6_bitCount_0f7a4_22 : decode cJ6_bitCount_0f7a4 22 = .ok (.iadd, 1) := by decide +kernel
theorem dJ6_bitCount_0f7a4_23 : decode cJ6_bitCount_0f7a4 23 = .ok (.istore_n 0, 1) := by decide +kernel
theorem dJ6_bitCount_0f7a4_24 : decode cJ6_bitCount_0f7a4 24 = .ok (.iload_n 0, 1) := by decide +kernel
theorem dJ6_bitCount_0f7a4_25 : decode cJ6_bitCount_0f7a4 25 = .ok (.iload_n 0, 1) := by decide +kernel
theorem dJ6_bitCount_0f7a4_26 : decode cJ6_bitCount_0f7a4 26 = .ok (.iconst 4, 1) := by decide +kernel
theorem dJ6_bitCount_0f7a4_27 : decode cJ6_bitCount_0f7a4 27 = .ok (.iushr, 1) := by decide +kernel
theorem dJ6_bitCount_0f7a4_28 : decode cJ6_bitCount_0f7a4 28 = .ok (.iadd, 1) := by decide +kernel
theorem dJ6_bitCount_0f7a4_29 : decode cJ6_bitCount_0f7a4 29 = .ok (.ldc_w 267, 3) := by decide +kernel
theorem dJ6_bitCount_0f7a4_32 : decode cJ6_bitCount_0f7a4 32 = .ok (.iand, 1) := by decide +kernel
theorem dJ6_bitCount_0f7a4_33 : decode cJ6_bitCount_0f7a4 33 = .ok (.istore_n 0, 1) := by decide +kernel
theorem dJ6_bitCount_0f7a4_34 : decode cJ6_bitCount_0f7a4 34 = .ok (.iload_n 0, 1) := by decide +kernel
theorem dJ6_bitCount_0f7a4_35 : decode cJ6_bitCount_0f7a4 35 = .ok (.iload_n 0, 1) := by decide +kernel
theorem dJ6_bitCount_0f7a4_36 : decode cJ6_bitCount_0f7a4 36 = .ok (.bipush 8, 2) := by decide +kernel
theorem dJ6_bitCount_0f7a4_38 : decode cJ6_bitCount_0f7a4 38 = .ok (.iushr, 1) := by decide +kernel
theorem dJ6_bitCount_0f7a4_39 : decode cJ6_bitCount_0f7a4 39 = .ok (.iadd, 1) := by decide +kernel
theorem dJ6_bitCount_0f7a4_40 : decode cJ6_bitCount_0f7a4 40 = .ok (.istore_n 0, 1) := by decide +kernel
theorem dJ6_bitCount_0f7a4_41 : decode cJ6_bitCount_0f7a4 41 = .ok (.iload_n 0, 1) := by decide +kernel
theorem dJ6_bitCount_0f7a4_42 : decode cJ6_bitCount_0f7a4 42 = .ok (.iload_n 0, 1) := by decide +kernel
theorem dJ6_bitCount_0f7a4_43 : decode cJ6_bitCount_0f7a4 43 = .ok (.bipush 16, 2) := by decide +kernel
theorem dJ6_bitCount_0f7a4_45 : decode cJ6_bitCount_0f7a4 45 = .ok (.iushr, 1) := by decide +kernel
theorem dJ6_bitCount_0f7a4_46 : decode cJ6_bitCount_0f7a4 46 = .ok (.iadd, 1) := by decide +kernel
theorem dJ6_bitCount_0f7a4_47 : decode cJ6_bitCount_0f7a4 47 = .ok (.istore_n 0, 1) := by decide +kernel
theorem dJ6_bitCount_0f7a4_48 : decode cJ6_bitCount_0f7a4 48 = .ok (.iload_n 0, 1) := by decide +kernel
theorem dJ6_bitCount_0f7a4_49 : decode cJ6_bitCount_0f7a4 49 = .ok (.bipush 63, 2) := by decide +kernel
theorem dJ6_bitCount_0f7a4_51 : decode cJ6_bitCount_0f7a4 51 = .ok (.iand, 1) := by decide +kernel
theorem dJ6_bitCount_0f7a4_52 : decode cJ6_bitCount_0f7a4 52 = .ok (.ireturn, 1) := by decide +kernel
theorem dJ9_abs_0f7a4_0 : decode cJ9_abs_0f7a4 0 = .ok (.iload_n 0, 1) := by decide +kernel
theorem dJ9_abs_0f7a4_1 : decode cJ9_abs_0f7a4 1 = .ok (.ifCond .ge 8, 3) := by decide +kernel
theorem dJ9_abs_0f7a4_4 : decode cJ9_abs_0f7a4 4 = .ok (.iload_n 0, 1) := by decide +kernel
theorem dJ9_abs_0f7a4_5 : decode cJ9_abs_0f7a4 5 = .ok (.ineg, 1) := by decide +kernel
theorem dJ9_abs_0f7a4_6 : decode cJ9_abs_0f7a4 6 = .ok (.goto 4, 3) := by decide +kernel
theorem dJ9_abs_0f7a4_9 : decode cJ9_abs_0f7a4 9 = .ok (.iload_n 0, 1) := by decide +kernel
theorem dJ9_abs_0f7a4_10 : decode cJ9_abs_0f7a4 10 = .ok (.ireturn, 1) := by decide +kernel
theorem dJ9_max_7cf53_0 : decode cJ9_max_7cf53 0 = .ok (.iload_n 0, 1) := by decide +kernel
theorem dJ9_max_7cf53_1 : decode cJ9_max_7cf53 1 = .ok (.iload_n 1, 1) := by decide +kernel
theorem dJ9_max_7cf53_2 : decode cJ9_max_7cf53 2 = .ok (.if_icmp .lt 7, 3) := by decide +kernel
theorem dJ9_max_7cf53_5 : decode cJ9_max_7cf53 5 = .ok (.iload_n 0, 1) := by decide +kernel
theorem dJ9_max_7cf53_6 : decode cJ9_max_7cf53 6 = .ok (.goto 4, 3) := by decide +kernel
theorem dJ9_max_7cf53_9 : decode cJ9_max_7cf53 9 = .ok (.iload_n 1, 1) := by decide +kernel
theorem dJ9_max_7cf53_10 : decode cJ9_max_7cf53 10 = .ok (.ireturn, 1) := by decide +kernel
theorem dJ9_min_7cf53_0 : decode cJ9_min_7cf53 0 = .ok (.iload_n 0, 1) := by decide +kernel
theorem dJ9_min_7cf53_1 : decode cJ9_min_7cf53 1 = .ok (.iload_n 1, 1) := by decide +kernel
theorem dJ9_min_7cf53_2 : decode cJ9_min_7cf53 2 = .ok (.if_icmp .gt 7, 3) := by decide +kernel
theorem dJ9_min_7cf53_5 : decode cJ9_min_7cf53 5 = .ok (.iload_n 0, 1) := by decide +kernel
theorem dJ9_min_7cf53_6 : decode cJ9_min_7cf53 6 = .ok (.goto 4, 3) := by decide +kernel
theorem dJ9_min_7cf53_9 : decode cJ9_min_7cf53 9 = .ok (.iload_n 1, 1) := by decide +kernel
theorem dJ9_min_7cf53_10 : decode cJ9_min_7cf53 10 = .ok (.ireturn, 1) := by decide +kernel
theorem dJ0_length_8abf5_0 : decode cJ0_length_8abf5 0 = .ok (.aload_n 0, 1) := by decide +kernel
theorem dJ0_length_8abf5_1 : decode cJ0_length_8abf5 1 = .ok (.getfield 9, 3) := by decide +kernel
theorem dJ0_length_8abf5_4 : decode cJ0_length_8abf5 4 = .ok (.arraylength, 1) := by decide +kernel
theorem dJ0_length_8abf5_5 : decode cJ0_length_8abf5 5 = .ok (.aload_n 0, 1) := by decide +kernel
theorem dJ0_length_8abf5_6 : decode cJ0_length_8abf5 6 = .ok (.invokevirtual 335, 3) := by decide +kernel
theorem dJ0_length_8abf5_9 : decode cJ0_length_8abf5 9 = .ok (.ishr, 1) := by decide +kernel
theorem dJ0_length_8abf5_10 : decode cJ0_length_8abf5 10 = .ok (.ireturn, 1) := by decide +kernel
theorem dJ0_charAt_5068e_0 : decode cJ0_charAt_5068e 0 = .ok (.aload_n 0, 1) := by decide +kernel
theorem dJ0_charAt_5068e_1 : decode cJ0_charAt_5068e 1 = .ok (.invokevirtual 492, 3) := by decide +kernel
theorem dJ0_charAt_5068e_4 : decode cJ0_charAt_5068e 4 = .ok (.ifCond .eq 12, 3) := by decide +kernel
theorem dJ0_charAt_5068e_7 : decode cJ0_charAt_5068e 7 = .ok (.aload_n 0, 1) := by decide +kernel
theorem dJ0_charAt_5068e_8 : decode cJ0_charAt_5068e 8 = .ok (.getfield 9, 3) := by decide +kernel
theorem dJ0_charAt_5068e_11 : decode cJ0_charAt_5068e 11 = .ok (.iload_n 1, 1) := by decide +kernel
theorem dJ0_charAt_5068e_12 : decode cJ0_charAt_5068e 12 = .ok (.invokestatic 495, 3) := by decide +kernel
theorem dJ0_charAt_5068e_15 : decode cJ0_charAt_5068e 15 = .ok (.ireturn, 1) := by decide +kernel
theorem dJ0_charAt_5068e_16 : decode cJ0_charAt_5068e 16 = .ok (.aload_n 0, 1) := by decide +kernel
theorem dJ0_charAt_5068e_17 : decode cJ0_charAt_5068e 17 = .ok (.getfield 9, 3) := by decide +kernel
theorem dJ0_charAt_5068e_20 : decode cJ0_charAt_5068e 20 = .ok (.iload_n 1, 1) := by decide +kernel
theorem dJ0_charAt_5068e_21 : decode cJ0_charAt_5068e 21 = .ok (.invokestatic 498, 3) := by decide +kernel
theorem dJ0_charAt_5068e_24 : decode cJ0_charAt_5068e 24 = .ok (.ireturn, 1) := by decide +kernel
theorem dJ0_coder_7d493_0 : decode cJ0_coder_7d493 0 = .ok (.getstatic 38, 3) := by decide +kernel
theorem dJ0_coder_7d493_3 : decode cJ0_coder_7d493 3 = .ok (.ifCond .eq 10, 3) := by decide +kernel
theorem dJ0_coder_7d493_6 : decode cJ0_coder_7d493 6 = .ok (.aload_n 0, 1) := by decide +kernel
theorem dJ0_coder_7d493_7 : decode cJ0_coder_7d493 7 = .ok (.getfield 15, 3) := by decide +kernel
theorem dJ0_coder_7d493_10 : decode cJ0_coder_7d493 10 = .ok (.goto 4, 3) := by decide +kernel
theorem dJ0_coder_7d493_13 : decode cJ0_coder_7d493 13 = .ok (.iconst 1, 1) := by decide +kernel
theorem dJ0_coder_7d493_14 : decode cJ0_coder_7d493 14 = .ok (.ireturn, 1) := by decide +kernel
theorem dJ0_isLatin1_aae02_0 : decode cJ0_isLatin1_aae02 0 = .ok (.getstatic 38, 3) := by decide +kernel
theorem dJ0_isLatin1_aae02_3 : decode cJ0_isLatin1_aae02 3 = .ok (.ifCond .eq 14, 3) := by decide +kernel
theorem dJ0_isLatin1_aae02_6 : decode cJ0_isLatin1_aae02 6 = .ok (.aload_n 0, 1) := by decide +kernel
theorem dJ0_isLatin1_aae02_7 : decode cJ0_isLatin1_aae02 7 = .ok (.getfield 15, 3) := by decide +kernel
theorem dJ0_isLatin1_aae02_10 : decode cJ0_isLatin1_aae02 10 = .ok (.ifCond .ne 7, 3) := by decide +kernel
theorem dJ0_isLatin1_aae02_13 : decode cJ0_isLatin1_aae02 13 = .ok (.iconst 1, 1) := by decide +kernel
theorem dJ0_isLatin1_aae02_14 : decode cJ0_isLatin1_aae02 14 = .ok (.goto 4, 3) := by decide +kernel
theorem dJ0_isLatin1_aae02_17 : decode cJ0_isLatin1_aae02 17 = .ok (.iconst 0, 1) := by decide +kernel
theorem dJ0_isLatin1_aae02_18 : decode cJ0_isLatin1_aae02 18 = .ok (.ireturn, 1) := by decide +kernel
theorem dJ0_checkIndex_df160_0 : decode cJ0_checkIndex_df160 0 = .ok (.iload_n 0, 1) := by decide +kernel
theorem dJ0_checkIndex_df160_1 : decode cJ0_checkIndex_df160 1 = .ok (.iload_n 1, 1) := by decide +kernel
theorem dJ0_checkIndex_df160_2 : decode cJ0_checkIndex_df160 2 = .ok (.getstatic 1053, 3) := by decide +kernel
theorem dJ0_checkIndex_df160_5 : decode cJ0_checkIndex_df160 5 = .ok (.invokestatic 1059, 3) := by decide +kernel
theorem dJ0_checkIndex_df160_8 : decode cJ0_checkIndex_df160 8 = .ok (.pop, 1) := by decide +kernel
theorem dJ0_checkIndex_df160_9 : decode cJ0_checkIndex_df160 9 = .ok (.return_, 1) := by decide +kernel
theorem dJ1_charAt_3b067_0 : decode cJ1_charAt_3b067 0 = .ok (.iload_n 1, 1) := by decide +kernel
theorem dJ1_charAt_3b067_1 : decode cJ1_charAt_3b067 1 = .ok (.aload_n 0, 1) := by decide +kernel
theorem dJ1_charAt_3b067_2 : decode cJ1_charAt_3b067 2 = .ok (.arraylength, 1) := by decide +kernel
theorem dJ1_charAt_3b067_3 : decode cJ1_charAt_3b067 3 = .ok (.invokestatic 9, 3) := by decide +kernel
theorem dJ1_charAt_3b067_6 : decode cJ1_charAt_3b067 6 = .ok (.aload_n 0, 1) := by decide +kernel
theorem dJ1_charAt_3b067_7 : decode cJ1_charAt_3b067 7 = .ok (.iload_n 1, 1) := by decide +kernel
theorem dJ1_charAt_3b067_8 : decode cJ1_charAt_3b067 8 = .ok (.baload, 1) := by decide +kernel
theorem dJ1_charAt_3b067_9 : decode cJ1_charAt_3b067 9 = .ok (.sipush 255, 3) := by decide +kernel
theorem dJ1_charAt_3b067_12 : decode cJ1_charAt_3b067 12 = .ok (.iand, 1) := by decide +kernel
theorem dJ1_charAt_3b067_13 : decode cJ1_charAt_3b067 13 = .ok (.i2c, 1) := by decide +kernel
theorem dJ1_charAt_3b067_14 : decode cJ1_charAt_3b067 14 = .ok (.ireturn, 1) := by decide +kernel
theorem dJ2_getChar_3b067_0 : decode cJ2_getChar_3b067 0 = .ok (.getstatic 44, 3) := by decide +kernel
theorem dJ2_getChar_3b067_3 : decode cJ2_getChar_3b067 3 = .ok (.ifCond .ne 25, 3) := by decide +kernel
theorem dJ2_getChar_3b067_6 : decode cJ2_getChar_3b067 6 = .ok (.iload_n 1, 1) := by decide +kernel
theorem dJ2_getChar_3b067_7 : decode cJ2_getChar_3b067 7 = .ok (.ifCond .lt 11, 3) := by decide +kernel
theorem dJ2_getChar_3b067_10 : decode cJ2_getChar_3b067 10 = .ok (.iload_n 1, 1) := by decide +kernel
theorem dJ2_getChar_3b067_11 : decode cJ2_getChar_3b067 11 = .ok (.aload_n 0, 1) := by decide +kernel
theorem dJ2_getChar_3b067_12 : decode cJ2_getChar_3b067 12 = .ok (.invokestatic 48, 3) := by decide +kernel
theorem dJ2_getChar_3b067_15 : decode cJ2_getChar_3b067 15 = .ok (.if_icmp .lt 13, 3) := by decide +kernel
theorem dJ2_getChar_3b067_18 : decode cJ2_getChar_3b067 18 = .ok (.new 52, 3) := by decide +kernel
theorem dJ2_getChar_3b067_21 : decode cJ2_getChar_3b067 21 = .ok (.dup, 1) := by decide +kernel
theorem dJ2_getChar_3b067_22 : decode cJ2_getChar_3b067 22 = .ok (.ldc 54, 2) := by decide +kernel
theorem dJ2_getChar_3b067_24 : decode cJ2_getChar_3b067 24 = .ok (.invokespecial 56, 3) := by decide +kernel
theorem dJ2_getChar_3b067_27 : decode cJ2_getChar_3b067 27 = .ok (.athrow, 1) := by decide +kernel
theorem dJ2_getChar_3b067_28 : decode cJ2_getChar_3b067 28 = .ok (.iload_n 1, 1) := by decide +kernel
theorem dJ2_getChar_3b067_29 : decode cJ2_getChar_3b067 29 = .ok (.iconst 1, 1) := by decide +kernel
theorem dJ2_getChar_3b067_30 : decode cJ2_getChar_3b067 30 = .ok (.ishl, 1) := by decide +kernel
theorem dJ2_getChar_3b067_31 : decode cJ2_getChar_3b067 31 = .ok (.istore_n 1, 1) := by decide +kernel
theorem dJ2_getChar_3b067_32 : decode cJ2_getChar_3b067 32 = .ok (.aload_n 0, 1) := by decide +kernel
theorem dJ2_getChar_3b067_33 : decode cJ2_getChar_3b067 33 = .ok (.iload_n 1, 1) := by decide +kernel
theorem dJ2_getChar_3b067_34 : decode cJ2_getChar_3b067 34 = .ok (.iinc 1 1, 3) := by decide +kernel
theorem dJ2_getChar_3b067_37 : decode cJ2_getChar_3b067 37 = .ok (.baload, 1) := by decide +kernel
theorem dJ2_getChar_3b067_38 : decode cJ2_getChar_3b067 38 = .ok (.sipush 255, 3) := by decide +kernel
theorem dJ2_getChar_3b067_41 : decode cJ2_getChar_3b067 41 = .ok (.iand, 1) := by decide +kernel
theorem dJ2_getChar_3b067_42 : decode cJ2_getChar_3b067 42 = .ok (.getstatic 59, 3) := by decide +kernel
theorem dJ2_getChar_3b067_45 : decode cJ2_getChar_3b067 45 = .ok (.ishl, 1) := by decide +kernel
theorem dJ2_getChar_3b067_46 : decode cJ2_getChar_3b067 46 = .ok (.aload_n 0, 1) := by decide +kernel
theorem dJ2_getChar_3b067_47 : decode cJ2_getChar_3b067 47 = .ok (.iload_n 1, 1) := by decide +kernel
theorem dJ2_getChar_3b067_48 : decode cJ2_getChar_3b067 48 = .ok (.baload, 1) := by decide +kernel
theorem dJ2_getChar_3b067_49 : decode cJ2_getChar_3b067 49 = .ok (.sipush 255, 3) := by decide +kernel
theorem dJ2_getChar_3b067_52 : decode cJ2_getChar_3b067 52 = .ok (.iand, 1) := by decide +kernel
theorem dJ2_getChar_3b067_53 : decode cJ2_getChar_3b067 53 = .ok (.getstatic 63, 3) := by decide +kernel
theorem dJ2_getChar_3b067_56 : decode cJ2_getChar_3b067 56 = .ok (.ishl, 1) := by decide +kernel
theorem dJ2_getChar_3b067_57 : decode cJ2_getChar_3b067 57 = .ok (.ior, 1) := by decide +kernel
theorem dJ2_getChar_3b067_58 : decode cJ2_getChar_3b067 58 = .ok (.i2c, 1) := by decide +kernel
theorem dJ2_getChar_3b067_59 : decode cJ2_getChar_3b067 59 = .ok (.ireturn, 1) := by decide +kernel
theorem dJ2_length_9d52b_0 : decode cJ2_length_9d52b 0 = .ok (.aload_n 0, 1) := by decide +kernel
theorem dJ2_length_9d52b_1 : decode cJ2_length_9d52b 1 = .ok (.arraylength, 1) := by decide +kernel
theorem dJ2_length_9d52b_2 : decode cJ2_length_9d52b 2 = .ok (.iconst 1, 1) := by decide +kernel
theorem dJ2_length_9d52b_3 : decode cJ2_length_9d52b 3 = .ok (.ishr, 1) := by decide +kernel
theorem dJ2_length_9d52b_4 : decode cJ2_length_9d52b 4 = .ok (.ireturn, 1) := by decide +kernel
theorem dJ2_charAt_3b067_0 : decode cJ2_charAt_3b067 0 = .ok (.iload_n 1, 1) := by decide +kernel
theorem dJ2_charAt_3b067_1 : decode cJ2_charAt_3b067 1 = .ok (.aload_n 0, 1) := by decide +kernel
theorem dJ2_charAt_3b067_2 : decode cJ2_charAt_3b067 2 = .ok (.invokestatic 67, 3) := by decide +kernel
theorem dJ2_charAt_3b067_5 : decode cJ2_charAt_3b067 5 = .ok (.aload_n 0, 1) := by decide +kernel
theorem dJ2_charAt_3b067_6 : decode cJ2_charAt_3b067 6 = .ok (.iload_n 1, 1) := by decide +kernel
theorem dJ2_charAt_3b067_7 : decode cJ2_charAt_3b067 7 = .ok (.invokestatic 71, 3) := by decide +kernel
theorem dJ2_charAt_3b067_10 : decode cJ2_charAt_3b067 10 = .ok (.ireturn, 1) := by decide +kernel
theorem dJ2_checkIndex_2214a_0 : decode cJ2_checkIndex_2214a 0 = .ok (.iload_n 0, 1) := by decide +kernel
theorem dJ2_checkIndex_2214a_1 : decode cJ2_checkIndex_2214a 1 = .ok (.aload_n 1, 1) := by decide +kernel
theorem dJ2_checkIndex_2214a_2 : decode cJ2_checkIndex_2214a 2 = .ok (.invokestatic 48, 3) := by decide +kernel
theorem dJ2_checkIndex_2214a_5 : decode cJ2_checkIndex_2214a 5 = .ok (.invokestatic 414, 3) := by decide +kernel
theorem dJ2_checkIndex_2214a_8 : decode cJ2_checkIndex_2214a 8 = .ok (.return_, 1) := by decide +kernel
theorem dJ7_fill_53178_0 : decode cJ7_fill_53178 0 = .ok (.iconst 0, 1) := by decide +kernel
theorem dJ7_fill_53178_1 : decode cJ7_fill_53178 1 = .ok (.istore_n 2, 1) := by decide +kernel
theorem dJ7_fill_53178_2 : decode cJ7_fill_53178 2 = .ok (.aload_n 0, 1) := by decide +kernel
theorem dJ7_fill_53178_3 : decode cJ7_fill_53178 3 = .ok (.arraylength, 1) := by decide +kernel
theorem dJ7_fill_53178_4 : decode cJ7_fill_53178 4 = .ok (.istore_n 3, 1) := by decide +kernel
theorem dJ7_fill_53178_5 : decode cJ7_fill_53178 5 = .ok (.iload_n 2, 1) := by decide +kernel
theorem dJ7_fill_53178_6 : decode cJ7_fill_53178 6 = .ok (.iload_n 3, 1) := by decide +kernel
theorem dJ7_fill_53178_7 : decode cJ7_fill_53178 7 = .ok (.if_icmp .ge 13, 3) := by decide +kernel
theorem dJ7_fill_53178_10 : decode cJ7_fill_53178 10 = .ok (.aload_n 0, 1) := by decide +kernel
theorem dJ7_fill_53178_11 : decode cJ7_fill_53178 11 = .ok (.iload_n 2, 1) := by decide +kernel
theorem dJ7_fill_53178_12 : decode cJ7_fill_53178 12 = .ok (.iload_n 1, 1) := by decide +kernel
theorem dJ7_fill_53178_13 : decode cJ7_fill_53178 13 = .ok (.iastore, 1) := by decide +kernel
theorem dJ7_fill_53178_14 : decode cJ7_fill_53178 14 = .ok (.iinc 2 1, 3) := by decide +kernel
theorem dJ7_fill_53178_17 : decode cJ7_fill_53178 17 = .ok (.goto (-12), 3) := by decide +kernel
theorem dJ7_fill_53178_20 : decode cJ7_fill_53178 20 = .ok (.return_, 1) := by decide +kernel
theorem dJ3_checkIndex_8e157_0 : decode cJ3_checkIndex_8e157 0 = .ok (.iload_n 0, 1) := by decide +kernel
theorem dJ3_checkIndex_8e157_1 : decode cJ3_checkIndex_8e157 1 = .ok (.ifCond .lt 8, 3) := by decide +kernel
theorem dJ3_checkIndex_8e157_4 : decode cJ3_checkIndex_8e157 4 = .ok (.iload_n 0, 1) := by decide +kernel
theorem dJ3_checkIndex_8e157_5 : decode cJ3_checkIndex_8e157 5 = .ok (.iload_n 1, 1) := by decide +kernel
theorem dJ3_checkIndex_8e157_6 : decode cJ3_checkIndex_8e157 6 = .ok (.if_icmp .lt 10, 3) := by decide +kernel
theorem dJ3_checkIndex_8e157_9 : decode cJ3_checkIndex_8e157 9 = .ok (.aload_n 2, 1) := by decide +kernel
theorem dJ3_checkIndex_8e157_10 : decode cJ3_checkIndex_8e157 10 = .ok (.iload_n 0, 1) := by decide +kernel
theorem dJ3_checkIndex_8e157_11 : decode cJ3_checkIndex_8e157 11 = .ok (.iload_n 1, 1) := by decide +kernel
theorem dJ3_checkIndex_8e157_12 : decode cJ3_checkIndex_8e157 12 = .ok (.invokestatic 95, 3) := by decide +kernel
theorem dJ3_checkIndex_8e157_15 : decode cJ3_checkIndex_8e157 15 = .ok (.athrow, 1) := by decide +kernel
theorem dJ3_checkIndex_8e157_16 : decode cJ3_checkIndex_8e157 16 = .ok (.iload_n 0, 1) := by decide +kernel
theorem dJ3_checkIndex_8e157_17 : decode cJ3_checkIndex_8e157 17 = .ok (.ireturn, 1) := by decide +kernel
theorem dL_law_0 : decode cL_law 0 = .ok (.new 7, 3) := by decide +kernel
theorem dL_law_3 : decode cL_law 3 = .ok (.dup, 1) := by decide +kernel
theorem dL_law_4 : decode cL_law 4 = .ok (.invokespecial 9, 3) := by decide +kernel
theorem dL_law_7 : decode cL_law 7 = .ok (.astore_n 1, 1) := by decide +kernel
theorem dL_law_8 : decode cL_law 8 = .ok (.new 10, 3) := by decide +kernel
theorem dL_law_11 : decode cL_law 11 = .ok (.dup, 1) := by decide +kernel
theorem dL_law_12 : decode cL_law 12 = .ok (.invokespecial 12, 3) := by decide +kernel
theorem dL_law_15 : decode cL_law 15 = .ok (.astore_n 2, 1) := by decide +kernel
theorem dL_law_16 : decode cL_law 16 = .ok (.iconst 0, 1) := by decide +kernel
theorem dL_law_17 : decode cL_law 17 = .ok (.istore_n 3, 1) := by decide +kernel
theorem dL_law_18 : decode cL_law 18 = .ok (.iload_n 3, 1) := by decide +kernel
theorem dL_law_19 : decode cL_law 19 = .ok (.aload_n 0, 1) := by decide +kernel
theorem dL_law_20 : decode cL_law 20 = .ok (.arraylength, 1) := by decide +kernel
theorem dL_law_21 : decode cL_law 21 = .ok (.bipush 6, 2) := by decide +kernel
theorem dL_law_23 : decode cL_law 23 = .ok (.isub, 1) := by decide +kernel
theorem dL_law_24 : decode cL_law 24 = .ok (.if_icmp .gt 1530, 3) := by decide +kernel
theorem dL_law_27 : decode cL_law 27 = .ok (.aload_n 0, 1) := by decide +kernel
theorem dL_law_28 : decode cL_law 28 = .ok (.iload_n 3, 1) := by decide +kernel
theorem dL_law_29 : decode cL_law 29 = .ok (.iaload, 1) := by decide +kernel
theorem dL_law_30 : decode cL_law 30 = .ok (.bipush 63, 2) := by decide +kernel
theorem dL_law_32 : decode cL_law 32 = .ok (.iand, 1) := by decide +kernel
theorem dL_law_33 : decode cL_law 33 = .ok (.tableswitch 1515 0 41 #[183, 206, 239, 272, 315, 358, 381, 444, 467, 490, 513, 546, 579, 612, 645, 678, 701, 744, 787, 820, 843, 886, 929, 952, 985, 1008, 1031, 1054, 1077, 1110, 1133, 1156, 1179, 1212, 1245, 1278, 1321, 1374, 1407, 1440, 1453, 1492], 183) := by decide +kernel
theorem dL_law_216 : decode cL_law 216 = .ok (.aload_n 1, 1) := by decide +kernel
theorem dL_law_217 : decode cL_law 217 = .ok (.aload_n 0, 1) := by decide +kernel
theorem dL_law_218 : decode cL_law 218 = .ok (.iload_n 3, 1) := by decide +kernel
theorem dL_law_219 : decode cL_law 219 = .ok (.iconst 1, 1) := by decide +kernel
theorem dL_law_220 : decode cL_law 220 = .ok (.iadd, 1) := by decide +kernel
theorem dL_law_221 : decode cL_law 221 = .ok (.iaload, 1) := by decide +kernel
theorem dL_law_222 : decode cL_law 222 = .ok (.invokevirtual 13, 3) := by decide +kernel
theorem dL_law_225 : decode cL_law 225 = .ok (.aload_n 2, 1) := by decide +kernel
theorem dL_law_226 : decode cL_law 226 = .ok (.aload_n 0, 1) := by decide +kernel
theorem dL_law_227 : decode cL_law 227 = .ok (.iload_n 3, 1) := by decide +kernel
theorem dL_law_228 : decode cL_law 228 = .ok (.iconst 1, 1) := by decide +kernel
theorem dL_law_229 : decode cL_law 229 = .ok (.iadd, 1) := by decide +kernel
theorem dL_law_230 : decode cL_law 230 = .ok (.iaload, 1) := by decide +kernel
theorem dL_law_231 : decode cL_law 231 = .ok (.invokevirtual 17, 3) := by decide +kernel
theorem dL_law_234 : decode cL_law 234 = .ok (.if_icmp .eq 1314, 3) := by decide +kernel
theorem dL_law_237 : decode cL_law 237 = .ok (.iconst 0, 1) := by decide +kernel
theorem dL_law_238 : decode cL_law 238 = .ok (.ireturn, 1) := by decide +kernel
theorem dL_law_239 : decode cL_law 239 = .ok (.aload_n 1, 1) := by decide +kernel
theorem dL_law_240 : decode cL_law 240 = .ok (.aload_n 0, 1) := by decide +kernel
theorem dL_law_241 : decode cL_law 241 = .ok (.iload_n 3, 1) := by decide +kernel
theorem dL_law_242 : decode cL_law 242 = .ok (.iconst 1, 1) := by decide +kernel
theorem dL_law_243 : decode cL_law 243 = .ok (.iadd, 1) := by decide +kernel
theorem dL_law_244 : decode cL_law 244 = .ok (.iaload, 1) := by decide +kernel
theorem dL_law_245 : decode cL_law 245 = .ok (.aload_n 0, 1) := by decide +kernel
theorem dL_law_246 : decode cL_law 246 = .ok (.iload_n 3, 1) := by decide +kernel
theorem dL_law_247 : decode cL_law 247 = .ok (.iconst 2, 1) := by decide +kernel
theorem dL_law_248 : decode cL_law 248 = .ok (.iadd, 1) := by decide +kernel
theorem dL_law_249 : decode cL_law 249 = .ok (.iaload, 1) := by decide +kernel
theorem dL_law_250 : decode cL_law 250 = .ok (.invokevirtual 18, 3) := by decide +kernel
theorem dL_law_253 : decode cL_law 253 = .ok (.aload_n 2, 1) := by decide +kernel
theorem dL_law_254 : decode cL_law 254 = .ok (.aload_n 0, 1) := by decide +kernel
theorem dL_law_255 : decode cL_law 255 = .ok (.iload_n 3, 1) := by decide +kernel
theorem dL_law_256 : decode cL_law 256 = .ok (.iconst 1, 1) := by decide +kernel
theorem dL_law_257 : decode cL_law 257 = .ok (.iadd, 1) := by decide +kernel
theorem dL_law_258 : decode cL_law 258 = .ok (.iaload, 1) := by decide +kernel
theorem dL_law_259 : decode cL_law 259 = .ok (.aload_n 0, 1) := by decide +kernel
theorem dL_law_260 : decode cL_law 260 = .ok (.iload_n 3, 1) := by decide +kernel
theorem dL_law_261 : decode cL_law 261 = .ok (.iconst 2, 1) := by decide +kernel
theorem dL_law_262 : decode cL_law 262 = .ok (.iadd, 1) := by decide +kernel
theorem dL_law_263 : decode cL_law 263 = .ok (.iaload, 1) := by decide +kernel
theorem dL_law_264 : decode cL_law 264 = .ok (.invokevirtual 22, 3) := by decide +kernel
theorem dL_law_267 : decode cL_law 267 = .ok (.if_icmp .eq 1281, 3) := by decide +kernel
theorem dL_law_270 : decode cL_law 270 = .ok (.iconst 0, 1) := by decide +kernel
theorem dL_law_271 : decode cL_law 271 = .ok (.ireturn, 1) := by decide +kernel
theorem dL_law_272 : decode cL_law 272 = .ok (.aload_n 1, 1) := by decide +kernel
theorem dL_law_273 : decode cL_law 273 = .ok (.aload_n 0, 1) := by decide +kernel
theorem dL_law_274 : decode cL_law 274 = .ok (.iload_n 3, 1) := by decide +kernel
theorem dL_law_275 : decode cL_law 275 = .ok (.iconst 1, 1) := by decide +kernel
theorem dL_law_276 : decode cL_law 276 = .ok (.iadd, 1) := by decide +kernel
theorem dL_law_277 : decode cL_law 277 = .ok (.iaload, 1) := by decide +kernel
theorem dL_law_278 : decode cL_law 278 = .ok (.aload_n 0, 1) := by decide +kernel
theorem dL_law_279 : decode cL_law 279 = .ok (.iload_n 3, 1) := by decide +kernel
theorem dL_law_280 : decode cL_law 280 = .ok (.iconst 2, 1) := by decide +kernel
theorem dL_law_281 : decode cL_law 281 = .ok (.iadd, 1) := by decide +kernel
theorem dL_law_282 : decode cL_law 282 = .ok (.iaload, 1) := by decide +kernel
theorem dL_law_283 : decode cL_law 283 = .ok (.invokevirtual 23, 3) := by decide +kernel
theorem dL_law_286 : decode cL_law 286 = .ok (.aload_n 2, 1) := by decide +kernel
theorem dL_law_287 : decode cL_law 287 = .ok (.aload_n 0, 1) := by decide +kernel
theorem dL_law_288 : decode cL_law 288 = .ok (.iload_n 3, 1) := by decide +kernel
theorem dL_law_289 : decode cL_law 289 = .ok (.iconst 1, 1) := by decide +kernel
theorem dL_law_290 : decode cL_law 290 = .ok (.iadd, 1) := by decide +kernel
theorem dL_law_291 : decode cL_law 291 = .ok (.iaload, 1) := by decide +kernel
theorem dL_law_292 : decode cL_law 292 = .ok (.aload_n 0, 1) := by decide +kernel
theorem dL_law_293 : decode cL_law 293 = .ok (.iload_n 3, 1) := by decide +kernel
theorem dL_law_294 : decode cL_law 294 = .ok (.iconst 2, 1) := by decide +kernel
theorem dL_law_295 : decode cL_law 295 = .ok (.iadd, 1) := by decide +kernel
theorem dL_law_296 : decode cL_law 296 = .ok (.iaload, 1) := by decide +kernel
theorem dL_law_297 : decode cL_law 297 = .ok (.invokevirtual 26, 3) := by decide +kernel
theorem dL_law_300 : decode cL_law 300 = .ok (.if_icmp .eq 1248, 3) := by decide +kernel
theorem dL_law_303 : decode cL_law 303 = .ok (.iconst 0, 1) := by decide +kernel
theorem dL_law_304 : decode cL_law 304 = .ok (.ireturn, 1) := by decide +kernel
theorem dL_law_305 : decode cL_law 305 = .ok (.aload_n 1, 1) := by decide +kernel
theorem dL_law_306 : decode cL_law 306 = .ok (.aload_n 0, 1) := by decide +kernel
theorem dL_law_307 : decode cL_law 307 = .ok (.iload_n 3, 1) := by decide +kernel
theorem dL_law_308 : decode cL_law 308 = .ok (.iconst 1, 1) := by decide +kernel
theorem dL_law_309 : decode cL_law 309 = .ok (.iadd, 1) := by decide +kernel
theorem dL_law_310 : decode cL_law 310 = .ok (.iaload, 1) := by decide +kernel
theorem dL_law_311 : decode cL_law 311 = .ok (.aload_n 0, 1) := by decide +kernel
theorem dL_law_312 : decode cL_law 312 = .ok (.iload_n 3, 1) := by decide +kernel
theorem dL_law_313 : decode cL_law 313 = .ok (.iconst 2, 1) := by decide +kernel
theorem dL_law_314 : decode cL_law 314 = .ok (.iadd, 1) := by decide +kernel
theorem dL_law_315 : decode cL_law 315 = .ok (.iaload, 1) := by decide +kernel
theorem dL_law_316 : decode cL_law 316 = .ok (.aload_n 0, 1) := by decide +kernel
theorem dL_law_317 : decode cL_law 317 = .ok (.iload_n 3, 1) := by decide +kernel
theorem dL_law_318 : decode cL_law 318 = .ok (.iconst 3, 1) := by decide +kernel
theorem dL_law_319 : decode cL_law 319 = .ok (.iadd, 1) := by decide +kernel
theorem dL_law_320 : decode cL_law 320 = .ok (.iaload, 1) := by decide +kernel
theorem dL_law_321 : decode cL_law 321 = .ok (.invokevirtual 27, 3) := by decide +kernel
theorem dL_law_324 : decode cL_law 324 = .ok (.aload_n 2, 1) := by decide +kernel
theorem dL_law_325 : decode cL_law 325 = .ok (.aload_n 0, 1) := by decide +kernel
theorem dL_law_326 : decode cL_law 326 = .ok (.iload_n 3, 1) := by decide +kernel
theorem dL_law_327 : decode cL_law 327 = .ok (.iconst 1, 1) := by decide +kernel
theorem dL_law_328 : decode cL_law 328 = .ok (.iadd, 1) := by decide +kernel
theorem dL_law_329 : decode cL_law 329 = .ok (.iaload, 1) := by decide +kernel
theorem dL_law_330 : decode cL_law 330 = .ok (.aload_n 0, 1) := by decide +kernel
theorem dL_law_331 : decode cL_law 331 = .ok (.iload_n 3, 1) := by decide +kernel
theorem dL_law_332 : decode cL_law 332 = .ok (.iconst 2, 1) := by decide +kernel
theorem dL_law_333 : decode cL_law 333 = .ok (.iadd, 1) := by decide +kernel
theorem dL_law_334 : decode cL_law 334 = .ok (.iaload, 1) := by decide +kernel
theorem dL_law_335 : decode cL_law 335 = .ok (.aload_n 0, 1) := by decide +kernel
theorem dL_law_336 : decode cL_law 336 = .ok (.iload_n 3, 1) := by decide +kernel
theorem dL_law_337 : decode cL_law 337 = .ok (.iconst 3, 1) := by decide +kernel
theorem dL_law_338 : decode cL_law 338 = .ok (.iadd, 1) := by decide +kernel
theorem dL_law_339 : decode cL_law 339 = .ok (.iaload, 1) := by decide +kernel
theorem dL_law_340 : decode cL_law 340 = .ok (.invokevirtual 31, 3) := by decide +kernel
theorem dL_law_343 : decode cL_law 343 = .ok (.if_icmp .eq 1205, 3) := by decide +kernel
theorem dL_law_346 : decode cL_law 346 = .ok (.iconst 0, 1) := by decide +kernel
theorem dL_law_347 : decode cL_law 347 = .ok (.ireturn, 1) := by decide +kernel
theorem dL_law_348 : decode cL_law 348 = .ok (.aload_n 1, 1) := by decide +kernel
theorem dL_law_349 : decode cL_law 349 = .ok (.aload_n 0, 1) := by decide +kernel
theorem dL_law_350 : decode cL_law 350 = .ok (.iload_n 3, 1) := by decide +kernel
theorem dL_law_351 : decode cL_law 351 = .ok (.iconst 1, 1) := by decide +kernel
theorem dL_law_352 : decode cL_law 352 = .ok (.iadd, 1) := by decide +kernel
theorem dL_law_353 : decode cL_law 353 = .ok (.iaload, 1) := by decide +kernel
theorem dL_law_354 : decode cL_law 354 = .ok (.aload_n 0, 1) := by decide +kernel
theorem dL_law_355 : decode cL_law 355 = .ok (.iload_n 3, 1) := by decide +kernel
theorem dL_law_356 : decode cL_law 356 = .ok (.iconst 2, 1) := by decide +kernel
theorem dL_law_357 : decode cL_law 357 = .ok (.iadd, 1) := by decide +kernel
theorem dL_law_358 : decode cL_law 358 = .ok (.iaload, 1) := by decide +kernel
theorem dL_law_359 : decode cL_law 359 = .ok (.aload_n 0, 1) := by decide +kernel
theorem dL_law_360 : decode cL_law 360 = .ok (.iload_n 3, 1) := by decide +kernel
theorem dL_law_361 : decode cL_law 361 = .ok (.iconst 3, 1) := by decide +kernel
theorem dL_law_362 : decode cL_law 362 = .ok (.iadd, 1) := by decide +kernel
theorem dL_law_363 : decode cL_law 363 = .ok (.iaload, 1) := by decide +kernel
theorem dL_law_364 : decode cL_law 364 = .ok (.invokevirtual 32, 3) := by decide +kernel
theorem dL_law_367 : decode cL_law 367 = .ok (.aload_n 2, 1) := by decide +kernel
theorem dL_law_368 : decode cL_law 368 = .ok (.aload_n 0, 1) := by decide +kernel
theorem dL_law_369 : decode cL_law 369 = .ok (.iload_n 3, 1) := by decide +kernel
theorem dL_law_370 : decode cL_law 370 = .ok (.iconst 1, 1) := by decide +kernel
theorem dL_law_371 : decode cL_law 371 = .ok (.iadd, 1) := by decide +kernel
theorem dL_law_372 : decode cL_law 372 = .ok (.iaload, 1) := by decide +kernel
theorem dL_law_373 : decode cL_law 373 = .ok (.aload_n 0, 1) := by decide +kernel
theorem dL_law_374 : decode cL_law 374 = .ok (.iload_n 3, 1) := by decide +kernel
theorem dL_law_375 : decode cL_law 375 = .ok (.iconst 2, 1) := by decide +kernel
theorem dL_law_376 : decode cL_law 376 = .ok (.iadd, 1) := by decide +kernel
theorem dL_law_377 : decode cL_law 377 = .ok (.iaload, 1) := by decide +kernel
theorem dL_law_378 : decode cL_law 378 = .ok (.aload_n 0, 1) := by decide +kernel
theorem dL_law_379 : decode cL_law 379 = .ok (.iload_n 3, 1) := by decide +kernel
theorem dL_law_380 : decode cL_law 380 = .ok (.iconst 3, 1) := by decide +kernel
theorem dL_law_381 : decode cL_law 381 = .ok (.iadd, 1) := by decide +kernel
theorem dL_law_382 : decode cL_law 382 = .ok (.iaload, 1) := by decide +kernel
theorem dL_law_383 : decode cL_law 383 = .ok (.invokevirtual 35, 3) := by decide +kernel
theorem dL_law_386 : decode cL_law 386 = .ok (.if_icmp .eq 1162, 3) := by decide +kernel
theorem dL_law_389 : decode cL_law 389 = .ok (.iconst 0, 1) := by decide +kernel
theorem dL_law_390 : decode cL_law 390 = .ok (.ireturn, 1) := by decide +kernel
theorem dL_law_391 : decode cL_law 391 = .ok (.aload_n 1, 1) := by decide +kernel
theorem dL_law_392 : decode cL_law 392 = .ok (.aload_n 0, 1) := by decide +kernel
theorem dL_law_393 : decode cL_law 393 = .ok (.iload_n 3, 1) := by decide +kernel
theorem dL_law_394 : decode cL_law 394 = .ok (.iconst 1, 1) := by decide +kernel
theorem dL_law_395 : decode cL_law 395 = .ok (.iadd, 1) := by decide +kernel
theorem dL_law_396 : decode cL_law 396 = .ok (.iaload, 1) := by decide +kernel
theorem dL_law_397 : decode cL_law 397 = .ok (.invokevirtual 36, 3) := by decide +kernel
theorem dL_law_400 : decode cL_law 400 = .ok (.aload_n 2, 1) := by decide +kernel
theorem dL_law_401 : decode cL_law 401 = .ok (.aload_n 0, 1) := by decide +kernel
theorem dL_law_402 : decode cL_law 402 = .ok (.iload_n 3, 1) := by decide +kernel
theorem dL_law_403 : decode cL_law 403 = .ok (.iconst 1, 1) := by decide +kernel
theorem dL_law_404 : decode cL_law 404 = .ok (.iadd, 1) := by decide +kernel
theorem dL_law_405 : decode cL_law 405 = .ok (.iaload, 1) := by decide +kernel
theorem dL_law_406 : decode cL_law 406 = .ok (.invokevirtual 39, 3) := by decide +kernel
theorem dL_law_409 : decode cL_law 409 = .ok (.if_icmp .eq 1139, 3) := by decide +kernel
theorem dL_law_412 : decode cL_law 412 = .ok (.iconst 0, 1) := by decide +kernel
theorem dL_law_413 : decode cL_law 413 = .ok (.ireturn, 1) := by decide +kernel
theorem dL_law_414 : decode cL_law 414 = .ok (.aload_n 1, 1) := by decide +kernel
theorem dL_law_415 : decode cL_law 415 = .ok (.aload_n 0, 1) := by decide +kernel
theorem dL_law_416 : decode cL_law 416 = .ok (.iload_n 3, 1) := by decide +kernel
theorem dL_law_417 : decode cL_law 417 = .ok (.iconst 1, 1) := by decide +kernel
theorem dL_law_418 : decode cL_law 418 = .ok (.iadd, 1) := by decide +kernel
theorem dL_law_419 : decode cL_law 419 = .ok (.iaload, 1) := by decide +kernel
theorem dL_law_420 : decode cL_law 420 = .ok (.aload_n 0, 1) := by decide +kernel
theorem dL_law_421 : decode cL_law 421 = .ok (.iload_n 3, 1) := by decide +kernel
theorem dL_law_422 : decode cL_law 422 = .ok (.iconst 2, 1) := by decide +kernel
theorem dL_law_423 : decode cL_law 423 = .ok (.iadd, 1) := by decide +kernel
theorem dL_law_424 : decode cL_law 424 = .ok (.iaload, 1) := by decide +kernel
theorem dL_law_425 : decode cL_law 425 = .ok (.aload_n 0, 1) := by decide +kernel
theorem dL_law_426 : decode cL_law 426 = .ok (.iload_n 3, 1) := by decide +kernel
theorem dL_law_427 : decode cL_law 427 = .ok (.iconst 3, 1) := by decide +kernel
theorem dL_law_428 : decode cL_law 428 = .ok (.iadd, 1) := by decide +kernel
theorem dL_law_429 : decode cL_law 429 = .ok (.iaload, 1) := by decide +kernel
theorem dL_law_430 : decode cL_law 430 = .ok (.aload_n 0, 1) := by decide +kernel
theorem dL_law_431 : decode cL_law 431 = .ok (.iload_n 3, 1) := by decide +kernel
theorem dL_law_432 : decode cL_law 432 = .ok (.iconst 4, 1) := by decide +kernel
theorem dL_law_433 : decode cL_law 433 = .ok (.iadd, 1) := by decide +kernel
theorem dL_law_434 : decode cL_law 434 = .ok (.iaload, 1) := by decide +kernel
theorem dL_law_435 : decode cL_law 435 = .ok (.aload_n 0, 1) := by decide +kernel
theorem dL_law_436 : decode cL_law 436 = .ok (.iload_n 3, 1) := by decide +kernel
theorem dL_law_437 : decode cL_law 437 = .ok (.iconst 5, 1) := by decide +kernel
theorem dL_law_438 : decode cL_law 438 = .ok (.iadd, 1) := by decide +kernel
theorem dL_law_439 : decode cL_law 439 = .ok (.iaload, 1) := by decide +kernel
theorem dL_law_440 : decode cL_law 440 = .ok (.invokevirtual 40, 3) := by decide +kernel
theorem dL_law_443 : decode cL_law 443 = .ok (.aload_n 2, 1) := by decide +kernel
theorem dL_law_444 : decode cL_law 444 = .ok (.aload_n 0, 1) := by decide +kernel
theorem dL_law_445 : decode cL_law 445 = .ok (.iload_n 3, 1) := by decide +kernel
theorem dL_law_446 : decode cL_law 446 = .ok (.iconst 1, 1) := by decide +kernel
theorem dL_law_447 : decode cL_law 447 = .ok (.iadd, 1) := by decide +kernel
theorem dL_law_448 : decode cL_law 448 = .ok (.iaload, 1) := by decide +kernel
theorem dL_law_449 : decode cL_law 449 = .ok (.aload_n 0, 1) := by decide +kernel
theorem dL_law_450 : decode cL_law 450 = .ok (.iload_n 3, 1) := by decide +kernel
theorem dL_law_451 : decode cL_law 451 = .ok (.iconst 2, 1) := by decide +kernel
theorem dL_law_452 : decode cL_law 452 = .ok (.iadd, 1) := by decide +kernel
theorem dL_law_453 : decode cL_law 453 = .ok (.iaload, 1) := by decide +kernel
theorem dL_law_454 : decode cL_law 454 = .ok (.aload_n 0, 1) := by decide +kernel
theorem dL_law_455 : decode cL_law 455 = .ok (.iload_n 3, 1) := by decide +kernel
theorem dL_law_456 : decode cL_law 456 = .ok (.iconst 3, 1) := by decide +kernel
theorem dL_law_457 : decode cL_law 457 = .ok (.iadd, 1) := by decide +kernel
theorem dL_law_458 : decode cL_law 458 = .ok (.iaload, 1) := by decide +kernel
theorem dL_law_459 : decode cL_law 459 = .ok (.aload_n 0, 1) := by decide +kernel
theorem dL_law_460 : decode cL_law 460 = .ok (.iload_n 3, 1) := by decide +kernel
theorem dL_law_461 : decode cL_law 461 = .ok (.iconst 4, 1) := by decide +kernel
theorem dL_law_462 : decode cL_law 462 = .ok (.iadd, 1) := by decide +kernel
theorem dL_law_463 : decode cL_law 463 = .ok (.iaload, 1) := by decide +kernel
theorem dL_law_464 : decode cL_law 464 = .ok (.aload_n 0, 1) := by decide +kernel
theorem dL_law_465 : decode cL_law 465 = .ok (.iload_n 3, 1) := by decide +kernel
theorem dL_law_466 : decode cL_law 466 = .ok (.iconst 5, 1) := by decide +kernel
theorem dL_law_467 : decode cL_law 467 = .ok (.iadd, 1) := by decide +kernel
theorem dL_law_468 : decode cL_law 468 = .ok (.iaload, 1) := by decide +kernel
theorem dL_law_469 : decode cL_law 469 = .ok (.invokevirtual 44, 3) := by decide +kernel
theorem dL_law_472 : decode cL_law 472 = .ok (.if_icmp .eq 1076, 3) := by decide +kernel
theorem dL_law_475 : decode cL_law 475 = .ok (.iconst 0, 1) := by decide +kernel
theorem dL_law_476 : decode cL_law 476 = .ok (.ireturn, 1) := by decide +kernel
theorem dL_law_477 : decode cL_law 477 = .ok (.aload_n 1, 1) := by decide +kernel
theorem dL_law_478 : decode cL_law 478 = .ok (.aload_n 0, 1) := by decide +kernel
theorem dL_law_479 : decode cL_law 479 = .ok (.iload_n 3, 1) := by decide +kernel
theorem dL_law_480 : decode cL_law 480 = .ok (.iconst 1, 1) := by decide +kernel
theorem dL_law_481 : decode cL_law 481 = .ok (.iadd, 1) := by decide +kernel
theorem dL_law_482 : decode cL_law 482 = .ok (.iaload, 1) := by decide +kernel
theorem dL_law_483 : decode cL_law 483 = .ok (.invokevirtual 45, 3) := by decide +kernel
theorem dL_law_486 : decode cL_law 486 = .ok (.aload_n 2, 1) := by decide +kernel
theorem dL_law_487 : decode cL_law 487 = .ok (.aload_n 0, 1) := by decide +kernel
theorem dL_law_488 : decode cL_law 488 = .ok (.iload_n 3, 1) := by decide +kernel
theorem dL_law_489 : decode cL_law 489 = .ok (.iconst 1, 1) := by decide +kernel
theorem dL_law_490 : decode cL_law 490 = .ok (.iadd, 1) := by decide +kernel
theorem dL_law_491 : decode cL_law 491 = .ok (.iaload, 1) := by decide +kernel
theorem dL_law_492 : decode cL_law 492 = .ok (.invokevirtual 49, 3) := by decide +kernel
theorem dL_law_495 : decode cL_law 495 = .ok (.if_icmp .eq 1053, 3) := by decide +kernel
theorem dL_law_498 : decode cL_law 498 = .ok (.iconst 0, 1) := by decide +kernel
theorem dL_law_499 : decode cL_law 499 = .ok (.ireturn, 1) := by decide +kernel
theorem dL_law_500 : decode cL_law 500 = .ok (.aload_n 1, 1) := by decide +kernel
theorem dL_law_501 : decode cL_law 501 = .ok (.aload_n 0, 1) := by decide +kernel
theorem dL_law_502 : decode cL_law 502 = .ok (.iload_n 3, 1) := by decide +kernel
theorem dL_law_503 : decode cL_law 503 = .ok (.iconst 1, 1) := by decide +kernel
theorem dL_law_504 : decode cL_law 504 = .ok (.iadd, 1) := by decide +kernel
theorem dL_law_505 : decode cL_law 505 = .ok (.iaload, 1) := by decide +kernel
theorem dL_law_506 : decode cL_law 506 = .ok (.invokevirtual 50, 3) := by decide +kernel
theorem dL_law_509 : decode cL_law 509 = .ok (.aload_n 2, 1) := by decide +kernel
theorem dL_law_510 : decode cL_law 510 = .ok (.aload_n 0, 1) := by decide +kernel
theorem dL_law_511 : decode cL_law 511 = .ok (.iload_n 3, 1) := by decide +kernel
theorem dL_law_512 : decode cL_law 512 = .ok (.iconst 1, 1) := by decide +kernel
theorem dL_law_513 : decode cL_law 513 = .ok (.iadd, 1) := by decide +kernel
theorem dL_law_514 : decode cL_law 514 = .ok (.iaload, 1) := by decide +kernel
theorem dL_law_515 : decode cL_law 515 = .ok (.invokevirtual 53, 3) := by decide +kernel
theorem dL_law_518 : decode cL_law 518 = .ok (.if_icmp .eq 1030, 3) := by decide +kernel
theorem dL_law_521 : decode cL_law 521 = .ok (.iconst 0, 1) := by decide +kernel
theorem dL_law_522 : decode cL_law 522 = .ok (.ireturn, 1) := by decide +kernel
theorem dL_law_523 : decode cL_law 523 = .ok (.aload_n 1, 1) := by decide +kernel
theorem dL_law_524 : decode cL_law 524 = .ok (.aload_n 0, 1) := by decide +kernel
theorem dL_law_525 : decode cL_law 525 = .ok (.iload_n 3, 1) := by decide +kernel
theorem dL_law_526 : decode cL_law 526 = .ok (.iconst 1, 1) := by decide +kernel
theorem dL_law_527 : decode cL_law 527 = .ok (.iadd, 1) := by decide +kernel
theorem dL_law_528 : decode cL_law 528 = .ok (.iaload, 1) := by decide +kernel
theorem dL_law_529 : decode cL_law 529 = .ok (.invokevirtual 54, 3) := by decide +kernel
theorem dL_law_532 : decode cL_law 532 = .ok (.aload_n 2, 1) := by decide +kernel
theorem dL_law_533 : decode cL_law 533 = .ok (.aload_n 0, 1) := by decide +kernel
theorem dL_law_534 : decode cL_law 534 = .ok (.iload_n 3, 1) := by decide +kernel
theorem dL_law_535 : decode cL_law 535 = .ok (.iconst 1, 1) := by decide +kernel
theorem dL_law_536 : decode cL_law 536 = .ok (.iadd, 1) := by decide +kernel
theorem dL_law_537 : decode cL_law 537 = .ok (.iaload, 1) := by decide +kernel
theorem dL_law_538 : decode cL_law 538 = .ok (.invokevirtual 57, 3) := by decide +kernel
theorem dL_law_541 : decode cL_law 541 = .ok (.if_icmp .eq 1007, 3) := by decide +kernel
theorem dL_law_544 : decode cL_law 544 = .ok (.iconst 0, 1) := by decide +kernel
theorem dL_law_545 : decode cL_law 545 = .ok (.ireturn, 1) := by decide +kernel
theorem dL_law_546 : decode cL_law 546 = .ok (.aload_n 1, 1) := by decide +kernel
theorem dL_law_547 : decode cL_law 547 = .ok (.aload_n 0, 1) := by decide +kernel
theorem dL_law_548 : decode cL_law 548 = .ok (.iload_n 3, 1) := by decide +kernel
theorem dL_law_549 : decode cL_law 549 = .ok (.iconst 1, 1) := by decide +kernel
theorem dL_law_550 : decode cL_law 550 = .ok (.iadd, 1) := by decide +kernel
theorem dL_law_551 : decode cL_law 551 = .ok (.iaload, 1) := by decide +kernel
theorem dL_law_552 : decode cL_law 552 = .ok (.aload_n 0, 1) := by decide +kernel
theorem dL_law_553 : decode cL_law 553 = .ok (.iload_n 3, 1) := by decide +kernel
theorem dL_law_554 : decode cL_law 554 = .ok (.iconst 2, 1) := by decide +kernel
theorem dL_law_555 : decode cL_law 555 = .ok (.iadd, 1) := by decide +kernel
theorem dL_law_556 : decode cL_law 556 = .ok (.iaload, 1) := by decide +kernel
theorem dL_law_557 : decode cL_law 557 = .ok (.invokevirtual 58, 3) := by decide +kernel
theorem dL_law_560 : decode cL_law 560 = .ok (.aload_n 2, 1) := by decide +kernel
theorem dL_law_561 : decode cL_law 561 = .ok (.aload_n 0, 1) := by decide +kernel
theorem dL_law_562 : decode cL_law 562 = .ok (.iload_n 3, 1) := by decide +kernel
theorem dL_law_563 : decode cL_law 563 = .ok (.iconst 1, 1) := by decide +kernel
theorem dL_law_564 : decode cL_law 564 = .ok (.iadd, 1) := by decide +kernel
theorem dL_law_565 : decode cL_law 565 = .ok (.iaload, 1) := by decide +kernel
theorem dL_law_566 : decode cL_law 566 = .ok (.aload_n 0, 1) := by decide +kernel
theorem dL_law_567 : decode cL_law 567 = .ok (.iload_n 3, 1) := by decide +kernel
theorem dL_law_568 : decode cL_law 568 = .ok (.iconst 2, 1) := by decide +kernel
theorem dL_law_569 : decode cL_law 569 = .ok (.iadd, 1) := by decide +kernel
theorem dL_law_570 : decode cL_law 570 = .ok (.iaload, 1) := by decide +kernel
theorem dL_law_571 : decode cL_law 571 = .ok (.invokevirtual 61, 3) := by decide +kernel
theorem dL_law_574 : decode cL_law 574 = .ok (.if_icmp .eq 974, 3) := by decide +kernel
theorem dL_law_577 : decode cL_law 577 = .ok (.iconst 0, 1) := by decide +kernel
theorem dL_law_578 : decode cL_law 578 = .ok (.ireturn, 1) := by decide +kernel
theorem dL_law_579 : decode cL_law 579 = .ok (.aload_n 1, 1) := by decide +kernel
theorem dL_law_580 : decode cL_law 580 = .ok (.aload_n 0, 1) := by decide +kernel
theorem dL_law_581 : decode cL_law 581 = .ok (.iload_n 3, 1) := by decide +kernel
theorem dL_law_582 : decode cL_law 582 = .ok (.iconst 1, 1) := by decide +kernel
theorem dL_law_583 : decode cL_law 583 = .ok (.iadd, 1) := by decide +kernel
theorem dL_law_584 : decode cL_law 584 = .ok (.iaload, 1) := by decide +kernel
theorem dL_law_585 : decode cL_law 585 = .ok (.aload_n 0, 1) := by decide +kernel
theorem dL_law_586 : decode cL_law 586 = .ok (.iload_n 3, 1) := by decide +kernel
theorem dL_law_587 : decode cL_law 587 = .ok (.iconst 2, 1) := by decide +kernel
theorem dL_law_588 : decode cL_law 588 = .ok (.iadd, 1) := by decide +kernel
theorem dL_law_589 : decode cL_law 589 = .ok (.iaload, 1) := by decide +kernel
theorem dL_law_590 : decode cL_law 590 = .ok (.invokevirtual 62, 3) := by decide +kernel
theorem dL_law_593 : decode cL_law 593 = .ok (.aload_n 2, 1) := by decide +kernel
theorem dL_law_594 : decode cL_law 594 = .ok (.aload_n 0, 1) := by decide +kernel
theorem dL_law_595 : decode cL_law 595 = .ok (.iload_n 3, 1) := by decide +kernel
theorem dL_law_596 : decode cL_law 596 = .ok (.iconst 1, 1) := by decide +kernel
theorem dL_law_597 : decode cL_law 597 = .ok (.iadd, 1) := by decide +kernel
theorem dL_law_598 : decode cL_law 598 = .ok (.iaload, 1) := by decide +kernel
theorem dL_law_599 : decode cL_law 599 = .ok (.aload_n 0, 1) := by decide +kernel
theorem dL_law_600 : decode cL_law 600 = .ok (.iload_n 3, 1) := by decide +kernel
theorem dL_law_601 : decode cL_law 601 = .ok (.iconst 2, 1) := by decide +kernel
theorem dL_law_602 : decode cL_law 602 = .ok (.iadd, 1) := by decide +kernel
theorem dL_law_603 : decode cL_law 603 = .ok (.iaload, 1) := by decide +kernel
theorem dL_law_604 : decode cL_law 604 = .ok (.invokevirtual 65, 3) := by decide +kernel
theorem dL_law_607 : decode cL_law 607 = .ok (.if_icmp .eq 941, 3) := by decide +kernel
theorem dL_law_610 : decode cL_law 610 = .ok (.iconst 0, 1) := by decide +kernel
theorem dL_law_611 : decode cL_law 611 = .ok (.ireturn, 1) := by decide +kernel
theorem dL_law_612 : decode cL_law 612 = .ok (.aload_n 1, 1) := by decide +kernel
theorem dL_law_613 : decode cL_law 613 = .ok (.aload_n 0, 1) := by decide +kernel
theorem dL_law_614 : decode cL_law 614 = .ok (.iload_n 3, 1) := by decide +kernel
theorem dL_law_615 : decode cL_law 615 = .ok (.iconst 1, 1) := by decide +kernel
theorem dL_law_616 : decode cL_law 616 = .ok (.iadd, 1) := by decide +kernel
theorem dL_law_617 : decode cL_law 617 = .ok (.iaload, 1) := by decide +kernel
theorem dL_law_618 : decode cL_law 618 = .ok (.aload_n 0, 1) := by decide +kernel
theorem dL_law_619 : decode cL_law 619 = .ok (.iload_n 3, 1) := by decide +kernel
theorem dL_law_620 : decode cL_law 620 = .ok (.iconst 2, 1) := by decide +kernel
theorem dL_law_621 : decode cL_law 621 = .ok (.iadd, 1) := by decide +kernel
theorem dL_law_622 : decode cL_law 622 = .ok (.iaload, 1) := by decide +kernel
theorem dL_law_623 : decode cL_law 623 = .ok (.invokevirtual 66, 3) := by decide +kernel
theorem dL_law_626 : decode cL_law 626 = .ok (.aload_n 2, 1) := by decide +kernel
theorem dL_law_627 : decode cL_law 627 = .ok (.aload_n 0, 1) := by decide +kernel
theorem dL_law_628 : decode cL_law 628 = .ok (.iload_n 3, 1) := by decide +kernel
theorem dL_law_629 : decode cL_law 629 = .ok (.iconst 1, 1) := by decide +kernel
theorem dL_law_630 : decode cL_law 630 = .ok (.iadd, 1) := by decide +kernel
theorem dL_law_631 : decode cL_law 631 = .ok (.iaload, 1) := by decide +kernel
theorem dL_law_632 : decode cL_law 632 = .ok (.aload_n 0, 1) := by decide +kernel
theorem dL_law_633 : decode cL_law 633 = .ok (.iload_n 3, 1) := by decide +kernel
theorem dL_law_634 : decode cL_law 634 = .ok (.iconst 2, 1) := by decide +kernel
theorem dL_law_635 : decode cL_law 635 = .ok (.iadd, 1) := by decide +kernel
theorem dL_law_636 : decode cL_law 636 = .ok (.iaload, 1) := by decide +kernel
theorem dL_law_637 : decode cL_law 637 = .ok (.invokevirtual 69, 3) := by decide +kernel
theorem dL_law_640 : decode cL_law 640 = .ok (.if_icmp .eq 908, 3) := by decide +kernel
theorem dL_law_643 : decode cL_law 643 = .ok (.iconst 0, 1) := by decide +kernel
theorem dL_law_644 : decode cL_law 644 = .ok (.ireturn, 1) := by decide +kernel
theorem dL_law_645 : decode cL_law 645 = .ok (.aload_n 1, 1) := by decide +kernel
theorem dL_law_646 : decode cL_law 646 = .ok (.aload_n 0, 1) := by decide +kernel
theorem dL_law_647 : decode cL_law 647 = .ok (.iload_n 3, 1) := by decide +kernel
theorem dL_law_648 : decode cL_law 648 = .ok (.iconst 1, 1) := by decide +kernel
theorem dL_law_649 : decode cL_law 649 = .ok (.iadd, 1) := by decide +kernel
theorem dL_law_650 : decode cL_law 650 = .ok (.iaload, 1) := by decide +kernel
theorem dL_law_651 : decode cL_law 651 = .ok (.aload_n 0, 1) := by decide +kernel
theorem dL_law_652 : decode cL_law 652 = .ok (.iload_n 3, 1) := by decide +kernel
theorem dL_law_653 : decode cL_law 653 = .ok (.iconst 2, 1) := by decide +kernel
theorem dL_law_654 : decode cL_law 654 = .ok (.iadd, 1) := by decide +kernel
theorem dL_law_655 : decode cL_law 655 = .ok (.iaload, 1) := by decide +kernel
theorem dL_law_656 : decode cL_law 656 = .ok (.invokevirtual 70, 3) := by decide +kernel
theorem dL_law_659 : decode cL_law 659 = .ok (.aload_n 2, 1) := by decide +kernel
theorem dL_law_660 : decode cL_law 660 = .ok (.aload_n 0, 1) := by decide +kernel
theorem dL_law_661 : decode cL_law 661 = .ok (.iload_n 3, 1) := by decide +kernel
theorem dL_law_662 : decode cL_law 662 = .ok (.iconst 1, 1) := by decide +kernel
theorem dL_law_663 : decode cL_law 663 = .ok (.iadd, 1) := by decide +kernel
theorem dL_law_664 : decode cL_law 664 = .ok (.iaload, 1) := by decide +kernel
theorem dL_law_665 : decode cL_law 665 = .ok (.aload_n 0, 1) := by decide +kernel
theorem dL_law_666 : decode cL_law 666 = .ok (.iload_n 3, 1) := by decide +kernel
theorem dL_law_667 : decode cL_law 667 = .ok (.iconst 2, 1) := by decide +kernel
theorem dL_law_668 : decode cL_law 668 = .ok (.iadd, 1) := by decide +kernel
theorem dL_law_669 : decode cL_law 669 = .ok (.iaload, 1) := by decide +kernel
theorem dL_law_670 : decode cL_law 670 = .ok (.invokevirtual 73, 3) := by decide +kernel
theorem dL_law_673 : decode cL_law 673 = .ok (.if_icmp .eq 875, 3) := by decide +kernel
theorem dL_law_676 : decode cL_law 676 = .ok (.iconst 0, 1) := by decide +kernel
theorem dL_law_677 : decode cL_law 677 = .ok (.ireturn, 1) := by decide +kernel
theorem dL_law_678 : decode cL_law 678 = .ok (.aload_n 1, 1) := by decide +kernel
theorem dL_law_679 : decode cL_law 679 = .ok (.aload_n 0, 1) := by decide +kernel
theorem dL_law_680 : decode cL_law 680 = .ok (.iload_n 3, 1) := by decide +kernel
theorem dL_law_681 : decode cL_law 681 = .ok (.iconst 1, 1) := by decide +kernel
theorem dL_law_682 : decode cL_law 682 = .ok (.iadd, 1) := by decide +kernel
theorem dL_law_683 : decode cL_law 683 = .ok (.iaload, 1) := by decide +kernel
theorem dL_law_684 : decode cL_law 684 = .ok (.aload_n 0, 1) := by decide +kernel
theorem dL_law_685 : decode cL_law 685 = .ok (.iload_n 3, 1) := by decide +kernel
theorem dL_law_686 : decode cL_law 686 = .ok (.iconst 2, 1) := by decide +kernel
theorem dL_law_687 : decode cL_law 687 = .ok (.iadd, 1) := by decide +kernel
theorem dL_law_688 : decode cL_law 688 = .ok (.iaload, 1) := by decide +kernel
theorem dL_law_689 : decode cL_law 689 = .ok (.invokevirtual 74, 3) := by decide +kernel
theorem dL_law_692 : decode cL_law 692 = .ok (.aload_n 2, 1) := by decide +kernel
theorem dL_law_693 : decode cL_law 693 = .ok (.aload_n 0, 1) := by decide +kernel
theorem dL_law_694 : decode cL_law 694 = .ok (.iload_n 3, 1) := by decide +kernel
theorem dL_law_695 : decode cL_law 695 = .ok (.iconst 1, 1) := by decide +kernel
theorem dL_law_696 : decode cL_law 696 = .ok (.iadd, 1) := by decide +kernel
theorem dL_law_697 : decode cL_law 697 = .ok (.iaload, 1) := by decide +kernel
theorem dL_law_698 : decode cL_law 698 = .ok (.aload_n 0, 1) := by decide +kernel
theorem dL_law_699 : decode cL_law 699 = .ok (.iload_n 3, 1) := by decide +kernel
theorem dL_law_700 : decode cL_law 700 = .ok (.iconst 2, 1) := by decide +kernel
theorem dL_law_701 : decode cL_law 701 = .ok (.iadd, 1) := by decide +kernel
theorem dL_law_702 : decode cL_law 702 = .ok (.iaload, 1) := by decide +kernel
theorem dL_law_703 : decode cL_law 703 = .ok (.invokevirtual 77, 3) := by decide +kernel
theorem dL_law_706 : decode cL_law 706 = .ok (.if_icmp .eq 842, 3) := by decide +kernel
theorem dL_law_709 : decode cL_law 709 = .ok (.iconst 0, 1) := by decide +kernel
theorem dL_law_710 : decode cL_law 710 = .ok (.ireturn, 1) := by decide +kernel
theorem dL_law_711 : decode cL_law 711 = .ok (.aload_n 1, 1) := by decide +kernel
theorem dL_law_712 : decode cL_law 712 = .ok (.aload_n 0, 1) := by decide +kernel
theorem dL_law_713 : decode cL_law 713 = .ok (.iload_n 3, 1) := by decide +kernel
theorem dL_law_714 : decode cL_law 714 = .ok (.iconst 1, 1) := by decide +kernel
theorem dL_law_715 : decode cL_law 715 = .ok (.iadd, 1) := by decide +kernel
theorem dL_law_716 : decode cL_law 716 = .ok (.iaload, 1) := by decide +kernel
theorem dL_law_717 : decode cL_law 717 = .ok (.invokevirtual 78, 3) := by decide +kernel
theorem dL_law_720 : decode cL_law 720 = .ok (.aload_n 2, 1) := by decide +kernel
theorem dL_law_721 : decode cL_law 721 = .ok (.aload_n 0, 1) := by decide +kernel
theorem dL_law_722 : decode cL_law 722 = .ok (.iload_n 3, 1) := by decide +kernel
theorem dL_law_723 : decode cL_law 723 = .ok (.iconst 1, 1) := by decide +kernel
theorem dL_law_724 : decode cL_law 724 = .ok (.iadd, 1) := by decide +kernel
theorem dL_law_725 : decode cL_law 725 = .ok (.iaload, 1) := by decide +kernel
theorem dL_law_726 : decode cL_law 726 = .ok (.invokevirtual 81, 3) := by decide +kernel
theorem dL_law_729 : decode cL_law 729 = .ok (.if_icmp .eq 819, 3) := by decide +kernel
theorem dL_law_732 : decode cL_law 732 = .ok (.iconst 0, 1) := by decide +kernel
theorem dL_law_733 : decode cL_law 733 = .ok (.ireturn, 1) := by decide +kernel
theorem dL_law_734 : decode cL_law 734 = .ok (.aload_n 1, 1) := by decide +kernel
theorem dL_law_735 : decode cL_law 735 = .ok (.aload_n 0, 1) := by decide +kernel
theorem dL_law_736 : decode cL_law 736 = .ok (.iload_n 3, 1) := by decide +kernel
theorem dL_law_737 : decode cL_law 737 = .ok (.iconst 1, 1) := by decide +kernel
theorem dL_law_738 : decode cL_law 738 = .ok (.iadd, 1) := by decide +kernel
theorem dL_law_739 : decode cL_law 739 = .ok (.iaload, 1) := by decide +kernel
theorem dL_law_740 : decode cL_law 740 = .ok (.aload_n 0, 1) := by decide +kernel
theorem dL_law_741 : decode cL_law 741 = .ok (.iload_n 3, 1) := by decide +kernel
theorem dL_law_742 : decode cL_law 742 = .ok (.iconst 2, 1) := by decide +kernel
theorem dL_law_743 : decode cL_law 743 = .ok (.iadd, 1) := by decide +kernel
theorem dL_law_744 : decode cL_law 744 = .ok (.iaload, 1) := by decide +kernel
theorem dL_law_745 : decode cL_law 745 = .ok (.aload_n 0, 1) := by decide +kernel
theorem dL_law_746 : decode cL_law 746 = .ok (.iload_n 3, 1) := by decide +kernel
theorem dL_law_747 : decode cL_law 747 = .ok (.iconst 3, 1) := by decide +kernel
theorem dL_law_748 : decode cL_law 748 = .ok (.iadd, 1) := by decide +kernel
theorem dL_law_749 : decode cL_law 749 = .ok (.iaload, 1) := by decide +kernel
theorem dL_law_750 : decode cL_law 750 = .ok (.invokevirtual 82, 3) := by decide +kernel
theorem dL_law_753 : decode cL_law 753 = .ok (.aload_n 2, 1) := by decide +kernel
theorem dL_law_754 : decode cL_law 754 = .ok (.aload_n 0, 1) := by decide +kernel
theorem dL_law_755 : decode cL_law 755 = .ok (.iload_n 3, 1) := by decide +kernel
theorem dL_law_756 : decode cL_law 756 = .ok (.iconst 1, 1) := by decide +kernel
theorem dL_law_757 : decode cL_law 757 = .ok (.iadd, 1) := by decide +kernel
theorem dL_law_758 : decode cL_law 758 = .ok (.iaload, 1) := by decide +kernel
theorem dL_law_759 : decode cL_law 759 = .ok (.aload_n 0, 1) := by decide +kernel
theorem dL_law_760 : decode cL_law 760 = .ok (.iload_n 3, 1) := by decide +kernel
theorem dL_law_761 : decode cL_law 761 = .ok (.iconst 2, 1) := by decide +kernel
theorem dL_law_762 : decode cL_law 762 = .ok (.iadd, 1) := by decide +kernel
theorem dL_law_763 : decode cL_law 763 = .ok (.iaload, 1) := by decide +kernel
theorem dL_law_764 : decode cL_law 764 = .ok (.aload_n 0, 1) := by decide +kernel
theorem dL_law_765 : decode cL_law 765 = .ok (.iload_n 3, 1) := by decide +kernel
theorem dL_law_766 : decode cL_law 766 = .ok (.iconst 3, 1) := by decide +kernel
theorem dL_law_767 : decode cL_law 767 = .ok (.iadd, 1) := by decide +kernel
theorem dL_law_768 : decode cL_law 768 = .ok (.iaload, 1) := by decide +kernel
theorem dL_law_769 : decode cL_law 769 = .ok (.invokevirtual 85, 3) := by decide +kernel
theorem dL_law_772 : decode cL_law 772 = .ok (.if_icmp .eq 776, 3) := by decide +kernel
theorem dL_law_775 : decode cL_law 775 = .ok (.iconst 0, 1) := by decide +kernel
theorem dL_law_776 : decode cL_law 776 = .ok (.ireturn, 1) := by decide +kernel
theorem dL_law_777 : decode cL_law 777 = .ok (.aload_n 1, 1) := by decide +kernel
theorem dL_law_778 : decode cL_law 778 = .ok (.aload_n 0, 1) := by decide +kernel
theorem dL_law_779 : decode cL_law 779 = .ok (.iload_n 3, 1) := by decide +kernel
theorem dL_law_780 : decode cL_law 780 = .ok (.iconst 1, 1) := by decide +kernel
theorem dL_law_781 : decode cL_law 781 = .ok (.iadd, 1) := by decide +kernel
theorem dL_law_782 : decode cL_law 782 = .ok (.iaload, 1) := by decide +kernel
theorem dL_law_783 : decode cL_law 783 = .ok (.aload_n 0, 1) := by decide +kernel
theorem dL_law_784 : decode cL_law 784 = .ok (.iload_n 3, 1) := by decide +kernel
theorem dL_law_785 : decode cL_law 785 = .ok (.iconst 2, 1) := by decide +kernel
theorem dL_law_786 : decode cL_law 786 = .ok (.iadd, 1) := by decide +kernel
theorem dL_law_787 : decode cL_law 787 = .ok (.iaload, 1) := by decide +kernel
theorem dL_law_788 : decode cL_law 788 = .ok (.aload_n 0, 1) := by decide +kernel
theorem dL_law_789 : decode cL_law 789 = .ok (.iload_n 3, 1) := by decide +kernel
theorem dL_law_790 : decode cL_law 790 = .ok (.iconst 3, 1) := by decide +kernel
theorem dL_law_791 : decode cL_law 791 = .ok (.iadd, 1) := by decide +kernel
theorem dL_law_792 : decode cL_law 792 = .ok (.iaload, 1) := by decide +kernel
theorem dL_law_793 : decode cL_law 793 = .ok (.invokevirtual 86, 3) := by decide +kernel
theorem dL_law_796 : decode cL_law 796 = .ok (.aload_n 2, 1) := by decide +kernel
theorem dL_law_797 : decode cL_law 797 = .ok (.aload_n 0, 1) := by decide +kernel
theorem dL_law_798 : decode cL_law 798 = .ok (.iload_n 3, 1) := by decide +kernel
theorem dL_law_799 : decode cL_law 799 = .ok (.iconst 1, 1) := by decide +kernel
theorem dL_law_800 : decode cL_law 800 = .ok (.iadd, 1) := by decide +kernel
theorem dL_law_801 : decode cL_law 801 = .ok (.iaload, 1) := by decide +kernel
theorem dL_law_802 : decode cL_law 802 = .ok (.aload_n 0, 1) := by decide +kernel
theorem dL_law_803 : decode cL_law 803 = .ok (.iload_n 3, 1) := by decide +kernel
theorem dL_law_804 : decode cL_law 804 = .ok (.iconst 2, 1) := by decide +kernel
theorem dL_law_805 : decode cL_law 805 = .ok (.iadd, 1) := by decide +kernel
theorem dL_law_806 : decode cL_law 806 = .ok (.iaload, 1) := by decide +kernel
theorem dL_law_807 : decode cL_law 807 = .ok (.aload_n 0, 1) := by decide +kernel
theorem dL_law_808 : decode cL_law 808 = .ok (.iload_n 3, 1) := by decide +kernel
theorem dL_law_809 : decode cL_law 809 = .ok (.iconst 3, 1) := by decide +kernel
theorem dL_law_810 : decode cL_law 810 = .ok (.iadd, 1) := by decide +kernel
theorem dL_law_811 : decode cL_law 811 = .ok (.iaload, 1) := by decide +kernel
theorem dL_law_812 : decode cL_law 812 = .ok (.invokevirtual 90, 3) := by decide +kernel
theorem dL_law_815 : decode cL_law 815 = .ok (.if_icmp .eq 733, 3) := by decide +kernel
theorem dL_law_818 : decode cL_law 818 = .ok (.iconst 0, 1) := by decide +kernel
theorem dL_law_819 : decode cL_law 819 = .ok (.ireturn, 1) := by decide +kernel
theorem dL_law_820 : decode cL_law 820 = .ok (.aload_n 1, 1) := by decide +kernel
theorem dL_law_821 : decode cL_law 821 = .ok (.aload_n 0, 1) := by decide +kernel
theorem dL_law_822 : decode cL_law 822 = .ok (.iload_n 3, 1) := by decide +kernel
theorem dL_law_823 : decode cL_law 823 = .ok (.iconst 1, 1) := by decide +kernel
theorem dL_law_824 : decode cL_law 824 = .ok (.iadd, 1) := by decide +kernel
theorem dL_law_825 : decode cL_law 825 = .ok (.iaload, 1) := by decide +kernel
theorem dL_law_826 : decode cL_law 826 = .ok (.aload_n 0, 1) := by decide +kernel
theorem dL_law_827 : decode cL_law 827 = .ok (.iload_n 3, 1) := by decide +kernel
theorem dL_law_828 : decode cL_law 828 = .ok (.iconst 2, 1) := by decide +kernel
theorem dL_law_829 : decode cL_law 829 = .ok (.iadd, 1) := by decide +kernel
theorem dL_law_830 : decode cL_law 830 = .ok (.iaload, 1) := by decide +kernel
theorem dL_law_831 : decode cL_law 831 = .ok (.invokevirtual 91, 3) := by decide +kernel
theorem dL_law_834 : decode cL_law 834 = .ok (.aload_n 2, 1) := by decide +kernel
theorem dL_law_835 : decode cL_law 835 = .ok (.aload_n 0, 1) := by decide +kernel
theorem dL_law_836 : decode cL_law 836 = .ok (.iload_n 3, 1) := by decide +kernel
theorem dL_law_837 : decode cL_law 837 = .ok (.iconst 1, 1) := by decide +kernel
theorem dL_law_838 : decode cL_law 838 = .ok (.iadd, 1) := by decide +kernel
theorem dL_law_839 : decode cL_law 839 = .ok (.iaload, 1) := by decide +kernel
theorem dL_law_840 : decode cL_law 840 = .ok (.aload_n 0, 1) := by decide +kernel
theorem dL_law_841 : decode cL_law 841 = .ok (.iload_n 3, 1) := by decide +kernel
theorem dL_law_842 : decode cL_law 842 = .ok (.iconst 2, 1) := by decide +kernel
theorem dL_law_843 : decode cL_law 843 = .ok (.iadd, 1) := by decide +kernel
theorem dL_law_844 : decode cL_law 844 = .ok (.iaload, 1) := by decide +kernel
theorem dL_law_845 : decode cL_law 845 = .ok (.invokevirtual 94, 3) := by decide +kernel
theorem dL_law_848 : decode cL_law 848 = .ok (.if_icmp .eq 700, 3) := by decide +kernel
theorem dL_law_851 : decode cL_law 851 = .ok (.iconst 0, 1) := by decide +kernel
theorem dL_law_852 : decode cL_law 852 = .ok (.ireturn, 1) := by decide +kernel
theorem dL_law_853 : decode cL_law 853 = .ok (.aload_n 1, 1) := by decide +kernel
theorem dL_law_854 : decode cL_law 854 = .ok (.aload_n 0, 1) := by decide +kernel
theorem dL_law_855 : decode cL_law 855 = .ok (.iload_n 3, 1) := by decide +kernel
theorem dL_law_856 : decode cL_law 856 = .ok (.iconst 1, 1) := by decide +kernel
theorem dL_law_857 : decode cL_law 857 = .ok (.iadd, 1) := by decide +kernel
theorem dL_law_858 : decode cL_law 858 = .ok (.iaload, 1) := by decide +kernel
theorem dL_law_859 : decode cL_law 859 = .ok (.invokevirtual 95, 3) := by decide +kernel
theorem dL_law_862 : decode cL_law 862 = .ok (.aload_n 2, 1) := by decide +kernel
theorem dL_law_863 : decode cL_law 863 = .ok (.aload_n 0, 1) := by decide +kernel
theorem dL_law_864 : decode cL_law 864 = .ok (.iload_n 3, 1) := by decide +kernel
theorem dL_law_865 : decode cL_law 865 = .ok (.iconst 1, 1) := by decide +kernel
theorem dL_law_866 : decode cL_law 866 = .ok (.iadd, 1) := by decide +kernel
theorem dL_law_867 : decode cL_law 867 = .ok (.iaload, 1) := by decide +kernel
theorem dL_law_868 : decode cL_law 868 = .ok (.invokevirtual 98, 3) := by decide +kernel
theorem dL_law_871 : decode cL_law 871 = .ok (.if_icmp .eq 677, 3) := by decide +kernel
theorem dL_law_874 : decode cL_law 874 = .ok (.iconst 0, 1) := by decide +kernel
theorem dL_law_875 : decode cL_law 875 = .ok (.ireturn, 1) := by decide +kernel
theorem dL_law_876 : decode cL_law 876 = .ok (.aload_n 1, 1) := by decide +kernel
theorem dL_law_877 : decode cL_law 877 = .ok (.aload_n 0, 1) := by decide +kernel
theorem dL_law_878 : decode cL_law 878 = .ok (.iload_n 3, 1) := by decide +kernel
theorem dL_law_879 : decode cL_law 879 = .ok (.iconst 1, 1) := by decide +kernel
theorem dL_law_880 : decode cL_law 880 = .ok (.iadd, 1) := by decide +kernel
theorem dL_law_881 : decode cL_law 881 = .ok (.iaload, 1) := by decide +kernel
theorem dL_law_882 : decode cL_law 882 = .ok (.aload_n 0, 1) := by decide +kernel
theorem dL_law_883 : decode cL_law 883 = .ok (.iload_n 3, 1) := by decide +kernel
theorem dL_law_884 : decode cL_law 884 = .ok (.iconst 2, 1) := by decide +kernel
theorem dL_law_885 : decode cL_law 885 = .ok (.iadd, 1) := by decide +kernel
theorem dL_law_886 : decode cL_law 886 = .ok (.iaload, 1) := by decide +kernel
theorem dL_law_887 : decode cL_law 887 = .ok (.aload_n 0, 1) := by decide +kernel
theorem dL_law_888 : decode cL_law 888 = .ok (.iload_n 3, 1) := by decide +kernel
theorem dL_law_889 : decode cL_law 889 = .ok (.iconst 3, 1) := by decide +kernel
theorem dL_law_890 : decode cL_law 890 = .ok (.iadd, 1) := by decide +kernel
theorem dL_law_891 : decode cL_law 891 = .ok (.iaload, 1) := by decide +kernel
theorem dL_law_892 : decode cL_law 892 = .ok (.invokevirtual 99, 3) := by decide +kernel
theorem dL_law_895 : decode cL_law 895 = .ok (.aload_n 2, 1) := by decide +kernel
theorem dL_law_896 : decode cL_law 896 = .ok (.aload_n 0, 1) := by decide +kernel
theorem dL_law_897 : decode cL_law 897 = .ok (.iload_n 3, 1) := by decide +kernel
theorem dL_law_898 : decode cL_law 898 = .ok (.iconst 1, 1) := by decide +kernel
theorem dL_law_899 : decode cL_law 899 = .ok (.iadd, 1) := by decide +kernel
theorem dL_law_900 : decode cL_law 900 = .ok (.iaload, 1) := by decide +kernel
theorem dL_law_901 : decode cL_law 901 = .ok (.aload_n 0, 1) := by decide +kernel
theorem dL_law_902 : decode cL_law 902 = .ok (.iload_n 3, 1) := by decide +kernel
theorem dL_law_903 : decode cL_law 903 = .ok (.iconst 2, 1) := by decide +kernel
theorem dL_law_904 : decode cL_law 904 = .ok (.iadd, 1) := by decide +kernel
theorem dL_law_905 : decode cL_law 905 = .ok (.iaload, 1) := by decide +kernel
theorem dL_law_906 : decode cL_law 906 = .ok (.aload_n 0, 1) := by decide +kernel
theorem dL_law_907 : decode cL_law 907 = .ok (.iload_n 3, 1) := by decide +kernel
theorem dL_law_908 : decode cL_law 908 = .ok (.iconst 3, 1) := by decide +kernel
theorem dL_law_909 : decode cL_law 909 = .ok (.iadd, 1) := by decide +kernel
theorem dL_law_910 : decode cL_law 910 = .ok (.iaload, 1) := by decide +kernel
theorem dL_law_911 : decode cL_law 911 = .ok (.invokevirtual 102, 3) := by decide +kernel
theorem dL_law_914 : decode cL_law 914 = .ok (.if_icmp .eq 634, 3) := by decide +kernel
theorem dL_law_917 : decode cL_law 917 = .ok (.iconst 0, 1) := by decide +kernel
theorem dL_law_918 : decode cL_law 918 = .ok (.ireturn, 1) := by decide +kernel
theorem dL_law_919 : decode cL_law 919 = .ok (.aload_n 1, 1) := by decide +kernel
theorem dL_law_920 : decode cL_law 920 = .ok (.aload_n 0, 1) := by decide +kernel
theorem dL_law_921 : decode cL_law 921 = .ok (.iload_n 3, 1) := by decide +kernel
theorem dL_law_922 : decode cL_law 922 = .ok (.iconst 1, 1) := by decide +kernel
theorem dL_law_923 : decode cL_law 923 = .ok (.iadd, 1) := by decide +kernel
theorem dL_law_924 : decode cL_law 924 = .ok (.iaload, 1) := by decide +kernel
theorem dL_law_925 : decode cL_law 925 = .ok (.aload_n 0, 1) := by decide +kernel
theorem dL_law_926 : decode cL_law 926 = .ok (.iload_n 3, 1) := by decide +kernel
theorem dL_law_927 : decode cL_law 927 = .ok (.iconst 2, 1) := by decide +kernel
theorem dL_law_928 : decode cL_law 928 = .ok (.iadd, 1) := by decide +kernel
theorem dL_law_929 : decode cL_law 929 = .ok (.iaload, 1) := by decide +kernel
theorem dL_law_930 : decode cL_law 930 = .ok (.aload_n 0, 1) := by decide +kernel
theorem dL_law_931 : decode cL_law 931 = .ok (.iload_n 3, 1) := by decide +kernel
theorem dL_law_932 : decode cL_law 932 = .ok (.iconst 3, 1) := by decide +kernel
theorem dL_law_933 : decode cL_law 933 = .ok (.iadd, 1) := by decide +kernel
theorem dL_law_934 : decode cL_law 934 = .ok (.iaload, 1) := by decide +kernel
theorem dL_law_935 : decode cL_law 935 = .ok (.invokevirtual 103, 3) := by decide +kernel
theorem dL_law_938 : decode cL_law 938 = .ok (.aload_n 2, 1) := by decide +kernel
theorem dL_law_939 : decode cL_law 939 = .ok (.aload_n 0, 1) := by decide +kernel
theorem dL_law_940 : decode cL_law 940 = .ok (.iload_n 3, 1) := by decide +kernel
theorem dL_law_941 : decode cL_law 941 = .ok (.iconst 1, 1) := by decide +kernel
theorem dL_law_942 : decode cL_law 942 = .ok (.iadd, 1) := by decide +kernel
theorem dL_law_943 : decode cL_law 943 = .ok (.iaload, 1) := by decide +kernel
theorem dL_law_944 : decode cL_law 944 = .ok (.aload_n 0, 1) := by decide +kernel
theorem dL_law_945 : decode cL_law 945 = .ok (.iload_n 3, 1) := by decide +kernel
theorem dL_law_946 : decode cL_law 946 = .ok (.iconst 2, 1) := by decide +kernel
theorem dL_law_947 : decode cL_law 947 = .ok (.iadd, 1) := by decide +kernel
theorem dL_law_948 : decode cL_law 948 = .ok (.iaload, 1) := by decide +kernel
theorem dL_law_949 : decode cL_law 949 = .ok (.aload_n 0, 1) := by decide +kernel
theorem dL_law_950 : decode cL_law 950 = .ok (.iload_n 3, 1) := by decide +kernel
theorem dL_law_951 : decode cL_law 951 = .ok (.iconst 3, 1) := by decide +kernel
theorem dL_law_952 : decode cL_law 952 = .ok (.iadd, 1) := by decide +kernel
theorem dL_law_953 : decode cL_law 953 = .ok (.iaload, 1) := by decide +kernel
theorem dL_law_954 : decode cL_law 954 = .ok (.invokevirtual 106, 3) := by decide +kernel
theorem dL_law_957 : decode cL_law 957 = .ok (.if_icmp .eq 591, 3) := by decide +kernel
theorem dL_law_960 : decode cL_law 960 = .ok (.iconst 0, 1) := by decide +kernel
theorem dL_law_961 : decode cL_law 961 = .ok (.ireturn, 1) := by decide +kernel
theorem dL_law_962 : decode cL_law 962 = .ok (.aload_n 1, 1) := by decide +kernel
theorem dL_law_963 : decode cL_law 963 = .ok (.aload_n 0, 1) := by decide +kernel
theorem dL_law_964 : decode cL_law 964 = .ok (.iload_n 3, 1) := by decide +kernel
theorem dL_law_965 : decode cL_law 965 = .ok (.iconst 1, 1) := by decide +kernel
theorem dL_law_966 : decode cL_law 966 = .ok (.iadd, 1) := by decide +kernel
theorem dL_law_967 : decode cL_law 967 = .ok (.iaload, 1) := by decide +kernel
theorem dL_law_968 : decode cL_law 968 = .ok (.invokevirtual 107, 3) := by decide +kernel
theorem dL_law_971 : decode cL_law 971 = .ok (.aload_n 2, 1) := by decide +kernel
theorem dL_law_972 : decode cL_law 972 = .ok (.aload_n 0, 1) := by decide +kernel
theorem dL_law_973 : decode cL_law 973 = .ok (.iload_n 3, 1) := by decide +kernel
theorem dL_law_974 : decode cL_law 974 = .ok (.iconst 1, 1) := by decide +kernel
theorem dL_law_975 : decode cL_law 975 = .ok (.iadd, 1) := by decide +kernel
theorem dL_law_976 : decode cL_law 976 = .ok (.iaload, 1) := by decide +kernel
theorem dL_law_977 : decode cL_law 977 = .ok (.invokevirtual 110, 3) := by decide +kernel
theorem dL_law_980 : decode cL_law 980 = .ok (.if_icmp .eq 568, 3) := by decide +kernel
theorem dL_law_983 : decode cL_law 983 = .ok (.iconst 0, 1) := by decide +kernel
theorem dL_law_984 : decode cL_law 984 = .ok (.ireturn, 1) := by decide +kernel
theorem dL_law_985 : decode cL_law 985 = .ok (.aload_n 1, 1) := by decide +kernel
theorem dL_law_986 : decode cL_law 986 = .ok (.aload_n 0, 1) := by decide +kernel
theorem dL_law_987 : decode cL_law 987 = .ok (.iload_n 3, 1) := by decide +kernel
theorem dL_law_988 : decode cL_law 988 = .ok (.iconst 1, 1) := by decide +kernel
theorem dL_law_989 : decode cL_law 989 = .ok (.iadd, 1) := by decide +kernel
theorem dL_law_990 : decode cL_law 990 = .ok (.iaload, 1) := by decide +kernel
theorem dL_law_991 : decode cL_law 991 = .ok (.aload_n 0, 1) := by decide +kernel
theorem dL_law_992 : decode cL_law 992 = .ok (.iload_n 3, 1) := by decide +kernel
theorem dL_law_993 : decode cL_law 993 = .ok (.iconst 2, 1) := by decide +kernel
theorem dL_law_994 : decode cL_law 994 = .ok (.iadd, 1) := by decide +kernel
theorem dL_law_995 : decode cL_law 995 = .ok (.iaload, 1) := by decide +kernel
theorem dL_law_996 : decode cL_law 996 = .ok (.invokevirtual 111, 3) := by decide +kernel
theorem dL_law_999 : decode cL_law 999 = .ok (.aload_n 2, 1) := by decide +kernel
theorem dL_law_1000 : decode cL_law 1000 = .ok (.aload_n 0, 1) := by decide +kernel
theorem dL_law_1001 : decode cL_law 1001 = .ok (.iload_n 3, 1) := by decide +kernel
theorem dL_law_1002 : decode cL_law 1002 = .ok (.iconst 1, 1) := by decide +kernel
theorem dL_law_1003 : decode cL_law 1003 = .ok (.iadd, 1) := by decide +kernel
theorem dL_law_1004 : decode cL_law 1004 = .ok (.iaload, 1) := by decide +kernel
theorem dL_law_1005 : decode cL_law 1005 = .ok (.aload_n 0, 1) := by decide +kernel
theorem dL_law_1006 : decode cL_law 1006 = .ok (.iload_n 3, 1) := by decide +kernel
theorem dL_law_1007 : decode cL_law 1007 = .ok (.iconst 2, 1) := by decide +kernel
theorem dL_law_1008 : decode cL_law 1008 = .ok (.iadd, 1) := by decide +kernel
theorem dL_law_1009 : decode cL_law 1009 = .ok (.iaload, 1) := by decide +kernel
theorem dL_law_1010 : decode cL_law 1010 = .ok (.invokevirtual 114, 3) := by decide +kernel
theorem dL_law_1013 : decode cL_law 1013 = .ok (.if_icmp .eq 535, 3) := by decide +kernel
theorem dL_law_1016 : decode cL_law 1016 = .ok (.iconst 0, 1) := by decide +kernel
theorem dL_law_1017 : decode cL_law 1017 = .ok (.ireturn, 1) := by decide +kernel
theorem dL_law_1018 : decode cL_law 1018 = .ok (.aload_n 1, 1) := by decide +kernel
theorem dL_law_1019 : decode cL_law 1019 = .ok (.aload_n 0, 1) := by decide +kernel
theorem dL_law_1020 : decode cL_law 1020 = .ok (.iload_n 3, 1) := by decide +kernel
theorem dL_law_1021 : decode cL_law 1021 = .ok (.iconst 1, 1) := by decide +kernel
theorem dL_law_1022 : decode cL_law 1022 = .ok (.iadd, 1) := by decide +kernel
theorem dL_law_1023 : decode cL_law 1023 = .ok (.iaload, 1) := by decide +kernel
theorem dL_law_1024 : decode cL_law 1024 = .ok (.invokevirtual 115, 3) := by decide +kernel
theorem dL_law_1027 : decode cL_law 1027 = .ok (.aload_n 2, 1) := by decide +kernel
theorem dL_law_1028 : decode cL_law 1028 = .ok (.aload_n 0, 1) := by decide +kernel
theorem dL_law_1029 : decode cL_law 1029 = .ok (.iload_n 3, 1) := by decide +kernel
theorem dL_law_1030 : decode cL_law 1030 = .ok (.iconst 1, 1) := by decide +kernel
theorem dL_law_1031 : decode cL_law 1031 = .ok (.iadd, 1) := by decide +kernel
theorem dL_law_1032 : decode cL_law 1032 = .ok (.iaload, 1) := by decide +kernel
theorem dL_law_1033 : decode cL_law 1033 = .ok (.invokevirtual 118, 3) := by decide +kernel
theorem dL_law_1036 : decode cL_law 1036 = .ok (.if_icmp .eq 512, 3) := by decide +kernel
theorem dL_law_1039 : decode cL_law 1039 = .ok (.iconst 0, 1) := by decide +kernel
theorem dL_law_1040 : decode cL_law 1040 = .ok (.ireturn, 1) := by decide +kernel
theorem dL_law_1041 : decode cL_law 1041 = .ok (.aload_n 1, 1) := by decide +kernel
theorem dL_law_1042 : decode cL_law 1042 = .ok (.aload_n 0, 1) := by decide +kernel
theorem dL_law_1043 : decode cL_law 1043 = .ok (.iload_n 3, 1) := by decide +kernel
theorem dL_law_1044 : decode cL_law 1044 = .ok (.iconst 1, 1) := by decide +kernel
theorem dL_law_1045 : decode cL_law 1045 = .ok (.iadd, 1) := by decide +kernel
theorem dL_law_1046 : decode cL_law 1046 = .ok (.iaload, 1) := by decide +kernel
theorem dL_law_1047 : decode cL_law 1047 = .ok (.invokevirtual 119, 3) := by decide +kernel
theorem dL_law_1050 : decode cL_law 1050 = .ok (.aload_n 2, 1) := by decide +kernel
theorem dL_law_1051 : decode cL_law 1051 = .ok (.aload_n 0, 1) := by decide +kernel
theorem dL_law_1052 : decode cL_law 1052 = .ok (.iload_n 3, 1) := by decide +kernel
theorem dL_law_1053 : decode cL_law 1053 = .ok (.iconst 1, 1) := by decide +kernel
theorem dL_law_1054 : decode cL_law 1054 = .ok (.iadd, 1) := by decide +kernel
theorem dL_law_1055 : decode cL_law 1055 = .ok (.iaload, 1) := by decide +kernel
theorem dL_law_1056 : decode cL_law 1056 = .ok (.invokevirtual 122, 3) := by decide +kernel
theorem dL_law_1059 : decode cL_law 1059 = .ok (.if_icmp .eq 489, 3) := by decide +kernel
theorem dL_law_1062 : decode cL_law 1062 = .ok (.iconst 0, 1) := by decide +kernel
theorem dL_law_1063 : decode cL_law 1063 = .ok (.ireturn, 1) := by decide +kernel
theorem dL_law_1064 : decode cL_law 1064 = .ok (.aload_n 1, 1) := by decide +kernel
theorem dL_law_1065 : decode cL_law 1065 = .ok (.aload_n 0, 1) := by decide +kernel
theorem dL_law_1066 : decode cL_law 1066 = .ok (.iload_n 3, 1) := by decide +kernel
theorem dL_law_1067 : decode cL_law 1067 = .ok (.iconst 1, 1) := by decide +kernel
theorem dL_law_1068 : decode cL_law 1068 = .ok (.iadd, 1) := by decide +kernel
theorem dL_law_1069 : decode cL_law 1069 = .ok (.iaload, 1) := by decide +kernel
theorem dL_law_1070 : decode cL_law 1070 = .ok (.invokevirtual 123, 3) := by decide +kernel
theorem dL_law_1073 : decode cL_law 1073 = .ok (.aload_n 2, 1) := by decide +kernel
theorem dL_law_1074 : decode cL_law 1074 = .ok (.aload_n 0, 1) := by decide +kernel
theorem dL_law_1075 : decode cL_law 1075 = .ok (.iload_n 3, 1) := by decide +kernel
theorem dL_law_1076 : decode cL_law 1076 = .ok (.iconst 1, 1) := by decide +kernel
theorem dL_law_1077 : decode cL_law 1077 = .ok (.iadd, 1) := by decide +kernel
theorem dL_law_1078 : decode cL_law 1078 = .ok (.iaload, 1) := by decide +kernel
theorem dL_law_1079 : decode cL_law 1079 = .ok (.invokevirtual 126, 3) := by decide +kernel
theorem dL_law_1082 : decode cL_law 1082 = .ok (.if_icmp .eq 466, 3) := by decide +kernel
theorem dL_law_1085 : decode cL_law 1085 = .ok (.iconst 0, 1) := by decide +kernel
theorem dL_law_1086 : decode cL_law 1086 = .ok (.ireturn, 1) := by decide +kernel
theorem dL_law_1087 : decode cL_law 1087 = .ok (.aload_n 1, 1) := by decide +kernel
theorem dL_law_1088 : decode cL_law 1088 = .ok (.aload_n 0, 1) := by decide +kernel
theorem dL_law_1089 : decode cL_law 1089 = .ok (.iload_n 3, 1) := by decide +kernel
theorem dL_law_1090 : decode cL_law 1090 = .ok (.iconst 1, 1) := by decide +kernel
theorem dL_law_1091 : decode cL_law 1091 = .ok (.iadd, 1) := by decide +kernel
theorem dL_law_1092 : decode cL_law 1092 = .ok (.iaload, 1) := by decide +kernel
theorem dL_law_1093 : decode cL_law 1093 = .ok (.invokevirtual 127, 3) := by decide +kernel
theorem dL_law_1096 : decode cL_law 1096 = .ok (.aload_n 2, 1) := by decide +kernel
theorem dL_law_1097 : decode cL_law 1097 = .ok (.aload_n 0, 1) := by decide +kernel
theorem dL_law_1098 : decode cL_law 1098 = .ok (.iload_n 3, 1) := by decide +kernel
theorem dL_law_1099 : decode cL_law 1099 = .ok (.iconst 1, 1) := by decide +kernel
theorem dL_law_1100 : decode cL_law 1100 = .ok (.iadd, 1) := by decide +kernel
theorem dL_law_1101 : decode cL_law 1101 = .ok (.iaload, 1) := by decide +kernel
theorem dL_law_1102 : decode cL_law 1102 = .ok (.invokevirtual 130, 3) := by decide +kernel
theorem dL_law_1105 : decode cL_law 1105 = .ok (.if_icmp .eq 443, 3) := by decide +kernel
theorem dL_law_1108 : decode cL_law 1108 = .ok (.iconst 0, 1) := by decide +kernel
theorem dL_law_1109 : decode cL_law 1109 = .ok (.ireturn, 1) := by decide +kernel
theorem dL_law_1110 : decode cL_law 1110 = .ok (.aload_n 1, 1) := by decide +kernel
theorem dL_law_1111 : decode cL_law 1111 = .ok (.aload_n 0, 1) := by decide +kernel
theorem dL_law_1112 : decode cL_law 1112 = .ok (.iload_n 3, 1) := by decide +kernel
theorem dL_law_1113 : decode cL_law 1113 = .ok (.iconst 1, 1) := by decide +kernel
theorem dL_law_1114 : decode cL_law 1114 = .ok (.iadd, 1) := by decide +kernel
theorem dL_law_1115 : decode cL_law 1115 = .ok (.iaload, 1) := by decide +kernel
theorem dL_law_1116 : decode cL_law 1116 = .ok (.aload_n 0, 1) := by decide +kernel
theorem dL_law_1117 : decode cL_law 1117 = .ok (.iload_n 3, 1) := by decide +kernel
theorem dL_law_1118 : decode cL_law 1118 = .ok (.iconst 2, 1) := by decide +kernel
theorem dL_law_1119 : decode cL_law 1119 = .ok (.iadd, 1) := by decide +kernel
theorem dL_law_1120 : decode cL_law 1120 = .ok (.iaload, 1) := by decide +kernel
theorem dL_law_1121 : decode cL_law 1121 = .ok (.invokevirtual 131, 3) := by decide +kernel
theorem dL_law_1124 : decode cL_law 1124 = .ok (.aload_n 2, 1) := by decide +kernel
theorem dL_law_1125 : decode cL_law 1125 = .ok (.aload_n 0, 1) := by decide +kernel
theorem dL_law_1126 : decode cL_law 1126 = .ok (.iload_n 3, 1) := by decide +kernel
theorem dL_law_1127 : decode cL_law 1127 = .ok (.iconst 1, 1) := by decide +kernel
theorem dL_law_1128 : decode cL_law 1128 = .ok (.iadd, 1) := by decide +kernel
theorem dL_law_1129 : decode cL_law 1129 = .ok (.iaload, 1) := by decide +kernel
theorem dL_law_1130 : decode cL_law 1130 = .ok (.aload_n 0, 1) := by decide +kernel
theorem dL_law_1131 : decode cL_law 1131 = .ok (.iload_n 3, 1) := by decide +kernel
theorem dL_law_1132 : decode cL_law 1132 = .ok (.iconst 2, 1) := by decide +kernel
theorem dL_law_1133 : decode cL_law 1133 = .ok (.iadd, 1) := by decide +kernel
theorem dL_law_1134 : decode cL_law 1134 = .ok (.iaload, 1) := by decide +kernel
theorem dL_law_1135 : decode cL_law 1135 = .ok (.invokevirtual 134, 3) := by decide +kernel
theorem dL_law_1138 : decode cL_law 1138 = .ok (.if_icmp .eq 410, 3) := by decide +kernel
theorem dL_law_1141 : decode cL_law 1141 = .ok (.iconst 0, 1) := by decide +kernel
theorem dL_law_1142 : decode cL_law 1142 = .ok (.ireturn, 1) := by decide +kernel
theorem dL_law_1143 : decode cL_law 1143 = .ok (.aload_n 1, 1) := by decide +kernel
theorem dL_law_1144 : decode cL_law 1144 = .ok (.aload_n 0, 1) := by decide +kernel
theorem dL_law_1145 : decode cL_law 1145 = .ok (.iload_n 3, 1) := by decide +kernel
theorem dL_law_1146 : decode cL_law 1146 = .ok (.iconst 1, 1) := by decide +kernel
theorem dL_law_1147 : decode cL_law 1147 = .ok (.iadd, 1) := by decide +kernel
theorem dL_law_1148 : decode cL_law 1148 = .ok (.iaload, 1) := by decide +kernel
theorem dL_law_1149 : decode cL_law 1149 = .ok (.invokevirtual 135, 3) := by decide +kernel
theorem dL_law_1152 : decode cL_law 1152 = .ok (.aload_n 2, 1) := by decide +kernel
theorem dL_law_1153 : decode cL_law 1153 = .ok (.aload_n 0, 1) := by decide +kernel
theorem dL_law_1154 : decode cL_law 1154 = .ok (.iload_n 3, 1) := by decide +kernel
theorem dL_law_1155 : decode cL_law 1155 = .ok (.iconst 1, 1) := by decide +kernel
theorem dL_law_1156 : decode cL_law 1156 = .ok (.iadd, 1) := by decide +kernel
theorem dL_law_1157 : decode cL_law 1157 = .ok (.iaload, 1) := by decide +kernel
theorem dL_law_1158 : decode cL_law 1158 = .ok (.invokevirtual 138, 3) := by decide +kernel
theorem dL_law_1161 : decode cL_law 1161 = .ok (.if_icmp .eq 387, 3) := by decide +kernel
theorem dL_law_1164 : decode cL_law 1164 = .ok (.iconst 0, 1) := by decide +kernel
theorem dL_law_1165 : decode cL_law 1165 = .ok (.ireturn, 1) := by decide +kernel
theorem dL_law_1166 : decode cL_law 1166 = .ok (.aload_n 1, 1) := by decide +kernel
theorem dL_law_1167 : decode cL_law 1167 = .ok (.aload_n 0, 1) := by decide +kernel
theorem dL_law_1168 : decode cL_law 1168 = .ok (.iload_n 3, 1) := by decide +kernel
theorem dL_law_1169 : decode cL_law 1169 = .ok (.iconst 1, 1) := by decide +kernel
theorem dL_law_1170 : decode cL_law 1170 = .ok (.iadd, 1) := by decide +kernel
theorem dL_law_1171 : decode cL_law 1171 = .ok (.iaload, 1) := by decide +kernel
theorem dL_law_1172 : decode cL_law 1172 = .ok (.invokevirtual 139, 3) := by decide +kernel
theorem dL_law_1175 : decode cL_law 1175 = .ok (.aload_n 2, 1) := by decide +kernel
theorem dL_law_1176 : decode cL_law 1176 = .ok (.aload_n 0, 1) := by decide +kernel
theorem dL_law_1177 : decode cL_law 1177 = .ok (.iload_n 3, 1) := by decide +kernel
theorem dL_law_1178 : decode cL_law 1178 = .ok (.iconst 1, 1) := by decide +kernel
theorem dL_law_1179 : decode cL_law 1179 = .ok (.iadd, 1) := by decide +kernel
theorem dL_law_1180 : decode cL_law 1180 = .ok (.iaload, 1) := by decide +kernel
theorem dL_law_1181 : decode cL_law 1181 = .ok (.invokevirtual 142, 3) := by decide +kernel
theorem dL_law_1184 : decode cL_law 1184 = .ok (.if_icmp .eq 364, 3) := by decide +kernel
theorem dL_law_1187 : decode cL_law 1187 = .ok (.iconst 0, 1) := by decide +kernel
theorem dL_law_1188 : decode cL_law 1188 = .ok (.ireturn, 1) := by decide +kernel
theorem dL_law_1189 : decode cL_law 1189 = .ok (.aload_n 1, 1) := by decide +kernel
theorem dL_law_1190 : decode cL_law 1190 = .ok (.aload_n 0, 1) := by decide +kernel
theorem dL_law_1191 : decode cL_law 1191 = .ok (.iload_n 3, 1) := by decide +kernel
theorem dL_law_1192 : decode cL_law 1192 = .ok (.iconst 1, 1) := by decide +kernel
theorem dL_law_1193 : decode cL_law 1193 = .ok (.iadd, 1) := by decide +kernel
theorem dL_law_1194 : decode cL_law 1194 = .ok (.iaload, 1) := by decide +kernel
theorem dL_law_1195 : decode cL_law 1195 = .ok (.invokevirtual 143, 3) := by decide +kernel
theorem dL_law_1198 : decode cL_law 1198 = .ok (.aload_n 2, 1) := by decide +kernel
theorem dL_law_1199 : decode cL_law 1199 = .ok (.aload_n 0, 1) := by decide +kernel
theorem dL_law_1200 : decode cL_law 1200 = .ok (.iload_n 3, 1) := by decide +kernel
theorem dL_law_1201 : decode cL_law 1201 = .ok (.iconst 1, 1) := by decide +kernel
theorem dL_law_1202 : decode cL_law 1202 = .ok (.iadd, 1) := by decide +kernel
theorem dL_law_1203 : decode cL_law 1203 = .ok (.iaload, 1) := by decide +kernel
theorem dL_law_1204 : decode cL_law 1204 = .ok (.invokevirtual 146, 3) := by decide +kernel
theorem dL_law_1207 : decode cL_law 1207 = .ok (.if_icmp .eq 341, 3) := by decide +kernel
theorem dL_law_1210 : decode cL_law 1210 = .ok (.iconst 0, 1) := by decide +kernel
theorem dL_law_1211 : decode cL_law 1211 = .ok (.ireturn, 1) := by decide +kernel
theorem dL_law_1212 : decode cL_law 1212 = .ok (.aload_n 1, 1) := by decide +kernel
theorem dL_law_1213 : decode cL_law 1213 = .ok (.aload_n 0, 1) := by decide +kernel
theorem dL_law_1214 : decode cL_law 1214 = .ok (.iload_n 3, 1) := by decide +kernel
theorem dL_law_1215 : decode cL_law 1215 = .ok (.iconst 1, 1) := by decide +kernel
theorem dL_law_1216 : decode cL_law 1216 = .ok (.iadd, 1) := by decide +kernel
theorem dL_law_1217 : decode cL_law 1217 = .ok (.iaload, 1) := by decide +kernel
theorem dL_law_1218 : decode cL_law 1218 = .ok (.aload_n 0, 1) := by decide +kernel
theorem dL_law_1219 : decode cL_law 1219 = .ok (.iload_n 3, 1) := by decide +kernel
theorem dL_law_1220 : decode cL_law 1220 = .ok (.iconst 2, 1) := by decide +kernel
theorem dL_law_1221 : decode cL_law 1221 = .ok (.iadd, 1) := by decide +kernel
theorem dL_law_1222 : decode cL_law 1222 = .ok (.iaload, 1) := by decide +kernel
theorem dL_law_1223 : decode cL_law 1223 = .ok (.invokevirtual 147, 3) := by decide +kernel
theorem dL_law_1226 : decode cL_law 1226 = .ok (.aload_n 2, 1) := by decide +kernel
theorem dL_law_1227 : decode cL_law 1227 = .ok (.aload_n 0, 1) := by decide +kernel
theorem dL_law_1228 : decode cL_law 1228 = .ok (.iload_n 3, 1) := by decide +kernel
theorem dL_law_1229 : decode cL_law 1229 = .ok (.iconst 1, 1) := by decide +kernel
theorem dL_law_1230 : decode cL_law 1230 = .ok (.iadd, 1) := by decide +kernel
theorem dL_law_1231 : decode cL_law 1231 = .ok (.iaload, 1) := by decide +kernel
theorem dL_law_1232 : decode cL_law 1232 = .ok (.aload_n 0, 1) := by decide +kernel
theorem dL_law_1233 : decode cL_law 1233 = .ok (.iload_n 3, 1) := by decide +kernel
theorem dL_law_1234 : decode cL_law 1234 = .ok (.iconst 2, 1) := by decide +kernel
theorem dL_law_1235 : decode cL_law 1235 = .ok (.iadd, 1) := by decide +kernel
theorem dL_law_1236 : decode cL_law 1236 = .ok (.iaload, 1) := by decide +kernel
theorem dL_law_1237 : decode cL_law 1237 = .ok (.invokevirtual 150, 3) := by decide +kernel
theorem dL_law_1240 : decode cL_law 1240 = .ok (.if_icmp .eq 308, 3) := by decide +kernel
theorem dL_law_1243 : decode cL_law 1243 = .ok (.iconst 0, 1) := by decide +kernel
theorem dL_law_1244 : decode cL_law 1244 = .ok (.ireturn, 1) := by decide +kernel
theorem dL_law_1245 : decode cL_law 1245 = .ok (.aload_n 1, 1) := by decide +kernel
theorem dL_law_1246 : decode cL_law 1246 = .ok (.aload_n 0, 1) := by decide +kernel
theorem dL_law_1247 : decode cL_law 1247 = .ok (.iload_n 3, 1) := by decide +kernel
theorem dL_law_1248 : decode cL_law 1248 = .ok (.iconst 1, 1) := by decide +kernel
theorem dL_law_1249 : decode cL_law 1249 = .ok (.iadd, 1) := by decide +kernel
theorem dL_law_1250 : decode cL_law 1250 = .ok (.iaload, 1) := by decide +kernel
theorem dL_law_1251 : decode cL_law 1251 = .ok (.aload_n 0, 1) := by decide +kernel
theorem dL_law_1252 : decode cL_law 1252 = .ok (.iload_n 3, 1) := by decide +kernel
theorem dL_law_1253 : decode cL_law 1253 = .ok (.iconst 2, 1) := by decide +kernel
theorem dL_law_1254 : decode cL_law 1254 = .ok (.iadd, 1) := by decide +kernel
theorem dL_law_1255 : decode cL_law 1255 = .ok (.iaload, 1) := by decide +kernel
theorem dL_law_1256 : decode cL_law 1256 = .ok (.invokevirtual 151, 3) := by decide +kernel
theorem dL_law_1259 : decode cL_law 1259 = .ok (.aload_n 2, 1) := by decide +kernel
theorem dL_law_1260 : decode cL_law 1260 = .ok (.aload_n 0, 1) := by decide +kernel
theorem dL_law_1261 : decode cL_law 1261 = .ok (.iload_n 3, 1) := by decide +kernel
theorem dL_law_1262 : decode cL_law 1262 = .ok (.iconst 1, 1) := by decide +kernel
theorem dL_law_1263 : decode cL_law 1263 = .ok (.iadd, 1) := by decide +kernel
theorem dL_law_1264 : decode cL_law 1264 = .ok (.iaload, 1) := by decide +kernel
theorem dL_law_1265 : decode cL_law 1265 = .ok (.aload_n 0, 1) := by decide +kernel
theorem dL_law_1266 : decode cL_law 1266 = .ok (.iload_n 3, 1) := by decide +kernel
theorem dL_law_1267 : decode cL_law 1267 = .ok (.iconst 2, 1) := by decide +kernel
theorem dL_law_1268 : decode cL_law 1268 = .ok (.iadd, 1) := by decide +kernel
theorem dL_law_1269 : decode cL_law 1269 = .ok (.iaload, 1) := by decide +kernel
theorem dL_law_1270 : decode cL_law 1270 = .ok (.invokevirtual 154, 3) := by decide +kernel
theorem dL_law_1273 : decode cL_law 1273 = .ok (.if_icmp .eq 275, 3) := by decide +kernel
theorem dL_law_1276 : decode cL_law 1276 = .ok (.iconst 0, 1) := by decide +kernel
theorem dL_law_1277 : decode cL_law 1277 = .ok (.ireturn, 1) := by decide +kernel
theorem dL_law_1278 : decode cL_law 1278 = .ok (.aload_n 1, 1) := by decide +kernel
theorem dL_law_1279 : decode cL_law 1279 = .ok (.aload_n 0, 1) := by decide +kernel
theorem dL_law_1280 : decode cL_law 1280 = .ok (.iload_n 3, 1) := by decide +kernel
theorem dL_law_1281 : decode cL_law 1281 = .ok (.iconst 1, 1) := by decide +kernel
theorem dL_law_1282 : decode cL_law 1282 = .ok (.iadd, 1) := by decide +kernel
theorem dL_law_1283 : decode cL_law 1283 = .ok (.iaload, 1) := by decide +kernel
theorem dL_law_1284 : decode cL_law 1284 = .ok (.aload_n 0, 1) := by decide +kernel
theorem dL_law_1285 : decode cL_law 1285 = .ok (.iload_n 3, 1) := by decide +kernel
theorem dL_law_1286 : decode cL_law 1286 = .ok (.iconst 2, 1) := by decide +kernel
theorem dL_law_1287 : decode cL_law 1287 = .ok (.iadd, 1) := by decide +kernel
theorem dL_law_1288 : decode cL_law 1288 = .ok (.iaload, 1) := by decide +kernel
theorem dL_law_1289 : decode cL_law 1289 = .ok (.invokevirtual 155, 3) := by decide +kernel
theorem dL_law_1292 : decode cL_law 1292 = .ok (.aload_n 2, 1) := by decide +kernel
theorem dL_law_1293 : decode cL_law 1293 = .ok (.aload_n 0, 1) := by decide +kernel
theorem dL_law_1294 : decode cL_law 1294 = .ok (.iload_n 3, 1) := by decide +kernel
theorem dL_law_1295 : decode cL_law 1295 = .ok (.iconst 1, 1) := by decide +kernel
theorem dL_law_1296 : decode cL_law 1296 = .ok (.iadd, 1) := by decide +kernel
theorem dL_law_1297 : decode cL_law 1297 = .ok (.iaload, 1) := by decide +kernel
theorem dL_law_1298 : decode cL_law 1298 = .ok (.aload_n 0, 1) := by decide +kernel
theorem dL_law_1299 : decode cL_law 1299 = .ok (.iload_n 3, 1) := by decide +kernel
theorem dL_law_1300 : decode cL_law 1300 = .ok (.iconst 2, 1) := by decide +kernel
theorem dL_law_1301 : decode cL_law 1301 = .ok (.iadd, 1) := by decide +kernel
theorem dL_law_1302 : decode cL_law 1302 = .ok (.iaload, 1) := by decide +kernel
theorem dL_law_1303 : decode cL_law 1303 = .ok (.invokevirtual 158, 3) := by decide +kernel
theorem dL_law_1306 : decode cL_law 1306 = .ok (.if_icmp .eq 242, 3) := by decide +kernel
theorem dL_law_1309 : decode cL_law 1309 = .ok (.iconst 0, 1) := by decide +kernel
theorem dL_law_1310 : decode cL_law 1310 = .ok (.ireturn, 1) := by decide +kernel
theorem dL_law_1311 : decode cL_law 1311 = .ok (.aload_n 1, 1) := by decide +kernel
theorem dL_law_1312 : decode cL_law 1312 = .ok (.aload_n 0, 1) := by decide +kernel
theorem dL_law_1313 : decode cL_law 1313 = .ok (.iload_n 3, 1) := by decide +kernel
theorem dL_law_1314 : decode cL_law 1314 = .ok (.iconst 1, 1) := by decide +kernel
theorem dL_law_1315 : decode cL_law 1315 = .ok (.iadd, 1) := by decide +kernel
theorem dL_law_1316 : decode cL_law 1316 = .ok (.iaload, 1) := by decide +kernel
theorem dL_law_1317 : decode cL_law 1317 = .ok (.aload_n 0, 1) := by decide +kernel
theorem dL_law_1318 : decode cL_law 1318 = .ok (.iload_n 3, 1) := by decide +kernel
theorem dL_law_1319 : decode cL_law 1319 = .ok (.iconst 2, 1) := by decide +kernel
theorem dL_law_1320 : decode cL_law 1320 = .ok (.iadd, 1) := by decide +kernel
theorem dL_law_1321 : decode cL_law 1321 = .ok (.iaload, 1) := by decide +kernel
theorem dL_law_1322 : decode cL_law 1322 = .ok (.aload_n 0, 1) := by decide +kernel
theorem dL_law_1323 : decode cL_law 1323 = .ok (.iload_n 3, 1) := by decide +kernel
theorem dL_law_1324 : decode cL_law 1324 = .ok (.iconst 3, 1) := by decide +kernel
theorem dL_law_1325 : decode cL_law 1325 = .ok (.iadd, 1) := by decide +kernel
theorem dL_law_1326 : decode cL_law 1326 = .ok (.iaload, 1) := by decide +kernel
theorem dL_law_1327 : decode cL_law 1327 = .ok (.invokevirtual 159, 3) := by decide +kernel
theorem dL_law_1330 : decode cL_law 1330 = .ok (.aload_n 2, 1) := by decide +kernel
theorem dL_law_1331 : decode cL_law 1331 = .ok (.aload_n 0, 1) := by decide +kernel
theorem dL_law_1332 : decode cL_law 1332 = .ok (.iload_n 3, 1) := by decide +kernel
theorem dL_law_1333 : decode cL_law 1333 = .ok (.iconst 1, 1) := by decide +kernel
theorem dL_law_1334 : decode cL_law 1334 = .ok (.iadd, 1) := by decide +kernel
theorem dL_law_1335 : decode cL_law 1335 = .ok (.iaload, 1) := by decide +kernel
theorem dL_law_1336 : decode cL_law 1336 = .ok (.aload_n 0, 1) := by decide +kernel
theorem dL_law_1337 : decode cL_law 1337 = .ok (.iload_n 3, 1) := by decide +kernel
theorem dL_law_1338 : decode cL_law 1338 = .ok (.iconst 2, 1) := by decide +kernel
theorem dL_law_1339 : decode cL_law 1339 = .ok (.iadd, 1) := by decide +kernel
theorem dL_law_1340 : decode cL_law 1340 = .ok (.iaload, 1) := by decide +kernel
theorem dL_law_1341 : decode cL_law 1341 = .ok (.aload_n 0, 1) := by decide +kernel
theorem dL_law_1342 : decode cL_law 1342 = .ok (.iload_n 3, 1) := by decide +kernel
theorem dL_law_1343 : decode cL_law 1343 = .ok (.iconst 3, 1) := by decide +kernel
theorem dL_law_1344 : decode cL_law 1344 = .ok (.iadd, 1) := by decide +kernel
theorem dL_law_1345 : decode cL_law 1345 = .ok (.iaload, 1) := by decide +kernel
theorem dL_law_1346 : decode cL_law 1346 = .ok (.invokevirtual 162, 3) := by decide +kernel
theorem dL_law_1349 : decode cL_law 1349 = .ok (.if_icmp .eq 199, 3) := by decide +kernel
theorem dL_law_1352 : decode cL_law 1352 = .ok (.iconst 0, 1) := by decide +kernel
theorem dL_law_1353 : decode cL_law 1353 = .ok (.ireturn, 1) := by decide +kernel
theorem dL_law_1354 : decode cL_law 1354 = .ok (.aload_n 1, 1) := by decide +kernel
theorem dL_law_1355 : decode cL_law 1355 = .ok (.aload_n 0, 1) := by decide +kernel
theorem dL_law_1356 : decode cL_law 1356 = .ok (.iload_n 3, 1) := by decide +kernel
theorem dL_law_1357 : decode cL_law 1357 = .ok (.iconst 1, 1) := by decide +kernel
theorem dL_law_1358 : decode cL_law 1358 = .ok (.iadd, 1) := by decide +kernel
theorem dL_law_1359 : decode cL_law 1359 = .ok (.iaload, 1) := by decide +kernel
theorem dL_law_1360 : decode cL_law 1360 = .ok (.aload_n 0, 1) := by decide +kernel
theorem dL_law_1361 : decode cL_law 1361 = .ok (.iload_n 3, 1) := by decide +kernel
theorem dL_law_1362 : decode cL_law 1362 = .ok (.iconst 2, 1) := by decide +kernel
theorem dL_law_1363 : decode cL_law 1363 = .ok (.iadd, 1) := by decide +kernel
theorem dL_law_1364 : decode cL_law 1364 = .ok (.iaload, 1) := by decide +kernel
theorem dL_law_1365 : decode cL_law 1365 = .ok (.aload_n 0, 1) := by decide +kernel
theorem dL_law_1366 : decode cL_law 1366 = .ok (.iload_n 3, 1) := by decide +kernel
theorem dL_law_1367 : decode cL_law 1367 = .ok (.iconst 3, 1) := by decide +kernel
theorem dL_law_1368 : decode cL_law 1368 = .ok (.iadd, 1) := by decide +kernel
theorem dL_law_1369 : decode cL_law 1369 = .ok (.iaload, 1) := by decide +kernel
theorem dL_law_1370 : decode cL_law 1370 = .ok (.aload_n 0, 1) := by decide +kernel
theorem dL_law_1371 : decode cL_law 1371 = .ok (.iload_n 3, 1) := by decide +kernel
theorem dL_law_1372 : decode cL_law 1372 = .ok (.iconst 4, 1) := by decide +kernel
theorem dL_law_1373 : decode cL_law 1373 = .ok (.iadd, 1) := by decide +kernel
theorem dL_law_1374 : decode cL_law 1374 = .ok (.iaload, 1) := by decide +kernel
theorem dL_law_1375 : decode cL_law 1375 = .ok (.invokevirtual 163, 3) := by decide +kernel
theorem dL_law_1378 : decode cL_law 1378 = .ok (.aload_n 2, 1) := by decide +kernel
theorem dL_law_1379 : decode cL_law 1379 = .ok (.aload_n 0, 1) := by decide +kernel
theorem dL_law_1380 : decode cL_law 1380 = .ok (.iload_n 3, 1) := by decide +kernel
theorem dL_law_1381 : decode cL_law 1381 = .ok (.iconst 1, 1) := by decide +kernel
theorem dL_law_1382 : decode cL_law 1382 = .ok (.iadd, 1) := by decide +kernel
theorem dL_law_1383 : decode cL_law 1383 = .ok (.iaload, 1) := by decide +kernel
theorem dL_law_1384 : decode cL_law 1384 = .ok (.aload_n 0, 1) := by decide +kernel
theorem dL_law_1385 : decode cL_law 1385 = .ok (.iload_n 3, 1) := by decide +kernel
theorem dL_law_1386 : decode cL_law 1386 = .ok (.iconst 2, 1) := by decide +kernel
theorem dL_law_1387 : decode cL_law 1387 = .ok (.iadd, 1) := by decide +kernel
theorem dL_law_1388 : decode cL_law 1388 = .ok (.iaload, 1) := by decide +kernel
theorem dL_law_1389 : decode cL_law 1389 = .ok (.aload_n 0, 1) := by decide +kernel
theorem dL_law_1390 : decode cL_law 1390 = .ok (.iload_n 3, 1) := by decide +kernel
theorem dL_law_1391 : decode cL_law 1391 = .ok (.iconst 3, 1) := by decide +kernel
theorem dL_law_1392 : decode cL_law 1392 = .ok (.iadd, 1) := by decide +kernel
theorem dL_law_1393 : decode cL_law 1393 = .ok (.iaload, 1) := by decide +kernel
theorem dL_law_1394 : decode cL_law 1394 = .ok (.aload_n 0, 1) := by decide +kernel
theorem dL_law_1395 : decode cL_law 1395 = .ok (.iload_n 3, 1) := by decide +kernel
theorem dL_law_1396 : decode cL_law 1396 = .ok (.iconst 4, 1) := by decide +kernel
theorem dL_law_1397 : decode cL_law 1397 = .ok (.iadd, 1) := by decide +kernel
theorem dL_law_1398 : decode cL_law 1398 = .ok (.iaload, 1) := by decide +kernel
theorem dL_law_1399 : decode cL_law 1399 = .ok (.invokevirtual 167, 3) := by decide +kernel
theorem dL_law_1402 : decode cL_law 1402 = .ok (.if_icmp .eq 146, 3) := by decide +kernel
theorem dL_law_1405 : decode cL_law 1405 = .ok (.iconst 0, 1) := by decide +kernel
theorem dL_law_1406 : decode cL_law 1406 = .ok (.ireturn, 1) := by decide +kernel
theorem dL_law_1407 : decode cL_law 1407 = .ok (.aload_n 1, 1) := by decide +kernel
theorem dL_law_1408 : decode cL_law 1408 = .ok (.aload_n 0, 1) := by decide +kernel
theorem dL_law_1409 : decode cL_law 1409 = .ok (.iload_n 3, 1) := by decide +kernel
theorem dL_law_1410 : decode cL_law 1410 = .ok (.iconst 1, 1) := by decide +kernel
theorem dL_law_1411 : decode cL_law 1411 = .ok (.iadd, 1) := by decide +kernel
theorem dL_law_1412 : decode cL_law 1412 = .ok (.iaload, 1) := by decide +kernel
theorem dL_law_1413 : decode cL_law 1413 = .ok (.aload_n 0, 1) := by decide +kernel
theorem dL_law_1414 : decode cL_law 1414 = .ok (.iload_n 3, 1) := by decide +kernel
theorem dL_law_1415 : decode cL_law 1415 = .ok (.iconst 2, 1) := by decide +kernel
theorem dL_law_1416 : decode cL_law 1416 = .ok (.iadd, 1) := by decide +kernel
theorem dL_law_1417 : decode cL_law 1417 = .ok (.iaload, 1) := by decide +kernel
theorem dL_law_1418 : decode cL_law 1418 = .ok (.invokevirtual 168, 3) := by decide +kernel
theorem dL_law_1421 : decode cL_law 1421 = .ok (.aload_n 2, 1) := by decide +kernel
theorem dL_law_1422 : decode cL_law 1422 = .ok (.aload_n 0, 1) := by decide +kernel
theorem dL_law_1423 : decode cL_law 1423 = .ok (.iload_n 3, 1) := by decide +kernel
theorem dL_law_1424 : decode cL_law 1424 = .ok (.iconst 1, 1) := by decide +kernel
theorem dL_law_1425 : decode cL_law 1425 = .ok (.iadd, 1) := by decide +kernel
theorem dL_law_1426 : decode cL_law 1426 = .ok (.iaload, 1) := by decide +kernel
theorem dL_law_1427 : decode cL_law 1427 = .ok (.aload_n 0, 1) := by decide +kernel
theorem dL_law_1428 : decode cL_law 1428 = .ok (.iload_n 3, 1) := by decide +kernel
theorem dL_law_1429 : decode cL_law 1429 = .ok (.iconst 2, 1) := by decide +kernel
theorem dL_law_1430 : decode cL_law 1430 = .ok (.iadd, 1) := by decide +kernel
theorem dL_law_1431 : decode cL_law 1431 = .ok (.iaload, 1) := by decide +kernel
theorem dL_law_1432 : decode cL_law 1432 = .ok (.invokevirtual 171, 3) := by decide +kernel
theorem dL_law_1435 : decode cL_law 1435 = .ok (.if_icmp .eq 113, 3) := by decide +kernel
theorem dL_law_1438 : decode cL_law 1438 = .ok (.iconst 0, 1) := by decide +kernel
theorem dL_law_1439 : decode cL_law 1439 = .ok (.ireturn, 1) := by decide +kernel
theorem dL_law_1440 : decode cL_law 1440 = .ok (.aload_n 1, 1) := by decide +kernel
theorem dL_law_1441 : decode cL_law 1441 = .ok (.aload_n 0, 1) := by decide +kernel
theorem dL_law_1442 : decode cL_law 1442 = .ok (.iload_n 3, 1) := by decide +kernel
theorem dL_law_1443 : decode cL_law 1443 = .ok (.iconst 1, 1) := by decide +kernel
theorem dL_law_1444 : decode cL_law 1444 = .ok (.iadd, 1) := by decide +kernel
theorem dL_law_1445 : decode cL_law 1445 = .ok (.iaload, 1) := by decide +kernel
theorem dL_law_1446 : decode cL_law 1446 = .ok (.aload_n 0, 1) := by decide +kernel
theorem dL_law_1447 : decode cL_law 1447 = .ok (.iload_n 3, 1) := by decide +kernel
theorem dL_law_1448 : decode cL_law 1448 = .ok (.iconst 2, 1) := by decide +kernel
theorem dL_law_1449 : decode cL_law 1449 = .ok (.iadd, 1) := by decide +kernel
theorem dL_law_1450 : decode cL_law 1450 = .ok (.iaload, 1) := by decide +kernel
theorem dL_law_1451 : decode cL_law 1451 = .ok (.invokevirtual 172, 3) := by decide +kernel
theorem dL_law_1454 : decode cL_law 1454 = .ok (.aload_n 2, 1) := by decide +kernel
theorem dL_law_1455 : decode cL_law 1455 = .ok (.aload_n 0, 1) := by decide +kernel
theorem dL_law_1456 : decode cL_law 1456 = .ok (.iload_n 3, 1) := by decide +kernel
theorem dL_law_1457 : decode cL_law 1457 = .ok (.iconst 1, 1) := by decide +kernel
theorem dL_law_1458 : decode cL_law 1458 = .ok (.iadd, 1) := by decide +kernel
theorem dL_law_1459 : decode cL_law 1459 = .ok (.iaload, 1) := by decide +kernel
theorem dL_law_1460 : decode cL_law 1460 = .ok (.aload_n 0, 1) := by decide +kernel
theorem dL_law_1461 : decode cL_law 1461 = .ok (.iload_n 3, 1) := by decide +kernel
theorem dL_law_1462 : decode cL_law 1462 = .ok (.iconst 2, 1) := by decide +kernel
theorem dL_law_1463 : decode cL_law 1463 = .ok (.iadd, 1) := by decide +kernel
theorem dL_law_1464 : decode cL_law 1464 = .ok (.iaload, 1) := by decide +kernel
theorem dL_law_1465 : decode cL_law 1465 = .ok (.invokevirtual 175, 3) := by decide +kernel
theorem dL_law_1468 : decode cL_law 1468 = .ok (.if_icmp .eq 80, 3) := by decide +kernel
theorem dL_law_1471 : decode cL_law 1471 = .ok (.iconst 0, 1) := by decide +kernel
theorem dL_law_1472 : decode cL_law 1472 = .ok (.ireturn, 1) := by decide +kernel
theorem dL_law_1473 : decode cL_law 1473 = .ok (.aload_n 1, 1) := by decide +kernel
theorem dL_law_1474 : decode cL_law 1474 = .ok (.invokevirtual 176, 3) := by decide +kernel
theorem dL_law_1477 : decode cL_law 1477 = .ok (.aload_n 2, 1) := by decide +kernel
theorem dL_law_1478 : decode cL_law 1478 = .ok (.invokevirtual 180, 3) := by decide +kernel
theorem dL_law_1481 : decode cL_law 1481 = .ok (.if_icmp .eq 67, 3) := by decide +kernel
theorem dL_law_1484 : decode cL_law 1484 = .ok (.iconst 0, 1) := by decide +kernel
theorem dL_law_1485 : decode cL_law 1485 = .ok (.ireturn, 1) := by decide +kernel
theorem dL_law_1486 : decode cL_law 1486 = .ok (.aload_n 1, 1) := by decide +kernel
theorem dL_law_1487 : decode cL_law 1487 = .ok (.aload_n 0, 1) := by decide +kernel
theorem dL_law_1488 : decode cL_law 1488 = .ok (.iload_n 3, 1) := by decide +kernel
theorem dL_law_1489 : decode cL_law 1489 = .ok (.iconst 1, 1) := by decide +kernel
theorem dL_law_1490 : decode cL_law 1490 = .ok (.iadd, 1) := by decide +kernel
theorem dL_law_1491 : decode cL_law 1491 = .ok (.iaload, 1) := by decide +kernel
theorem dL_law_1492 : decode cL_law 1492 = .ok (.ifCond .eq 7, 3) := by decide +kernel
theorem dL_law_1495 : decode cL_law 1495 = .ok (.iconst 1, 1) := by decide +kernel
theorem dL_law_1496 : decode cL_law 1496 = .ok (.goto 4, 3) := by decide +kernel
theorem dL_law_1499 : decode cL_law 1499 = .ok (.iconst 0, 1) := by decide +kernel
theorem dL_law_1500 : decode cL_law 1500 = .ok (.invokevirtual 181, 3) := by decide +kernel
theorem dL_law_1503 : decode cL_law 1503 = .ok (.aload_n 2, 1) := by decide +kernel
theorem dL_law_1504 : decode cL_law 1504 = .ok (.aload_n 0, 1) := by decide +kernel
theorem dL_law_1505 : decode cL_law 1505 = .ok (.iload_n 3, 1) := by decide +kernel
theorem dL_law_1506 : decode cL_law 1506 = .ok (.iconst 1, 1) := by decide +kernel
theorem dL_law_1507 : decode cL_law 1507 = .ok (.iadd, 1) := by decide +kernel
theorem dL_law_1508 : decode cL_law 1508 = .ok (.iaload, 1) := by decide +kernel
theorem dL_law_1509 : decode cL_law 1509 = .ok (.ifCond .eq 7, 3) := by decide +kernel
theorem dL_law_1512 : decode cL_law 1512 = .ok (.iconst 1, 1) := by decide +kernel
theorem dL_law_1513 : decode cL_law 1513 = .ok (.goto 4, 3) := by decide +kernel
theorem dL_law_1516 : decode cL_law 1516 = .ok (.iconst 0, 1) := by decide +kernel
theorem dL_law_1517 : decode cL_law 1517 = .ok (.invokevirtual 185, 3) := by decide +kernel
theorem dL_law_1520 : decode cL_law 1520 = .ok (.if_icmp .eq 28, 3) := by decide +kernel
theorem dL_law_1523 : decode cL_law 1523 = .ok (.iconst 0, 1) := by decide +kernel
theorem dL_law_1524 : decode cL_law 1524 = .ok (.ireturn, 1) := by decide +kernel
theorem dL_law_1525 : decode cL_law 1525 = .ok (.aload_n 1, 1) := by decide +kernel
theorem dL_law_1526 : decode cL_law 1526 = .ok (.aload_n 0, 1) := by decide +kernel
theorem dL_law_1527 : decode cL_law 1527 = .ok (.iload_n 3, 1) := by decide +kernel
theorem dL_law_1528 : decode cL_law 1528 = .ok (.iconst 1, 1) := by decide +kernel
theorem dL_law_1529 : decode cL_law 1529 = .ok (.iadd, 1) := by decide +kernel
theorem dL_law_1530 : decode cL_law 1530 = .ok (.iaload, 1) := by decide +kernel
theorem dL_law_1531 : decode cL_law 1531 = .ok (.invokevirtual 186, 3) := by decide +kernel
theorem dL_law_1534 : decode cL_law 1534 = .ok (.aload_n 2, 1) := by decide +kernel
theorem dL_law_1535 : decode cL_law 1535 = .ok (.aload_n 0, 1) := by decide +kernel
theorem dL_law_1536 : decode cL_law 1536 = .ok (.iload_n 3, 1) := by decide +kernel
theorem dL_law_1537 : decode cL_law 1537 = .ok (.iconst 1, 1) := by decide +kernel
theorem dL_law_1538 : decode cL_law 1538 = .ok (.iadd, 1) := by decide +kernel
theorem dL_law_1539 : decode cL_law 1539 = .ok (.iaload, 1) := by decide +kernel
theorem dL_law_1540 : decode cL_law 1540 = .ok (.invokevirtual 189, 3) := by decide +kernel
theorem dL_law_1543 : decode cL_law 1543 = .ok (.if_icmp .eq 5, 3) := by decide +kernel
theorem dL_law_1546 : decode cL_law 1546 = .ok (.iconst 0, 1) := by decide +kernel
theorem dL_law_1547 : decode cL_law 1547 = .ok (.ireturn, 1) := by decide +kernel
theorem dL_law_1548 : decode cL_law 1548 = .ok (.iinc 3 6, 3) := by decide +kernel
theorem dL_law_1551 : decode cL_law 1551 = .ok (.goto (-1533), 3) := by decide +kernel
theorem dL_law_1554 : decode cL_law 1554 = .ok (.iconst 1, 1) := by decide +kernel
theorem dL_law_1555 : decode cL_law 1555 = .ok (.ireturn, 1) := by decide +kernel
