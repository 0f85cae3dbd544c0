theorem dk_11_0 : decode prog_13_method_1_code 0 = .ok (.aload_n 0, 1) := by decide +kernel
theorem dk_11_1 : decode prog_13_method_1_code 1 = .ok (.invokespecial 1, 3) := by decide +kernel
theorem dk_11_4 : decode prog_13_method_1_code 4 = .ok (.aload_n 0, 1) := by decide +kernel
theorem dk_11_5 : decode prog_13_method_1_code 5 = .ok (.bipush 12, 2) := by decide +kernel
theorem dk_11_7 : decode prog_13_method_1_code 7 = .ok (.newarray .int, 2) := by decide +kernel
theorem dk_11_9 : decode prog_13_method_1_code 9 = .ok (.putfield 7, 3) := by decide +kernel
theorem dk_11_12 : decode prog_13_method_1_code 12 = .ok (.aload_n 0, 1) := by decide +kernel
theorem dk_11_13 : decode prog_13_method_1_code 13 = .ok (.bipush 12, 2) := by decide +kernel
theorem dk_11_15 : decode prog_13_method_1_code 15 = .ok (.newarray .int, 2) := by decide +kernel
theorem dk_11_17 : decode prog_13_method_1_code 17 = .ok (.putfield 13, 3) := by decide +kernel
theorem dk_11_20 : decode prog_13_method_1_code 20 = .ok (.aload_n 0, 1) := by decide +kernel
theorem dk_11_21 : decode prog_13_method_1_code 21 = .ok (.bipush 12, 2) := by decide +kernel
theorem dk_11_23 : decode prog_13_method_1_code 23 = .ok (.newarray .int, 2) := by decide +kernel
theorem dk_11_25 : decode prog_13_method_1_code 25 = .ok (.putfield 16, 3) := by decide +kernel
theorem dk_11_28 : decode prog_13_method_1_code 28 = .ok (.aload_n 0, 1) := by decide +kernel
theorem dk_11_29 : decode prog_13_method_1_code 29 = .ok (.bipush 30, 2) := by decide +kernel
theorem dk_11_31 : decode prog_13_method_1_code 31 = .ok (.newarray .int, 2) := by decide +kernel
theorem dk_11_33 : decode prog_13_method_1_code 33 = .ok (.putfield 19, 3) := by decide +kernel
theorem dk_11_36 : decode prog_13_method_1_code 36 = .ok (.aload_n 0, 1) := by decide +kernel
theorem dk_11_37 : decode prog_13_method_1_code 37 = .ok (.bipush 30, 2) := by decide +kernel
theorem dk_11_39 : decode prog_13_method_1_code 39 = .ok (.newarray .int, 2) := by decide +kernel
theorem dk_11_41 : decode prog_13_method_1_code 41 = .ok (.putfield 22, 3) := by decide +kernel
theorem dk_11_44 : decode prog_13_method_1_code 44 = .ok (.aload_n 0, 1) := by decide +kernel
theorem dk_11_45 : decode prog_13_method_1_code 45 = .ok (.bipush 30, 2) := by decide +kernel
theorem dk_11_47 : decode prog_13_method_1_code 47 = .ok (.newarray .int, 2) := by decide +kernel
theorem dk_11_49 : decode prog_13_method_1_code 49 = .ok (.putfield 25, 3) := by decide +kernel
theorem dk_11_52 : decode prog_13_method_1_code 52 = .ok (.aload_n 0, 1) := by decide +kernel
theorem dk_11_53 : decode prog_13_method_1_code 53 = .ok (.bipush 30, 2) := by decide +kernel
theorem dk_11_55 : decode prog_13_method_1_code 55 = .ok (.newarray .boolean, 2) := by decide +kernel
theorem dk_11_57 : decode prog_13_method_1_code 57 = .ok (.putfield 28, 3) := by decide +kernel
theorem dk_11_60 : decode prog_13_method_1_code 60 = .ok (.aload_n 0, 1) := by decide +kernel
theorem dk_11_61 : decode prog_13_method_1_code 61 = .ok (.bipush 8, 2) := by decide +kernel
theorem dk_11_63 : decode prog_13_method_1_code 63 = .ok (.newarray .int, 2) := by decide +kernel
theorem dk_11_65 : decode prog_13_method_1_code 65 = .ok (.putfield 32, 3) := by decide +kernel
theorem dk_11_68 : decode prog_13_method_1_code 68 = .ok (.aload_n 0, 1) := by decide +kernel
theorem dk_11_69 : decode prog_13_method_1_code 69 = .ok (.bipush 8, 2) := by decide +kernel
theorem dk_11_71 : decode prog_13_method_1_code 71 = .ok (.newarray .int, 2) := by decide +kernel
theorem dk_11_73 : decode prog_13_method_1_code 73 = .ok (.putfield 35, 3) := by decide +kernel
theorem dk_11_76 : decode prog_13_method_1_code 76 = .ok (.aload_n 0, 1) := by decide +kernel
theorem dk_11_77 : decode prog_13_method_1_code 77 = .ok (.iconst 2, 1) := by decide +kernel
theorem dk_11_78 : decode prog_13_method_1_code 78 = .ok (.newarray .int, 2) := by decide +kernel
theorem dk_11_80 : decode prog_13_method_1_code 80 = .ok (.putfield 38, 3) := by decide +kernel
theorem dk_11_83 : decode prog_13_method_1_code 83 = .ok (.aload_n 0, 1) := by decide +kernel
theorem dk_11_84 : decode prog_13_method_1_code 84 = .ok (.bipush 16, 2) := by decide +kernel
theorem dk_11_86 : decode prog_13_method_1_code 86 = .ok (.newarray .int, 2) := by decide +kernel
theorem dk_11_88 : decode prog_13_method_1_code 88 = .ok (.putfield 41, 3) := by decide +kernel
theorem dk_11_91 : decode prog_13_method_1_code 91 = .ok (.aload_n 0, 1) := by decide +kernel
theorem dk_11_92 : decode prog_13_method_1_code 92 = .ok (.bipush 16, 2) := by decide +kernel
theorem dk_11_94 : decode prog_13_method_1_code 94 = .ok (.newarray .int, 2) := by decide +kernel
theorem dk_11_96 : decode prog_13_method_1_code 96 = .ok (.putfield 44, 3) := by decide +kernel
theorem dk_11_99 : decode prog_13_method_1_code 99 = .ok (.aload_n 0, 1) := by decide +kernel
theorem dk_11_100 : decode prog_13_method_1_code 100 = .ok (.bipush 32, 2) := by decide +kernel
theorem dk_11_102 : decode prog_13_method_1_code 102 = .ok (.newarray .int, 2) := by decide +kernel
theorem dk_11_104 : decode prog_13_method_1_code 104 = .ok (.putfield 47, 3) := by decide +kernel
theorem dk_11_107 : decode prog_13_method_1_code 107 = .ok (.aload_n 0, 1) := by decide +kernel
theorem dk_11_108 : decode prog_13_method_1_code 108 = .ok (.bipush 16, 2) := by decide +kernel
theorem dk_11_110 : decode prog_13_method_1_code 110 = .ok (.newarray .int, 2) := by decide +kernel
theorem dk_11_112 : decode prog_13_method_1_code 112 = .ok (.putfield 50, 3) := by decide +kernel
theorem dk_11_115 : decode prog_13_method_1_code 115 = .ok (.aload_n 0, 1) := by decide +kernel
theorem dk_11_116 : decode prog_13_method_1_code 116 = .ok (.bipush 16, 2) := by decide +kernel
theorem dk_11_118 : decode prog_13_method_1_code 118 = .ok (.newarray .int, 2) := by decide +kernel
theorem dk_11_120 : decode prog_13_method_1_code 120 = .ok (.putfield 53, 3) := by decide +kernel
theorem dk_11_123 : decode prog_13_method_1_code 123 = .ok (.aload_n 0, 1) := by decide +kernel
theorem dk_11_124 : decode prog_13_method_1_code 124 = .ok (.bipush 16, 2) := by decide +kernel
theorem dk_11_126 : decode prog_13_method_1_code 126 = .ok (.newarray .int, 2) := by decide +kernel
theorem dk_11_128 : decode prog_13_method_1_code 128 = .ok (.putfield 56, 3) := by decide +kernel
theorem dk_11_131 : decode prog_13_method_1_code 131 = .ok (.aload_n 0, 1) := by decide +kernel
theorem dk_11_132 : decode prog_13_method_1_code 132 = .ok (.bipush 50, 2) := by decide +kernel
theorem dk_11_134 : decode prog_13_method_1_code 134 = .ok (.newarray .int, 2) := by decide +kernel
theorem dk_11_136 : decode prog_13_method_1_code 136 = .ok (.putfield 59, 3) := by decide +kernel
theorem dk_11_139 : decode prog_13_method_1_code 139 = .ok (.aload_n 0, 1) := by decide +kernel
theorem dk_11_140 : decode prog_13_method_1_code 140 = .ok (.sipush 150, 3) := by decide +kernel
theorem dk_11_143 : decode prog_13_method_1_code 143 = .ok (.newarray .int, 2) := by decide +kernel
theorem dk_11_145 : decode prog_13_method_1_code 145 = .ok (.putfield 62, 3) := by decide +kernel
theorem dk_11_148 : decode prog_13_method_1_code 148 = .ok (.aload_n 0, 1) := by decide +kernel
theorem dk_11_149 : decode prog_13_method_1_code 149 = .ok (.iconst 3, 1) := by decide +kernel
theorem dk_11_150 : decode prog_13_method_1_code 150 = .ok (.newarray .int, 2) := by decide +kernel
theorem dk_11_152 : decode prog_13_method_1_code 152 = .ok (.dup, 1) := by decide +kernel
theorem dk_11_153 : decode prog_13_method_1_code 153 = .ok (.iconst 0, 1) := by decide +kernel
theorem dk_11_154 : decode prog_13_method_1_code 154 = .ok (.iconst (-1), 1) := by decide +kernel
theorem dk_11_155 : decode prog_13_method_1_code 155 = .ok (.iastore, 1) := by decide +kernel
theorem dk_11_156 : decode prog_13_method_1_code 156 = .ok (.dup, 1) := by decide +kernel
theorem dk_11_157 : decode prog_13_method_1_code 157 = .ok (.iconst 1, 1) := by decide +kernel
theorem dk_11_158 : decode prog_13_method_1_code 158 = .ok (.iconst (-1), 1) := by decide +kernel
theorem dk_11_159 : decode prog_13_method_1_code 159 = .ok (.iastore, 1) := by decide +kernel
theorem dk_11_160 : decode prog_13_method_1_code 160 = .ok (.dup, 1) := by decide +kernel
theorem dk_11_161 : decode prog_13_method_1_code 161 = .ok (.iconst 2, 1) := by decide +kernel
theorem dk_11_162 : decode prog_13_method_1_code 162 = .ok (.iconst 0, 1) := by decide +kernel
theorem dk_11_163 : decode prog_13_method_1_code 163 = .ok (.iastore, 1) := by decide +kernel
theorem dk_11_164 : decode prog_13_method_1_code 164 = .ok (.putfield 65, 3) := by decide +kernel
theorem dk_11_167 : decode prog_13_method_1_code 167 = .ok (.aload_n 0, 1) := by decide +kernel
theorem dk_11_168 : decode prog_13_method_1_code 168 = .ok (.bipush 24, 2) := by decide +kernel
theorem dk_11_170 : decode prog_13_method_1_code 170 = .ok (.newarray .int, 2) := by decide +kernel
theorem dk_11_172 : decode prog_13_method_1_code 172 = .ok (.putfield 68, 3) := by decide +kernel
theorem dk_11_175 : decode prog_13_method_1_code 175 = .ok (.aload_n 0, 1) := by decide +kernel
theorem dk_11_176 : decode prog_13_method_1_code 176 = .ok (.bipush 24, 2) := by decide +kernel
theorem dk_11_178 : decode prog_13_method_1_code 178 = .ok (.newarray .int, 2) := by decide +kernel
theorem dk_11_180 : decode prog_13_method_1_code 180 = .ok (.putfield 71, 3) := by decide +kernel
theorem dk_11_183 : decode prog_13_method_1_code 183 = .ok (.aload_n 0, 1) := by decide +kernel
theorem dk_11_184 : decode prog_13_method_1_code 184 = .ok (.bipush 24, 2) := by decide +kernel
theorem dk_11_186 : decode prog_13_method_1_code 186 = .ok (.newarray .int, 2) := by decide +kernel
theorem dk_11_188 : decode prog_13_method_1_code 188 = .ok (.putfield 74, 3) := by decide +kernel
theorem dk_11_191 : decode prog_13_method_1_code 191 = .ok (.aload_n 0, 1) := by decide +kernel
theorem dk_11_192 : decode prog_13_method_1_code 192 = .ok (.bipush 24, 2) := by decide +kernel
theorem dk_11_194 : decode prog_13_method_1_code 194 = .ok (.newarray .boolean, 2) := by decide +kernel
theorem dk_11_196 : decode prog_13_method_1_code 196 = .ok (.putfield 77, 3) := by decide +kernel
theorem dk_11_199 : decode prog_13_method_1_code 199 = .ok (.aload_n 0, 1) := by decide +kernel
theorem dk_11_200 : decode prog_13_method_1_code 200 = .ok (.bipush 12, 2) := by decide +kernel
theorem dk_11_202 : decode prog_13_method_1_code 202 = .ok (.newarray .int, 2) := by decide +kernel
theorem dk_11_204 : decode prog_13_method_1_code 204 = .ok (.putfield 80, 3) := by decide +kernel
theorem dk_11_207 : decode prog_13_method_1_code 207 = .ok (.aload_n 0, 1) := by decide +kernel
theorem dk_11_208 : decode prog_13_method_1_code 208 = .ok (.bipush 12, 2) := by decide +kernel
theorem dk_11_210 : decode prog_13_method_1_code 210 = .ok (.newarray .int, 2) := by decide +kernel
theorem dk_11_212 : decode prog_13_method_1_code 212 = .ok (.putfield 83, 3) := by decide +kernel
theorem dk_11_215 : decode prog_13_method_1_code 215 = .ok (.aload_n 0, 1) := by decide +kernel
theorem dk_11_216 : decode prog_13_method_1_code 216 = .ok (.iconst 2, 1) := by decide +kernel
theorem dk_11_217 : decode prog_13_method_1_code 217 = .ok (.newarray .int, 2) := by decide +kernel
theorem dk_11_219 : decode prog_13_method_1_code 219 = .ok (.dup, 1) := by decide +kernel
theorem dk_11_220 : decode prog_13_method_1_code 220 = .ok (.iconst 0, 1) := by decide +kernel
theorem dk_11_221 : decode prog_13_method_1_code 221 = .ok (.bipush 100, 2) := by decide +kernel
theorem dk_11_223 : decode prog_13_method_1_code 223 = .ok (.iastore, 1) := by decide +kernel
theorem dk_11_224 : decode prog_13_method_1_code 224 = .ok (.dup, 1) := by decide +kernel
theorem dk_11_225 : decode prog_13_method_1_code 225 = .ok (.iconst 1, 1) := by decide +kernel
theorem dk_11_226 : decode prog_13_method_1_code 226 = .ok (.bipush 100, 2) := by decide +kernel
theorem dk_11_228 : decode prog_13_method_1_code 228 = .ok (.iastore, 1) := by decide +kernel
theorem dk_11_229 : decode prog_13_method_1_code 229 = .ok (.putfield 86, 3) := by decide +kernel
theorem dk_11_232 : decode prog_13_method_1_code 232 = .ok (.aload_n 0, 1) := by decide +kernel
theorem dk_11_233 : decode prog_13_method_1_code 233 = .ok (.sipush 9999, 3) := by decide +kernel
theorem dk_11_236 : decode prog_13_method_1_code 236 = .ok (.putfield 89, 3) := by decide +kernel
theorem dk_11_239 : decode prog_13_method_1_code 239 = .ok (.aload_n 0, 1) := by decide +kernel
theorem dk_11_240 : decode prog_13_method_1_code 240 = .ok (.bipush 7, 2) := by decide +kernel
theorem dk_11_242 : decode prog_13_method_1_code 242 = .ok (.putfield 93, 3) := by decide +kernel
theorem dk_11_245 : decode prog_13_method_1_code 245 = .ok (.aload_n 0, 1) := by decide +kernel
theorem dk_11_246 : decode prog_13_method_1_code 246 = .ok (.bipush 10, 2) := by decide +kernel
theorem dk_11_248 : decode prog_13_method_1_code 248 = .ok (.newarray .int, 2) := by decide +kernel
theorem dk_11_250 : decode prog_13_method_1_code 250 = .ok (.putfield 96, 3) := by decide +kernel
theorem dk_11_253 : decode prog_13_method_1_code 253 = .ok (.aload_n 0, 1) := by decide +kernel
theorem dk_11_254 : decode prog_13_method_1_code 254 = .ok (.bipush 120, 2) := by decide +kernel
theorem dk_11_256 : decode prog_13_method_1_code 256 = .ok (.newarray .int, 2) := by decide +kernel
theorem dk_11_258 : decode prog_13_method_1_code 258 = .ok (.putfield 99, 3) := by decide +kernel
theorem dk_11_261 : decode prog_13_method_1_code 261 = .ok (.aload_n 0, 1) := by decide +kernel
theorem dk_11_262 : decode prog_13_method_1_code 262 = .ok (.bipush 120, 2) := by decide +kernel
theorem dk_11_264 : decode prog_13_method_1_code 264 = .ok (.newarray .int, 2) := by decide +kernel
theorem dk_11_266 : decode prog_13_method_1_code 266 = .ok (.putfield 102, 3) := by decide +kernel
theorem dk_11_269 : decode prog_13_method_1_code 269 = .ok (.aload_n 0, 1) := by decide +kernel
theorem dk_11_270 : decode prog_13_method_1_code 270 = .ok (.bipush 10, 2) := by decide +kernel
theorem dk_11_272 : decode prog_13_method_1_code 272 = .ok (.newarray .int, 2) := by decide +kernel
theorem dk_11_274 : decode prog_13_method_1_code 274 = .ok (.putfield 105, 3) := by decide +kernel
theorem dk_11_277 : decode prog_13_method_1_code 277 = .ok (.aload_n 0, 1) := by decide +kernel
theorem dk_11_278 : decode prog_13_method_1_code 278 = .ok (.bipush 10, 2) := by decide +kernel
theorem dk_11_280 : decode prog_13_method_1_code 280 = .ok (.newarray .int, 2) := by decide +kernel
theorem dk_11_282 : decode prog_13_method_1_code 282 = .ok (.putfield 108, 3) := by decide +kernel
theorem dk_11_285 : decode prog_13_method_1_code 285 = .ok (.aload_n 0, 1) := by decide +kernel
theorem dk_11_286 : decode prog_13_method_1_code 286 = .ok (.bipush 10, 2) := by decide +kernel
theorem dk_11_288 : decode prog_13_method_1_code 288 = .ok (.newarray .int, 2) := by decide +kernel
theorem dk_11_290 : decode prog_13_method_1_code 290 = .ok (.putfield 111, 3) := by decide +kernel
theorem dk_11_293 : decode prog_13_method_1_code 293 = .ok (.aload_n 0, 1) := by decide +kernel
theorem dk_11_294 : decode prog_13_method_1_code 294 = .ok (.bipush 10, 2) := by decide +kernel
theorem dk_11_296 : decode prog_13_method_1_code 296 = .ok (.newarray .int, 2) := by decide +kernel
theorem dk_11_298 : decode prog_13_method_1_code 298 = .ok (.putfield 114, 3) := by decide +kernel
theorem dk_11_301 : decode prog_13_method_1_code 301 = .ok (.aload_n 0, 1) := by decide +kernel
theorem dk_11_302 : decode prog_13_method_1_code 302 = .ok (.bipush 10, 2) := by decide +kernel
theorem dk_11_304 : decode prog_13_method_1_code 304 = .ok (.newarray .int, 2) := by decide +kernel
theorem dk_11_306 : decode prog_13_method_1_code 306 = .ok (.putfield 117, 3) := by decide +kernel
theorem dk_11_309 : decode prog_13_method_1_code 309 = .ok (.aload_n 0, 1) := by decide +kernel
theorem dk_11_310 : decode prog_13_method_1_code 310 = .ok (.bipush 9, 2) := by decide +kernel
theorem dk_11_312 : decode prog_13_method_1_code 312 = .ok (.newarray .int, 2) := by decide +kernel
theorem dk_11_314 : decode prog_13_method_1_code 314 = .ok (.putfield 120, 3) := by decide +kernel
theorem dk_11_317 : decode prog_13_method_1_code 317 = .ok (.aload_n 0, 1) := by decide +kernel
theorem dk_11_318 : decode prog_13_method_1_code 318 = .ok (.bipush 9, 2) := by decide +kernel
theorem dk_11_320 : decode prog_13_method_1_code 320 = .ok (.newarray .int, 2) := by decide +kernel
theorem dk_11_322 : decode prog_13_method_1_code 322 = .ok (.putfield 123, 3) := by decide +kernel
theorem dk_11_325 : decode prog_13_method_1_code 325 = .ok (.aload_n 0, 1) := by decide +kernel
theorem dk_11_326 : decode prog_13_method_1_code 326 = .ok (.bipush 16, 2) := by decide +kernel
theorem dk_11_328 : decode prog_13_method_1_code 328 = .ok (.newarray .int, 2) := by decide +kernel
theorem dk_11_330 : decode prog_13_method_1_code 330 = .ok (.putfield 126, 3) := by decide +kernel
theorem dk_11_333 : decode prog_13_method_1_code 333 = .ok (.aload_n 0, 1) := by decide +kernel
theorem dk_11_334 : decode prog_13_method_1_code 334 = .ok (.bipush 6, 2) := by decide +kernel
theorem dk_11_336 : decode prog_13_method_1_code 336 = .ok (.newarray .int, 2) := by decide +kernel
theorem dk_11_338 : decode prog_13_method_1_code 338 = .ok (.putfield 129, 3) := by decide +kernel
theorem dk_11_341 : decode prog_13_method_1_code 341 = .ok (.aload_n 0, 1) := by decide +kernel
theorem dk_11_342 : decode prog_13_method_1_code 342 = .ok (.sipush 144, 3) := by decide +kernel
theorem dk_11_345 : decode prog_13_method_1_code 345 = .ok (.newarray .int, 2) := by decide +kernel
theorem dk_11_347 : decode prog_13_method_1_code 347 = .ok (.putfield 132, 3) := by decide +kernel
theorem dk_11_350 : decode prog_13_method_1_code 350 = .ok (.aload_n 0, 1) := by decide +kernel
theorem dk_11_351 : decode prog_13_method_1_code 351 = .ok (.iconst 4, 1) := by decide +kernel
theorem dk_11_352 : decode prog_13_method_1_code 352 = .ok (.newarray .int, 2) := by decide +kernel
theorem dk_11_354 : decode prog_13_method_1_code 354 = .ok (.putfield 135, 3) := by decide +kernel
theorem dk_11_357 : decode prog_13_method_1_code 357 = .ok (.aload_n 0, 1) := by decide +kernel
theorem dk_11_358 : decode prog_13_method_1_code 358 = .ok (.bipush 24, 2) := by decide +kernel
theorem dk_11_360 : decode prog_13_method_1_code 360 = .ok (.newarray .int, 2) := by decide +kernel
theorem dk_11_362 : decode prog_13_method_1_code 362 = .ok (.putfield 138, 3) := by decide +kernel
theorem dk_11_365 : decode prog_13_method_1_code 365 = .ok (.aload_n 0, 1) := by decide +kernel
theorem dk_11_366 : decode prog_13_method_1_code 366 = .ok (.bipush 24, 2) := by decide +kernel
theorem dk_11_368 : decode prog_13_method_1_code 368 = .ok (.newarray .int, 2) := by decide +kernel
theorem dk_11_370 : decode prog_13_method_1_code 370 = .ok (.putfield 141, 3) := by decide +kernel
theorem dk_11_373 : decode prog_13_method_1_code 373 = .ok (.aload_n 0, 1) := by decide +kernel
theorem dk_11_374 : decode prog_13_method_1_code 374 = .ok (.bipush 24, 2) := by decide +kernel
theorem dk_11_376 : decode prog_13_method_1_code 376 = .ok (.newarray .int, 2) := by decide +kernel
theorem dk_11_378 : decode prog_13_method_1_code 378 = .ok (.putfield 144, 3) := by decide +kernel
theorem dk_11_381 : decode prog_13_method_1_code 381 = .ok (.aload_n 0, 1) := by decide +kernel
theorem dk_11_382 : decode prog_13_method_1_code 382 = .ok (.sipush 512, 3) := by decide +kernel
theorem dk_11_385 : decode prog_13_method_1_code 385 = .ok (.newarray .int, 2) := by decide +kernel
theorem dk_11_387 : decode prog_13_method_1_code 387 = .ok (.putfield 147, 3) := by decide +kernel
theorem dk_11_390 : decode prog_13_method_1_code 390 = .ok (.aload_n 0, 1) := by decide +kernel
theorem dk_11_391 : decode prog_13_method_1_code 391 = .ok (.sipush 512, 3) := by decide +kernel
theorem dk_11_394 : decode prog_13_method_1_code 394 = .ok (.newarray .int, 2) := by decide +kernel
theorem dk_11_396 : decode prog_13_method_1_code 396 = .ok (.putfield 150, 3) := by decide +kernel
theorem dk_11_399 : decode prog_13_method_1_code 399 = .ok (.aload_n 0, 1) := by decide +kernel
theorem dk_11_400 : decode prog_13_method_1_code 400 = .ok (.iconst 0, 1) := by decide +kernel
theorem dk_11_401 : decode prog_13_method_1_code 401 = .ok (.putfield 153, 3) := by decide +kernel
theorem dk_11_404 : decode prog_13_method_1_code 404 = .ok (.return_, 1) := by decide +kernel
def ct_F11 (aC : Nat → ClassId) (h0 : Nat) (g : Nat → Nat) : va_W := (h0, .inr (11, [.int (0 : Int32), .int 0, .ref (g 1), .ref (g 2), .ref (g 3), .int 0, .ref (g 4), .ref (g 5), .ref (g 6), .ref (g 7), .int 0, .ref (g 8), .ref (g 9), .ref (g 10), .int 0, .ref (g 11), .ref (g 12), .ref (g 13), .ref (g 14), .ref (g 15), .ref (g 16), .ref (g 17), .int 0, .ref (g 18), .ref (g 19), .int 0, .int 0, .ref (g 20), .ref (g 21), .ref (g 22), .ref (g 23), .int 0, .ref (g 24), .ref (g 25), .ref (g 26), .int (9999 : Int32), .int (7 : Int32), .int 0, .ref (g 27), .ref (g 28), .ref (g 29), .ref (g 30), .int 0, .ref (g 31), .ref (g 32), .ref (g 33), .ref (g 34), .int 0, .ref (g 35), .ref (g 36), .int 0, .ref (g 37), .ref (g 38), .ref (g 39), .ref (g 40), .int 0, .int 0, .int 0, .int 0, .int 0, .int 0, .ref (g 41), .ref (g 42), .ref (g 43), .int 0, .ref (g 44), .ref (g 45)])) :: (((((((((((((((((((((((((((((((((((((((((((((([] : va_W) ++ [((g 1), .inl (aC 0, 12, .inl (fun _ => 0)))]) ++ [((g 2), .inl (aC 0, 12, .inl (fun _ => 0)))]) ++ [((g 3), .inl (aC 0, 12, .inl (fun _ => 0)))]) ++ [((g 4), .inl (aC 0, 30, .inl (fun _ => 0)))]) ++ [((g 5), .inl (aC 0, 30, .inl (fun _ => 0)))]) ++ [((g 6), .inl (aC 0, 30, .inl (fun _ => 0)))]) ++ [((g 7), .inl (aC 1, 30, .inl (fun _ => 0)))]) ++ [((g 8), .inl (aC 0, 8, .inl (fun _ => 0)))]) ++ [((g 9), .inl (aC 0, 8, .inl (fun _ => 0)))]) ++ [((g 10), .inl (aC 0, 2, .inl (fun _ => 0)))]) ++ [((g 11), .inl (aC 0, 16, .inl (fun _ => 0)))]) ++ [((g 12), .inl (aC 0, 16, .inl (fun _ => 0)))]) ++ [((g 13), .inl (aC 0, 32, .inl (fun _ => 0)))]) ++ [((g 14), .inl (aC 0, 16, .inl (fun _ => 0)))]) ++ [((g 15), .inl (aC 0, 16, .inl (fun _ => 0)))]) ++ [((g 16), .inl (aC 0, 16, .inl (fun _ => 0)))]) ++ [((g 17), .inl (aC 0, 50, .inl (fun _ => 0)))]) ++ [((g 18), .inl (aC 0, 150, .inl (fun _ => 0)))]) ++ [((g 19), .inl (aC 0, 3, .inl (upd (upd (upd (fun _ => 0) 0 (-1 : Int32)) 1 (-1 : Int32)) 2 (0 : Int32))))]) ++ [((g 20), .inl (aC 0, 24, .inl (fun _ => 0)))]) ++ [((g 21), .inl (aC 0, 24, .inl (fun _ => 0)))]) ++ [((g 22), .inl (aC 0, 24, .inl (fun _ => 0)))]) ++ [((g 23), .inl (aC 1, 24, .inl (fun _ => 0)))]) ++ [((g 24), .inl (aC 0, 12, .inl (fun _ => 0)))]) ++ [((g 25), .inl (aC 0, 12, .inl (fun _ => 0)))]) ++ [((g 26), .inl (aC 0, 2, .inl (upd (upd (fun _ => 0) 0 (100 : Int32)) 1 (100 : Int32))))]) ++ [((g 27), .inl (aC 0, 10, .inl (fun _ => 0)))]) ++ [((g 28), .inl (aC 0, 120, .inl (fun _ => 0)))]) ++ [((g 29), .inl (aC 0, 120, .inl (fun _ => 0)))]) ++ [((g 30), .inl (aC 0, 10, .inl (fun _ => 0)))]) ++ [((g 31), .inl (aC 0, 10, .inl (fun _ => 0)))]) ++ [((g 32), .inl (aC 0, 10, .inl (fun _ => 0)))]) ++ [((g 33), .inl (aC 0, 10, .inl (fun _ => 0)))]) ++ [((g 34), .inl (aC 0, 10, .inl (fun _ => 0)))]) ++ [((g 35), .inl (aC 0, 9, .inl (fun _ => 0)))]) ++ [((g 36), .inl (aC 0, 9, .inl (fun _ => 0)))]) ++ [((g 37), .inl (aC 0, 16, .inl (fun _ => 0)))]) ++ [((g 38), .inl (aC 0, 6, .inl (fun _ => 0)))]) ++ [((g 39), .inl (aC 0, 144, .inl (fun _ => 0)))]) ++ [((g 40), .inl (aC 0, 4, .inl (fun _ => 0)))]) ++ [((g 41), .inl (aC 0, 24, .inl (fun _ => 0)))]) ++ [((g 42), .inl (aC 0, 24, .inl (fun _ => 0)))]) ++ [((g 43), .inl (aC 0, 24, .inl (fun _ => 0)))]) ++ [((g 44), .inl (aC 0, 512, .inl (fun _ => 0)))]) ++ [((g 45), .inl (aC 0, 512, .inl (fun _ => 0)))])
set_option maxHeartbeats 4000000 in
set_option maxRecDepth 100000 in
theorem ct_11 (l : Launch) (D : va_G) (aC : Nat → ClassId) : ct_Met l D aC (ct_N aC) ⟨"PartedLandModel", "<init>", "()V"⟩ prog_13_method_1_code { frames := 1, cells := 45, slots := 2195, locals := 12 } 11 [.int 0, .int 0, .null, .null, .null, .int 0, .null, .null, .null, .null, .int 0, .null, .null, .null, .int 0, .null, .null, .null, .null, .null, .null, .null, .int 0, .null, .null, .int 0, .int 0, .null, .null, .null, .null, .int 0, .null, .null, .null, .int 0, .int 0, .int 0, .null, .null, .null, .null, .int 0, .null, .null, .null, .null, .int 0, .null, .null, .int 0, .null, .null, .null, .null, .int 0, .int 0, .int 0, .int 0, .int 0, .int 0, .null, .null, .null, .int 0, .null, .null] (ct_F11 aC) 45 2195 := by
  intro h0 sz
  refine Met.ofW (cc := prog_13_method_1_code) (maxL := 1) (ret := none) (by decide) rfl ?_
  intro p e s m args below meth c s₁ B hml hv
  obtain ⟨rfl, hsz, hP, hK, hN⟩ := hv
  have hx := B.exec
  have hb := B.bytes
  have hr := B.returns
  have hts0 := atoms_spec (ws := Cond.code (⟨"PartedLandModel", "<init>", "()V"⟩ : MethodName) prog_13_method_1_code 1 none :: am_tbl) B.pre
  have hts : ∀ w ∈ am_tbl, w.before _ s = true := fun w hw => hts0 w (List.mem_cons_of_mem _ hw)
  have hown : s.vm.findClass "PartedLandModel" = some m.cls := findClass_of_methodNamed B.named
  have hlocks := B.notSynchronized
  have hin : meth.name = "<init>" := (name_of_methodNamed B.named B.method).1
  subst hsz
  obtain ⟨A, hAe⟩ : ∃ A, A = va_A [(h0, .inr (11, [.int 0, .int 0, .null, .null, .null, .int 0, .null, .null, .null, .null, .int 0, .null, .null, .null, .int 0, .null, .null, .null, .null, .null, .null, .null, .int 0, .null, .null, .int 0, .int 0, .null, .null, .null, .null, .int 0, .null, .null, .null, .int 0, .int 0, .int 0, .null, .null, .null, .null, .int 0, .null, .null, .null, .null, .int 0, .null, .null, .int 0, .null, .null, .null, .null, .int 0, .int 0, .int 0, .int 0, .int 0, .int 0, .null, .null, .null, .int 0, .null, .null]))] s.heap.size := ⟨_, rfl⟩
  have hD : va_D A [(h0, .inr (11, [.int 0, .int 0, .null, .null, .null, .int 0, .null, .null, .null, .null, .int 0, .null, .null, .null, .int 0, .null, .null, .null, .null, .null, .null, .null, .int 0, .null, .null, .int 0, .int 0, .null, .null, .null, .null, .int 0, .null, .null, .null, .int 0, .int 0, .int 0, .null, .null, .null, .null, .int 0, .null, .null, .null, .null, .int 0, .null, .null, .int 0, .null, .null, .null, .null, .int 0, .int 0, .int 0, .int 0, .int 0, .int 0, .null, .null, .null, .int 0, .null, .null]))] := by rw [hAe]; exact ct_D1 _ (va_A.in (k := 0) rfl)
  have hA : ∀ q : Nat, s.heap.size ≤ q → A q := fun q h => by rw [hAe]; exact Or.inr h
  have hS : va_S A s.heap s.heap [] := va_S.rf
  have hP : va_P D am_cl [(h0, .inr (11, [.int 0, .int 0, .null, .null, .null, .int 0, .null, .null, .null, .null, .int 0, .null, .null, .null, .int 0, .null, .null, .null, .null, .null, .null, .null, .int 0, .null, .null, .int 0, .int 0, .null, .null, .null, .null, .int 0, .null, .null, .null, .int 0, .int 0, .int 0, .null, .null, .null, .null, .int 0, .null, .null, .null, .null, .int 0, .null, .null, .int 0, .null, .null, .null, .null, .int 0, .int 0, .int 0, .int 0, .int 0, .int 0, .null, .null, .null, .int 0, .null, .null]))] s.heap := hP
  have hl := lv_entry ([.ref h0]) (n := 1) (Nat.le_of_ble_eq_true rfl)
  rw [lg_entry_eq]
  generalize (lg_sl ([.ref h0]) ++ List.replicate (1 - (lg_sl ([.ref h0])).length) Slot.unset).toArray = ls at hl ⊢
  have hl : lv_has ls 1 [(0, .ref h0)] := hl
  refine lv_aload_n hx hb dk_11_0 rfl (lv_at hl 0 rfl) ?_
  refine ct_obj hx hb hts hown (am_mem_in (p := 1073) (by decide +kernel)) (hml.trans hl.1.symm) dk_11_1 (Nat.le_of_ble_eq_true rfl) (Nat.le_of_ble_eq_true rfl) ?_
  refine lv_aload_n hx hb dk_11_4 rfl (lv_at hl 0 rfl) ?_
  refine lv_bipush (v := (12 : Int32)) hx hb dk_11_5 (by decide) ?_
  refine ct_newi hx hb (hts _ ct_ai) hK hP hD hS hA (by decide) rfl (by decide) (Nat.le_of_ble_eq_true rfl) (Nat.le_of_ble_eq_true rfl) dk_11_7 (fun q1 H hP hD hS => ?_)
  refine ct_putL (own := "PartedLandModel") (T := TX11) (N := 67) (ci := 11) (f := 2) hx hb hts hown hin hK hP hD hS rfl (am_ckf_ok (show am_ckf "PartedLandModel" pf_11 7 (some (11, 2, 2)) = true from am_rng klf_11 7 (by decide))) rfl rfl rfl rfl (Nat.le_of_ble_eq_true rfl) dk_11_9 (fun H locs hP hD hS => ?_)
  refine lv_aload_n hx hb dk_11_12 rfl (lv_at hl 0 rfl) ?_
  refine lv_bipush (v := (12 : Int32)) hx hb dk_11_13 (by decide) ?_
  refine ct_newi hx hb (hts _ ct_ai) hK hP hD hS hA (by decide) rfl (by decide) (Nat.le_of_ble_eq_true rfl) (Nat.le_of_ble_eq_true rfl) dk_11_15 (fun q2 H hP hD hS => ?_)
  refine ct_putL (own := "PartedLandModel") (T := TX11) (N := 67) (ci := 11) (f := 3) hx hb hts hown hin hK hP hD hS rfl (am_ckf_ok (show am_ckf "PartedLandModel" pf_11 13 (some (11, 3, 2)) = true from am_rng klf_11 13 (by decide))) rfl rfl rfl rfl (Nat.le_of_ble_eq_true rfl) dk_11_17 (fun H locs hP hD hS => ?_)
  refine lv_aload_n hx hb dk_11_20 rfl (lv_at hl 0 rfl) ?_
  refine lv_bipush (v := (12 : Int32)) hx hb dk_11_21 (by decide) ?_
  refine ct_newi hx hb (hts _ ct_ai) hK hP hD hS hA (by decide) rfl (by decide) (Nat.le_of_ble_eq_true rfl) (Nat.le_of_ble_eq_true rfl) dk_11_23 (fun q3 H hP hD hS => ?_)
  refine ct_putL (own := "PartedLandModel") (T := TX11) (N := 67) (ci := 11) (f := 4) hx hb hts hown hin hK hP hD hS rfl (am_ckf_ok (show am_ckf "PartedLandModel" pf_11 16 (some (11, 4, 2)) = true from am_rng klf_11 16 (by decide))) rfl rfl rfl rfl (Nat.le_of_ble_eq_true rfl) dk_11_25 (fun H locs hP hD hS => ?_)
  refine lv_aload_n hx hb dk_11_28 rfl (lv_at hl 0 rfl) ?_
  refine lv_bipush (v := (30 : Int32)) hx hb dk_11_29 (by decide) ?_
  refine ct_newi hx hb (hts _ ct_ai) hK hP hD hS hA (by decide) rfl (by decide) (Nat.le_of_ble_eq_true rfl) (Nat.le_of_ble_eq_true rfl) dk_11_31 (fun q4 H hP hD hS => ?_)
  refine ct_putL (own := "PartedLandModel") (T := TX11) (N := 67) (ci := 11) (f := 6) hx hb hts hown hin hK hP hD hS rfl (am_ckf_ok (show am_ckf "PartedLandModel" pf_11 19 (some (11, 6, 2)) = true from am_rng klf_11 19 (by decide))) rfl rfl rfl rfl (Nat.le_of_ble_eq_true rfl) dk_11_33 (fun H locs hP hD hS => ?_)
  refine lv_aload_n hx hb dk_11_36 rfl (lv_at hl 0 rfl) ?_
  refine lv_bipush (v := (30 : Int32)) hx hb dk_11_37 (by decide) ?_
  refine ct_newi hx hb (hts _ ct_ai) hK hP hD hS hA (by decide) rfl (by decide) (Nat.le_of_ble_eq_true rfl) (Nat.le_of_ble_eq_true rfl) dk_11_39 (fun q5 H hP hD hS => ?_)
  refine ct_putL (own := "PartedLandModel") (T := TX11) (N := 67) (ci := 11) (f := 7) hx hb hts hown hin hK hP hD hS rfl (am_ckf_ok (show am_ckf "PartedLandModel" pf_11 22 (some (11, 7, 2)) = true from am_rng klf_11 22 (by decide))) rfl rfl rfl rfl (Nat.le_of_ble_eq_true rfl) dk_11_41 (fun H locs hP hD hS => ?_)
  refine lv_aload_n hx hb dk_11_44 rfl (lv_at hl 0 rfl) ?_
  refine lv_bipush (v := (30 : Int32)) hx hb dk_11_45 (by decide) ?_
  refine ct_newi hx hb (hts _ ct_ai) hK hP hD hS hA (by decide) rfl (by decide) (Nat.le_of_ble_eq_true rfl) (Nat.le_of_ble_eq_true rfl) dk_11_47 (fun q6 H hP hD hS => ?_)
  refine ct_putL (own := "PartedLandModel") (T := TX11) (N := 67) (ci := 11) (f := 8) hx hb hts hown hin hK hP hD hS rfl (am_ckf_ok (show am_ckf "PartedLandModel" pf_11 25 (some (11, 8, 2)) = true from am_rng klf_11 25 (by decide))) rfl rfl rfl rfl (Nat.le_of_ble_eq_true rfl) dk_11_49 (fun H locs hP hD hS => ?_)
  refine lv_aload_n hx hb dk_11_52 rfl (lv_at hl 0 rfl) ?_
  refine lv_bipush (v := (30 : Int32)) hx hb dk_11_53 (by decide) ?_
  refine ct_newz hx hb (hts _ ct_az) hK hP hD hS hA (by decide) rfl (by decide) (Nat.le_of_ble_eq_true rfl) (Nat.le_of_ble_eq_true rfl) dk_11_55 (fun q7 H hP hD hS => ?_)
  refine ct_putL (own := "PartedLandModel") (T := TX11) (N := 67) (ci := 11) (f := 9) hx hb hts hown hin hK hP hD hS rfl (am_ckf_ok (show am_ckf "PartedLandModel" pf_11 28 (some (11, 9, 2)) = true from am_rng klf_11 28 (by decide))) rfl rfl rfl rfl (Nat.le_of_ble_eq_true rfl) dk_11_57 (fun H locs hP hD hS => ?_)
  refine lv_aload_n hx hb dk_11_60 rfl (lv_at hl 0 rfl) ?_
  refine lv_bipush (v := (8 : Int32)) hx hb dk_11_61 (by decide) ?_
  refine ct_newi hx hb (hts _ ct_ai) hK hP hD hS hA (by decide) rfl (by decide) (Nat.le_of_ble_eq_true rfl) (Nat.le_of_ble_eq_true rfl) dk_11_63 (fun q8 H hP hD hS => ?_)
  refine ct_putL (own := "PartedLandModel") (T := TX11) (N := 67) (ci := 11) (f := 11) hx hb hts hown hin hK hP hD hS rfl (am_ckf_ok (show am_ckf "PartedLandModel" pf_11 32 (some (11, 11, 2)) = true from am_rng klf_11 32 (by decide))) rfl rfl rfl rfl (Nat.le_of_ble_eq_true rfl) dk_11_65 (fun H locs hP hD hS => ?_)
  refine lv_aload_n hx hb dk_11_68 rfl (lv_at hl 0 rfl) ?_
  refine lv_bipush (v := (8 : Int32)) hx hb dk_11_69 (by decide) ?_
  refine ct_newi hx hb (hts _ ct_ai) hK hP hD hS hA (by decide) rfl (by decide) (Nat.le_of_ble_eq_true rfl) (Nat.le_of_ble_eq_true rfl) dk_11_71 (fun q9 H hP hD hS => ?_)
  refine ct_putL (own := "PartedLandModel") (T := TX11) (N := 67) (ci := 11) (f := 12) hx hb hts hown hin hK hP hD hS rfl (am_ckf_ok (show am_ckf "PartedLandModel" pf_11 35 (some (11, 12, 2)) = true from am_rng klf_11 35 (by decide))) rfl rfl rfl rfl (Nat.le_of_ble_eq_true rfl) dk_11_73 (fun H locs hP hD hS => ?_)
  refine lv_aload_n hx hb dk_11_76 rfl (lv_at hl 0 rfl) ?_
  refine lv_iconst (v := (2 : Int32)) hx hb dk_11_77 (by decide) ?_
  refine ct_newi hx hb (hts _ ct_ai) hK hP hD hS hA (by decide) rfl (by decide) (Nat.le_of_ble_eq_true rfl) (Nat.le_of_ble_eq_true rfl) dk_11_78 (fun q10 H hP hD hS => ?_)
  refine ct_putL (own := "PartedLandModel") (T := TX11) (N := 67) (ci := 11) (f := 13) hx hb hts hown hin hK hP hD hS rfl (am_ckf_ok (show am_ckf "PartedLandModel" pf_11 38 (some (11, 13, 2)) = true from am_rng klf_11 38 (by decide))) rfl rfl rfl rfl (Nat.le_of_ble_eq_true rfl) dk_11_80 (fun H locs hP hD hS => ?_)
  refine lv_aload_n hx hb dk_11_83 rfl (lv_at hl 0 rfl) ?_
  refine lv_bipush (v := (16 : Int32)) hx hb dk_11_84 (by decide) ?_
  refine ct_newi hx hb (hts _ ct_ai) hK hP hD hS hA (by decide) rfl (by decide) (Nat.le_of_ble_eq_true rfl) (Nat.le_of_ble_eq_true rfl) dk_11_86 (fun q11 H hP hD hS => ?_)
  refine ct_putL (own := "PartedLandModel") (T := TX11) (N := 67) (ci := 11) (f := 15) hx hb hts hown hin hK hP hD hS rfl (am_ckf_ok (show am_ckf "PartedLandModel" pf_11 41 (some (11, 15, 2)) = true from am_rng klf_11 41 (by decide))) rfl rfl rfl rfl (Nat.le_of_ble_eq_true rfl) dk_11_88 (fun H locs hP hD hS => ?_)
  refine lv_aload_n hx hb dk_11_91 rfl (lv_at hl 0 rfl) ?_
  refine lv_bipush (v := (16 : Int32)) hx hb dk_11_92 (by decide) ?_
  refine ct_newi hx hb (hts _ ct_ai) hK hP hD hS hA (by decide) rfl (by decide) (Nat.le_of_ble_eq_true rfl) (Nat.le_of_ble_eq_true rfl) dk_11_94 (fun q12 H hP hD hS => ?_)
  refine ct_putL (own := "PartedLandModel") (T := TX11) (N := 67) (ci := 11) (f := 16) hx hb hts hown hin hK hP hD hS rfl (am_ckf_ok (show am_ckf "PartedLandModel" pf_11 44 (some (11, 16, 2)) = true from am_rng klf_11 44 (by decide))) rfl rfl rfl rfl (Nat.le_of_ble_eq_true rfl) dk_11_96 (fun H locs hP hD hS => ?_)
  refine lv_aload_n hx hb dk_11_99 rfl (lv_at hl 0 rfl) ?_
  refine lv_bipush (v := (32 : Int32)) hx hb dk_11_100 (by decide) ?_
  refine ct_newi hx hb (hts _ ct_ai) hK hP hD hS hA (by decide) rfl (by decide) (Nat.le_of_ble_eq_true rfl) (Nat.le_of_ble_eq_true rfl) dk_11_102 (fun q13 H hP hD hS => ?_)
  refine ct_putL (own := "PartedLandModel") (T := TX11) (N := 67) (ci := 11) (f := 17) hx hb hts hown hin hK hP hD hS rfl (am_ckf_ok (show am_ckf "PartedLandModel" pf_11 47 (some (11, 17, 2)) = true from am_rng klf_11 47 (by decide))) rfl rfl rfl rfl (Nat.le_of_ble_eq_true rfl) dk_11_104 (fun H locs hP hD hS => ?_)
  refine lv_aload_n hx hb dk_11_107 rfl (lv_at hl 0 rfl) ?_
  refine lv_bipush (v := (16 : Int32)) hx hb dk_11_108 (by decide) ?_
  refine ct_newi hx hb (hts _ ct_ai) hK hP hD hS hA (by decide) rfl (by decide) (Nat.le_of_ble_eq_true rfl) (Nat.le_of_ble_eq_true rfl) dk_11_110 (fun q14 H hP hD hS => ?_)
  refine ct_putL (own := "PartedLandModel") (T := TX11) (N := 67) (ci := 11) (f := 18) hx hb hts hown hin hK hP hD hS rfl (am_ckf_ok (show am_ckf "PartedLandModel" pf_11 50 (some (11, 18, 2)) = true from am_rng klf_11 50 (by decide))) rfl rfl rfl rfl (Nat.le_of_ble_eq_true rfl) dk_11_112 (fun H locs hP hD hS => ?_)
  refine lv_aload_n hx hb dk_11_115 rfl (lv_at hl 0 rfl) ?_
  refine lv_bipush (v := (16 : Int32)) hx hb dk_11_116 (by decide) ?_
  refine ct_newi hx hb (hts _ ct_ai) hK hP hD hS hA (by decide) rfl (by decide) (Nat.le_of_ble_eq_true rfl) (Nat.le_of_ble_eq_true rfl) dk_11_118 (fun q15 H hP hD hS => ?_)
  refine ct_putL (own := "PartedLandModel") (T := TX11) (N := 67) (ci := 11) (f := 19) hx hb hts hown hin hK hP hD hS rfl (am_ckf_ok (show am_ckf "PartedLandModel" pf_11 53 (some (11, 19, 2)) = true from am_rng klf_11 53 (by decide))) rfl rfl rfl rfl (Nat.le_of_ble_eq_true rfl) dk_11_120 (fun H locs hP hD hS => ?_)
  refine lv_aload_n hx hb dk_11_123 rfl (lv_at hl 0 rfl) ?_
  refine lv_bipush (v := (16 : Int32)) hx hb dk_11_124 (by decide) ?_
  refine ct_newi hx hb (hts _ ct_ai) hK hP hD hS hA (by decide) rfl (by decide) (Nat.le_of_ble_eq_true rfl) (Nat.le_of_ble_eq_true rfl) dk_11_126 (fun q16 H hP hD hS => ?_)
  refine ct_putL (own := "PartedLandModel") (T := TX11) (N := 67) (ci := 11) (f := 20) hx hb hts hown hin hK hP hD hS rfl (am_ckf_ok (show am_ckf "PartedLandModel" pf_11 56 (some (11, 20, 2)) = true from am_rng klf_11 56 (by decide))) rfl rfl rfl rfl (Nat.le_of_ble_eq_true rfl) dk_11_128 (fun H locs hP hD hS => ?_)
  refine lv_aload_n hx hb dk_11_131 rfl (lv_at hl 0 rfl) ?_
  refine lv_bipush (v := (50 : Int32)) hx hb dk_11_132 (by decide) ?_
  refine ct_newi hx hb (hts _ ct_ai) hK hP hD hS hA (by decide) rfl (by decide) (Nat.le_of_ble_eq_true rfl) (Nat.le_of_ble_eq_true rfl) dk_11_134 (fun q17 H hP hD hS => ?_)
  refine ct_putL (own := "PartedLandModel") (T := TX11) (N := 67) (ci := 11) (f := 21) hx hb hts hown hin hK hP hD hS rfl (am_ckf_ok (show am_ckf "PartedLandModel" pf_11 59 (some (11, 21, 2)) = true from am_rng klf_11 59 (by decide))) rfl rfl rfl rfl (Nat.le_of_ble_eq_true rfl) dk_11_136 (fun H locs hP hD hS => ?_)
  refine lv_aload_n hx hb dk_11_139 rfl (lv_at hl 0 rfl) ?_
  refine lv_sipush (v := (150 : Int32)) hx hb dk_11_140 (by decide) ?_
  refine ct_newi hx hb (hts _ ct_ai) hK hP hD hS hA (by decide) rfl (by decide) (Nat.le_of_ble_eq_true rfl) (Nat.le_of_ble_eq_true rfl) dk_11_143 (fun q18 H hP hD hS => ?_)
  refine ct_putL (own := "PartedLandModel") (T := TX11) (N := 67) (ci := 11) (f := 23) hx hb hts hown hin hK hP hD hS rfl (am_ckf_ok (show am_ckf "PartedLandModel" pf_11 62 (some (11, 23, 2)) = true from am_rng klf_11 62 (by decide))) rfl rfl rfl rfl (Nat.le_of_ble_eq_true rfl) dk_11_145 (fun H locs hP hD hS => ?_)
  refine lv_aload_n hx hb dk_11_148 rfl (lv_at hl 0 rfl) ?_
  refine lv_iconst (v := (3 : Int32)) hx hb dk_11_149 (by decide) ?_
  refine ct_newi hx hb (hts _ ct_ai) hK hP hD hS hA (by decide) rfl (by decide) (Nat.le_of_ble_eq_true rfl) (Nat.le_of_ble_eq_true rfl) dk_11_150 (fun q19 H hP hD hS => ?_)
  refine lv_dup hx hb dk_11_152 rfl ?_
  refine lv_iconst (v := (0 : Int32)) hx hb dk_11_153 (by decide) ?_
  refine lv_iconst (v := (-1 : Int32)) hx hb dk_11_154 (by decide) ?_
  refine ct_iastL (x := (-1 : Int32)) hx hb hK hP hD hS (by unfold vp_in; decide) dk_11_155 (fun H locs hP hD hS => ?_)
  refine lv_dup hx hb dk_11_156 rfl ?_
  refine lv_iconst (v := (1 : Int32)) hx hb dk_11_157 (by decide) ?_
  refine lv_iconst (v := (-1 : Int32)) hx hb dk_11_158 (by decide) ?_
  refine ct_iastL (x := (-1 : Int32)) hx hb hK hP hD hS (by unfold vp_in; decide) dk_11_159 (fun H locs hP hD hS => ?_)
  refine lv_dup hx hb dk_11_160 rfl ?_
  refine lv_iconst (v := (2 : Int32)) hx hb dk_11_161 (by decide) ?_
  refine lv_iconst (v := (0 : Int32)) hx hb dk_11_162 (by decide) ?_
  refine ct_iastL (x := (0 : Int32)) hx hb hK hP hD hS (by unfold vp_in; decide) dk_11_163 (fun H locs hP hD hS => ?_)
  refine ct_putL (own := "PartedLandModel") (T := TX11) (N := 67) (ci := 11) (f := 24) hx hb hts hown hin hK hP hD hS rfl (am_ckf_ok (show am_ckf "PartedLandModel" pf_11 65 (some (11, 24, 2)) = true from am_rng klf_11 65 (by decide))) rfl rfl rfl rfl (Nat.le_of_ble_eq_true rfl) dk_11_164 (fun H locs hP hD hS => ?_)
  refine lv_aload_n hx hb dk_11_167 rfl (lv_at hl 0 rfl) ?_
  refine lv_bipush (v := (24 : Int32)) hx hb dk_11_168 (by decide) ?_
  refine ct_newi hx hb (hts _ ct_ai) hK hP hD hS hA (by decide) rfl (by decide) (Nat.le_of_ble_eq_true rfl) (Nat.le_of_ble_eq_true rfl) dk_11_170 (fun q20 H hP hD hS => ?_)
  refine ct_putL (own := "PartedLandModel") (T := TX11) (N := 67) (ci := 11) (f := 27) hx hb hts hown hin hK hP hD hS rfl (am_ckf_ok (show am_ckf "PartedLandModel" pf_11 68 (some (11, 27, 2)) = true from am_rng klf_11 68 (by decide))) rfl rfl rfl rfl (Nat.le_of_ble_eq_true rfl) dk_11_172 (fun H locs hP hD hS => ?_)
  refine lv_aload_n hx hb dk_11_175 rfl (lv_at hl 0 rfl) ?_
  refine lv_bipush (v := (24 : Int32)) hx hb dk_11_176 (by decide) ?_
  refine ct_newi hx hb (hts _ ct_ai) hK hP hD hS hA (by decide) rfl (by decide) (Nat.le_of_ble_eq_true rfl) (Nat.le_of_ble_eq_true rfl) dk_11_178 (fun q21 H hP hD hS => ?_)
  refine ct_putL (own := "PartedLandModel") (T := TX11) (N := 67) (ci := 11) (f := 28) hx hb hts hown hin hK hP hD hS rfl (am_ckf_ok (show am_ckf "PartedLandModel" pf_11 71 (some (11, 28, 2)) = true from am_rng klf_11 71 (by decide))) rfl rfl rfl rfl (Nat.le_of_ble_eq_true rfl) dk_11_180 (fun H locs hP hD hS => ?_)
  refine lv_aload_n hx hb dk_11_183 rfl (lv_at hl 0 rfl) ?_
  refine lv_bipush (v := (24 : Int32)) hx hb dk_11_184 (by decide) ?_
  refine ct_newi hx hb (hts _ ct_ai) hK hP hD hS hA (by decide) rfl (by decide) (Nat.le_of_ble_eq_true rfl) (Nat.le_of_ble_eq_true rfl) dk_11_186 (fun q22 H hP hD hS => ?_)
  refine ct_putL (own := "PartedLandModel") (T := TX11) (N := 67) (ci := 11) (f := 29) hx hb hts hown hin hK hP hD hS rfl (am_ckf_ok (show am_ckf "PartedLandModel" pf_11 74 (some (11, 29, 2)) = true from am_rng klf_11 74 (by decide))) rfl rfl rfl rfl (Nat.le_of_ble_eq_true rfl) dk_11_188 (fun H locs hP hD hS => ?_)
  refine lv_aload_n hx hb dk_11_191 rfl (lv_at hl 0 rfl) ?_
  refine lv_bipush (v := (24 : Int32)) hx hb dk_11_192 (by decide) ?_
  refine ct_newz hx hb (hts _ ct_az) hK hP hD hS hA (by decide) rfl (by decide) (Nat.le_of_ble_eq_true rfl) (Nat.le_of_ble_eq_true rfl) dk_11_194 (fun q23 H hP hD hS => ?_)
  refine ct_putL (own := "PartedLandModel") (T := TX11) (N := 67) (ci := 11) (f := 30) hx hb hts hown hin hK hP hD hS rfl (am_ckf_ok (show am_ckf "PartedLandModel" pf_11 77 (some (11, 30, 2)) = true from am_rng klf_11 77 (by decide))) rfl rfl rfl rfl (Nat.le_of_ble_eq_true rfl) dk_11_196 (fun H locs hP hD hS => ?_)
  refine lv_aload_n hx hb dk_11_199 rfl (lv_at hl 0 rfl) ?_
  refine lv_bipush (v := (12 : Int32)) hx hb dk_11_200 (by decide) ?_
  refine ct_newi hx hb (hts _ ct_ai) hK hP hD hS hA (by decide) rfl (by decide) (Nat.le_of_ble_eq_true rfl) (Nat.le_of_ble_eq_true rfl) dk_11_202 (fun q24 H hP hD hS => ?_)
  refine ct_putL (own := "PartedLandModel") (T := TX11) (N := 67) (ci := 11) (f := 32) hx hb hts hown hin hK hP hD hS rfl (am_ckf_ok (show am_ckf "PartedLandModel" pf_11 80 (some (11, 32, 2)) = true from am_rng klf_11 80 (by decide))) rfl rfl rfl rfl (Nat.le_of_ble_eq_true rfl) dk_11_204 (fun H locs hP hD hS => ?_)
  refine lv_aload_n hx hb dk_11_207 rfl (lv_at hl 0 rfl) ?_
  refine lv_bipush (v := (12 : Int32)) hx hb dk_11_208 (by decide) ?_
  refine ct_newi hx hb (hts _ ct_ai) hK hP hD hS hA (by decide) rfl (by decide) (Nat.le_of_ble_eq_true rfl) (Nat.le_of_ble_eq_true rfl) dk_11_210 (fun q25 H hP hD hS => ?_)
  refine ct_putL (own := "PartedLandModel") (T := TX11) (N := 67) (ci := 11) (f := 33) hx hb hts hown hin hK hP hD hS rfl (am_ckf_ok (show am_ckf "PartedLandModel" pf_11 83 (some (11, 33, 2)) = true from am_rng klf_11 83 (by decide))) rfl rfl rfl rfl (Nat.le_of_ble_eq_true rfl) dk_11_212 (fun H locs hP hD hS => ?_)
  refine lv_aload_n hx hb dk_11_215 rfl (lv_at hl 0 rfl) ?_
  refine lv_iconst (v := (2 : Int32)) hx hb dk_11_216 (by decide) ?_
  refine ct_newi hx hb (hts _ ct_ai) hK hP hD hS hA (by decide) rfl (by decide) (Nat.le_of_ble_eq_true rfl) (Nat.le_of_ble_eq_true rfl) dk_11_217 (fun q26 H hP hD hS => ?_)
  refine lv_dup hx hb dk_11_219 rfl ?_
  refine lv_iconst (v := (0 : Int32)) hx hb dk_11_220 (by decide) ?_
  refine lv_bipush (v := (100 : Int32)) hx hb dk_11_221 (by decide) ?_
  refine ct_iastL (x := (100 : Int32)) hx hb hK hP hD hS (by unfold vp_in; decide) dk_11_223 (fun H locs hP hD hS => ?_)
  refine lv_dup hx hb dk_11_224 rfl ?_
  refine lv_iconst (v := (1 : Int32)) hx hb dk_11_225 (by decide) ?_
  refine lv_bipush (v := (100 : Int32)) hx hb dk_11_226 (by decide) ?_
  refine ct_iastL (x := (100 : Int32)) hx hb hK hP hD hS (by unfold vp_in; decide) dk_11_228 (fun H locs hP hD hS => ?_)
  refine ct_putL (own := "PartedLandModel") (T := TX11) (N := 67) (ci := 11) (f := 34) hx hb hts hown hin hK hP hD hS rfl (am_ckf_ok (show am_ckf "PartedLandModel" pf_11 86 (some (11, 34, 2)) = true from am_rng klf_11 86 (by decide))) rfl rfl rfl rfl (Nat.le_of_ble_eq_true rfl) dk_11_229 (fun H locs hP hD hS => ?_)
  refine lv_aload_n hx hb dk_11_232 rfl (lv_at hl 0 rfl) ?_
  refine lv_sipush (v := (9999 : Int32)) hx hb dk_11_233 (by decide) ?_
  refine ct_putI (own := "PartedLandModel") (T := TX11) (N := 67) (ci := 11) (f := 35) (z := 0) (x := (9999 : Int32)) hx hb hts hown hK hP hD hS rfl (am_ckf_ok (show am_ckf "PartedLandModel" pf_11 89 (some (11, 35, 0)) = true from am_rng klf_11 89 (by decide))) rfl rfl rfl (Nat.le_of_ble_eq_true rfl) dk_11_236 (fun H locs hP hD hS => ?_)
  refine lv_aload_n hx hb dk_11_239 rfl (lv_at hl 0 rfl) ?_
  refine lv_bipush (v := (7 : Int32)) hx hb dk_11_240 (by decide) ?_
  refine ct_putI (own := "PartedLandModel") (T := TX11) (N := 67) (ci := 11) (f := 36) (z := 0) (x := (7 : Int32)) hx hb hts hown hK hP hD hS rfl (am_ckf_ok (show am_ckf "PartedLandModel" pf_11 93 (some (11, 36, 0)) = true from am_rng klf_11 93 (by decide))) rfl rfl rfl (Nat.le_of_ble_eq_true rfl) dk_11_242 (fun H locs hP hD hS => ?_)
  refine lv_aload_n hx hb dk_11_245 rfl (lv_at hl 0 rfl) ?_
  refine lv_bipush (v := (10 : Int32)) hx hb dk_11_246 (by decide) ?_
  refine ct_newi hx hb (hts _ ct_ai) hK hP hD hS hA (by decide) rfl (by decide) (Nat.le_of_ble_eq_true rfl) (Nat.le_of_ble_eq_true rfl) dk_11_248 (fun q27 H hP hD hS => ?_)
  refine ct_putL (own := "PartedLandModel") (T := TX11) (N := 67) (ci := 11) (f := 38) hx hb hts hown hin hK hP hD hS rfl (am_ckf_ok (show am_ckf "PartedLandModel" pf_11 96 (some (11, 38, 2)) = true from am_rng klf_11 96 (by decide))) rfl rfl rfl rfl (Nat.le_of_ble_eq_true rfl) dk_11_250 (fun H locs hP hD hS => ?_)
  refine lv_aload_n hx hb dk_11_253 rfl (lv_at hl 0 rfl) ?_
  refine lv_bipush (v := (120 : Int32)) hx hb dk_11_254 (by decide) ?_
  refine ct_newi hx hb (hts _ ct_ai) hK hP hD hS hA (by decide) rfl (by decide) (Nat.le_of_ble_eq_true rfl) (Nat.le_of_ble_eq_true rfl) dk_11_256 (fun q28 H hP hD hS => ?_)
  refine ct_putL (own := "PartedLandModel") (T := TX11) (N := 67) (ci := 11) (f := 39) hx hb hts hown hin hK hP hD hS rfl (am_ckf_ok (show am_ckf "PartedLandModel" pf_11 99 (some (11, 39, 2)) = true from am_rng klf_11 99 (by decide))) rfl rfl rfl rfl (Nat.le_of_ble_eq_true rfl) dk_11_258 (fun H locs hP hD hS => ?_)
  refine lv_aload_n hx hb dk_11_261 rfl (lv_at hl 0 rfl) ?_
  refine lv_bipush (v := (120 : Int32)) hx hb dk_11_262 (by decide) ?_
  refine ct_newi hx hb (hts _ ct_ai) hK hP hD hS hA (by decide) rfl (by decide) (Nat.le_of_ble_eq_true rfl) (Nat.le_of_ble_eq_true rfl) dk_11_264 (fun q29 H hP hD hS => ?_)
  refine ct_putL (own := "PartedLandModel") (T := TX11) (N := 67) (ci := 11) (f := 40) hx hb hts hown hin hK hP hD hS rfl (am_ckf_ok (show am_ckf "PartedLandModel" pf_11 102 (some (11, 40, 2)) = true from am_rng klf_11 102 (by decide))) rfl rfl rfl rfl (Nat.le_of_ble_eq_true rfl) dk_11_266 (fun H locs hP hD hS => ?_)
  refine lv_aload_n hx hb dk_11_269 rfl (lv_at hl 0 rfl) ?_
  refine lv_bipush (v := (10 : Int32)) hx hb dk_11_270 (by decide) ?_
  refine ct_newi hx hb (hts _ ct_ai) hK hP hD hS hA (by decide) rfl (by decide) (Nat.le_of_ble_eq_true rfl) (Nat.le_of_ble_eq_true rfl) dk_11_272 (fun q30 H hP hD hS => ?_)
  refine ct_putL (own := "PartedLandModel") (T := TX11) (N := 67) (ci := 11) (f := 41) hx hb hts hown hin hK hP hD hS rfl (am_ckf_ok (show am_ckf "PartedLandModel" pf_11 105 (some (11, 41, 2)) = true from am_rng klf_11 105 (by decide))) rfl rfl rfl rfl (Nat.le_of_ble_eq_true rfl) dk_11_274 (fun H locs hP hD hS => ?_)
  refine lv_aload_n hx hb dk_11_277 rfl (lv_at hl 0 rfl) ?_
  refine lv_bipush (v := (10 : Int32)) hx hb dk_11_278 (by decide) ?_
  refine ct_newi hx hb (hts _ ct_ai) hK hP hD hS hA (by decide) rfl (by decide) (Nat.le_of_ble_eq_true rfl) (Nat.le_of_ble_eq_true rfl) dk_11_280 (fun q31 H hP hD hS => ?_)
  refine ct_putL (own := "PartedLandModel") (T := TX11) (N := 67) (ci := 11) (f := 43) hx hb hts hown hin hK hP hD hS rfl (am_ckf_ok (show am_ckf "PartedLandModel" pf_11 108 (some (11, 43, 2)) = true from am_rng klf_11 108 (by decide))) rfl rfl rfl rfl (Nat.le_of_ble_eq_true rfl) dk_11_282 (fun H locs hP hD hS => ?_)
  refine lv_aload_n hx hb dk_11_285 rfl (lv_at hl 0 rfl) ?_
  refine lv_bipush (v := (10 : Int32)) hx hb dk_11_286 (by decide) ?_
  refine ct_newi hx hb (hts _ ct_ai) hK hP hD hS hA (by decide) rfl (by decide) (Nat.le_of_ble_eq_true rfl) (Nat.le_of_ble_eq_true rfl) dk_11_288 (fun q32 H hP hD hS => ?_)
  refine ct_putL (own := "PartedLandModel") (T := TX11) (N := 67) (ci := 11) (f := 44) hx hb hts hown hin hK hP hD hS rfl (am_ckf_ok (show am_ckf "PartedLandModel" pf_11 111 (some (11, 44, 2)) = true from am_rng klf_11 111 (by decide))) rfl rfl rfl rfl (Nat.le_of_ble_eq_true rfl) dk_11_290 (fun H locs hP hD hS => ?_)
  refine lv_aload_n hx hb dk_11_293 rfl (lv_at hl 0 rfl) ?_
  refine lv_bipush (v := (10 : Int32)) hx hb dk_11_294 (by decide) ?_
  refine ct_newi hx hb (hts _ ct_ai) hK hP hD hS hA (by decide) rfl (by decide) (Nat.le_of_ble_eq_true rfl) (Nat.le_of_ble_eq_true rfl) dk_11_296 (fun q33 H hP hD hS => ?_)
  refine ct_putL (own := "PartedLandModel") (T := TX11) (N := 67) (ci := 11) (f := 45) hx hb hts hown hin hK hP hD hS rfl (am_ckf_ok (show am_ckf "PartedLandModel" pf_11 114 (some (11, 45, 2)) = true from am_rng klf_11 114 (by decide))) rfl rfl rfl rfl (Nat.le_of_ble_eq_true rfl) dk_11_298 (fun H locs hP hD hS => ?_)
  refine lv_aload_n hx hb dk_11_301 rfl (lv_at hl 0 rfl) ?_
  refine lv_bipush (v := (10 : Int32)) hx hb dk_11_302 (by decide) ?_
  refine ct_newi hx hb (hts _ ct_ai) hK hP hD hS hA (by decide) rfl (by decide) (Nat.le_of_ble_eq_true rfl) (Nat.le_of_ble_eq_true rfl) dk_11_304 (fun q34 H hP hD hS => ?_)
  refine ct_putL (own := "PartedLandModel") (T := TX11) (N := 67) (ci := 11) (f := 46) hx hb hts hown hin hK hP hD hS rfl (am_ckf_ok (show am_ckf "PartedLandModel" pf_11 117 (some (11, 46, 2)) = true from am_rng klf_11 117 (by decide))) rfl rfl rfl rfl (Nat.le_of_ble_eq_true rfl) dk_11_306 (fun H locs hP hD hS => ?_)
  refine lv_aload_n hx hb dk_11_309 rfl (lv_at hl 0 rfl) ?_
  refine lv_bipush (v := (9 : Int32)) hx hb dk_11_310 (by decide) ?_
  refine ct_newi hx hb (hts _ ct_ai) hK hP hD hS hA (by decide) rfl (by decide) (Nat.le_of_ble_eq_true rfl) (Nat.le_of_ble_eq_true rfl) dk_11_312 (fun q35 H hP hD hS => ?_)
  refine ct_putL (own := "PartedLandModel") (T := TX11) (N := 67) (ci := 11) (f := 48) hx hb hts hown hin hK hP hD hS rfl (am_ckf_ok (show am_ckf "PartedLandModel" pf_11 120 (some (11, 48, 2)) = true from am_rng klf_11 120 (by decide))) rfl rfl rfl rfl (Nat.le_of_ble_eq_true rfl) dk_11_314 (fun H locs hP hD hS => ?_)
  refine lv_aload_n hx hb dk_11_317 rfl (lv_at hl 0 rfl) ?_
  refine lv_bipush (v := (9 : Int32)) hx hb dk_11_318 (by decide) ?_
  refine ct_newi hx hb (hts _ ct_ai) hK hP hD hS hA (by decide) rfl (by decide) (Nat.le_of_ble_eq_true rfl) (Nat.le_of_ble_eq_true rfl) dk_11_320 (fun q36 H hP hD hS => ?_)
  refine ct_putL (own := "PartedLandModel") (T := TX11) (N := 67) (ci := 11) (f := 49) hx hb hts hown hin hK hP hD hS rfl (am_ckf_ok (show am_ckf "PartedLandModel" pf_11 123 (some (11, 49, 2)) = true from am_rng klf_11 123 (by decide))) rfl rfl rfl rfl (Nat.le_of_ble_eq_true rfl) dk_11_322 (fun H locs hP hD hS => ?_)
  refine lv_aload_n hx hb dk_11_325 rfl (lv_at hl 0 rfl) ?_
  refine lv_bipush (v := (16 : Int32)) hx hb dk_11_326 (by decide) ?_
  refine ct_newi hx hb (hts _ ct_ai) hK hP hD hS hA (by decide) rfl (by decide) (Nat.le_of_ble_eq_true rfl) (Nat.le_of_ble_eq_true rfl) dk_11_328 (fun q37 H hP hD hS => ?_)
  refine ct_putL (own := "PartedLandModel") (T := TX11) (N := 67) (ci := 11) (f := 51) hx hb hts hown hin hK hP hD hS rfl (am_ckf_ok (show am_ckf "PartedLandModel" pf_11 126 (some (11, 51, 2)) = true from am_rng klf_11 126 (by decide))) rfl rfl rfl rfl (Nat.le_of_ble_eq_true rfl) dk_11_330 (fun H locs hP hD hS => ?_)
  refine lv_aload_n hx hb dk_11_333 rfl (lv_at hl 0 rfl) ?_
  refine lv_bipush (v := (6 : Int32)) hx hb dk_11_334 (by decide) ?_
  refine ct_newi hx hb (hts _ ct_ai) hK hP hD hS hA (by decide) rfl (by decide) (Nat.le_of_ble_eq_true rfl) (Nat.le_of_ble_eq_true rfl) dk_11_336 (fun q38 H hP hD hS => ?_)
  refine ct_putL (own := "PartedLandModel") (T := TX11) (N := 67) (ci := 11) (f := 52) hx hb hts hown hin hK hP hD hS rfl (am_ckf_ok (show am_ckf "PartedLandModel" pf_11 129 (some (11, 52, 2)) = true from am_rng klf_11 129 (by decide))) rfl rfl rfl rfl (Nat.le_of_ble_eq_true rfl) dk_11_338 (fun H locs hP hD hS => ?_)
  refine lv_aload_n hx hb dk_11_341 rfl (lv_at hl 0 rfl) ?_
  refine lv_sipush (v := (144 : Int32)) hx hb dk_11_342 (by decide) ?_
  refine ct_newi hx hb (hts _ ct_ai) hK hP hD hS hA (by decide) rfl (by decide) (Nat.le_of_ble_eq_true rfl) (Nat.le_of_ble_eq_true rfl) dk_11_345 (fun q39 H hP hD hS => ?_)
  refine ct_putL (own := "PartedLandModel") (T := TX11) (N := 67) (ci := 11) (f := 53) hx hb hts hown hin hK hP hD hS rfl (am_ckf_ok (show am_ckf "PartedLandModel" pf_11 132 (some (11, 53, 2)) = true from am_rng klf_11 132 (by decide))) rfl rfl rfl rfl (Nat.le_of_ble_eq_true rfl) dk_11_347 (fun H locs hP hD hS => ?_)
  refine lv_aload_n hx hb dk_11_350 rfl (lv_at hl 0 rfl) ?_
  refine lv_iconst (v := (4 : Int32)) hx hb dk_11_351 (by decide) ?_
  refine ct_newi hx hb (hts _ ct_ai) hK hP hD hS hA (by decide) rfl (by decide) (Nat.le_of_ble_eq_true rfl) (Nat.le_of_ble_eq_true rfl) dk_11_352 (fun q40 H hP hD hS => ?_)
  refine ct_putL (own := "PartedLandModel") (T := TX11) (N := 67) (ci := 11) (f := 54) hx hb hts hown hin hK hP hD hS rfl (am_ckf_ok (show am_ckf "PartedLandModel" pf_11 135 (some (11, 54, 2)) = true from am_rng klf_11 135 (by decide))) rfl rfl rfl rfl (Nat.le_of_ble_eq_true rfl) dk_11_354 (fun H locs hP hD hS => ?_)
  refine lv_aload_n hx hb dk_11_357 rfl (lv_at hl 0 rfl) ?_
  refine lv_bipush (v := (24 : Int32)) hx hb dk_11_358 (by decide) ?_
  refine ct_newi hx hb (hts _ ct_ai) hK hP hD hS hA (by decide) rfl (by decide) (Nat.le_of_ble_eq_true rfl) (Nat.le_of_ble_eq_true rfl) dk_11_360 (fun q41 H hP hD hS => ?_)
  refine ct_putL (own := "PartedLandModel") (T := TX11) (N := 67) (ci := 11) (f := 61) hx hb hts hown hin hK hP hD hS rfl (am_ckf_ok (show am_ckf "PartedLandModel" pf_11 138 (some (11, 61, 2)) = true from am_rng klf_11 138 (by decide))) rfl rfl rfl rfl (Nat.le_of_ble_eq_true rfl) dk_11_362 (fun H locs hP hD hS => ?_)
  refine lv_aload_n hx hb dk_11_365 rfl (lv_at hl 0 rfl) ?_
  refine lv_bipush (v := (24 : Int32)) hx hb dk_11_366 (by decide) ?_
  refine ct_newi hx hb (hts _ ct_ai) hK hP hD hS hA (by decide) rfl (by decide) (Nat.le_of_ble_eq_true rfl) (Nat.le_of_ble_eq_true rfl) dk_11_368 (fun q42 H hP hD hS => ?_)
  refine ct_putL (own := "PartedLandModel") (T := TX11) (N := 67) (ci := 11) (f := 62) hx hb hts hown hin hK hP hD hS rfl (am_ckf_ok (show am_ckf "PartedLandModel" pf_11 141 (some (11, 62, 2)) = true from am_rng klf_11 141 (by decide))) rfl rfl rfl rfl (Nat.le_of_ble_eq_true rfl) dk_11_370 (fun H locs hP hD hS => ?_)
  refine lv_aload_n hx hb dk_11_373 rfl (lv_at hl 0 rfl) ?_
  refine lv_bipush (v := (24 : Int32)) hx hb dk_11_374 (by decide) ?_
  refine ct_newi hx hb (hts _ ct_ai) hK hP hD hS hA (by decide) rfl (by decide) (Nat.le_of_ble_eq_true rfl) (Nat.le_of_ble_eq_true rfl) dk_11_376 (fun q43 H hP hD hS => ?_)
  refine ct_putL (own := "PartedLandModel") (T := TX11) (N := 67) (ci := 11) (f := 63) hx hb hts hown hin hK hP hD hS rfl (am_ckf_ok (show am_ckf "PartedLandModel" pf_11 144 (some (11, 63, 2)) = true from am_rng klf_11 144 (by decide))) rfl rfl rfl rfl (Nat.le_of_ble_eq_true rfl) dk_11_378 (fun H locs hP hD hS => ?_)
  refine lv_aload_n hx hb dk_11_381 rfl (lv_at hl 0 rfl) ?_
  refine lv_sipush (v := (512 : Int32)) hx hb dk_11_382 (by decide) ?_
  refine ct_newi hx hb (hts _ ct_ai) hK hP hD hS hA (by decide) rfl (by decide) (Nat.le_of_ble_eq_true rfl) (Nat.le_of_ble_eq_true rfl) dk_11_385 (fun q44 H hP hD hS => ?_)
  refine ct_putL (own := "PartedLandModel") (T := TX11) (N := 67) (ci := 11) (f := 65) hx hb hts hown hin hK hP hD hS rfl (am_ckf_ok (show am_ckf "PartedLandModel" pf_11 147 (some (11, 65, 2)) = true from am_rng klf_11 147 (by decide))) rfl rfl rfl rfl (Nat.le_of_ble_eq_true rfl) dk_11_387 (fun H locs hP hD hS => ?_)
  refine lv_aload_n hx hb dk_11_390 rfl (lv_at hl 0 rfl) ?_
  refine lv_sipush (v := (512 : Int32)) hx hb dk_11_391 (by decide) ?_
  refine ct_newi hx hb (hts _ ct_ai) hK hP hD hS hA (by decide) rfl (by decide) (Nat.le_of_ble_eq_true rfl) (Nat.le_of_ble_eq_true rfl) dk_11_394 (fun q45 H hP hD hS => ?_)
  refine ct_putL (own := "PartedLandModel") (T := TX11) (N := 67) (ci := 11) (f := 66) hx hb hts hown hin hK hP hD hS rfl (am_ckf_ok (show am_ckf "PartedLandModel" pf_11 150 (some (11, 66, 2)) = true from am_rng klf_11 150 (by decide))) rfl rfl rfl rfl (Nat.le_of_ble_eq_true rfl) dk_11_396 (fun H locs hP hD hS => ?_)
  refine lv_aload_n hx hb dk_11_399 rfl (lv_at hl 0 rfl) ?_
  refine lv_iconst (v := (0 : Int32)) hx hb dk_11_400 (by decide) ?_
  refine ct_putI (own := "PartedLandModel") (T := TX11) (N := 67) (ci := 11) (f := 0) (z := 0) (x := (0 : Int32)) hx hb hts hown hK hP hD hS rfl (am_ckf_ok (show am_ckf "PartedLandModel" pf_11 153 (some (11, 0, 0)) = true from am_rng klf_11 153 (by decide))) rfl rfl rfl (Nat.le_of_ble_eq_true rfl) dk_11_401 (fun H locs hP hD hS => ?_)
  obtain ⟨G, hG⟩ : ∃ G : Nat → Nat, G = fun i => (bif Nat.beq i 1 then q1 else (bif Nat.beq i 2 then q2 else (bif Nat.beq i 3 then q3 else (bif Nat.beq i 4 then q4 else (bif Nat.beq i 5 then q5 else (bif Nat.beq i 6 then q6 else (bif Nat.beq i 7 then q7 else (bif Nat.beq i 8 then q8 else (bif Nat.beq i 9 then q9 else (bif Nat.beq i 10 then q10 else (bif Nat.beq i 11 then q11 else (bif Nat.beq i 12 then q12 else (bif Nat.beq i 13 then q13 else (bif Nat.beq i 14 then q14 else (bif Nat.beq i 15 then q15 else (bif Nat.beq i 16 then q16 else (bif Nat.beq i 17 then q17 else (bif Nat.beq i 18 then q18 else (bif Nat.beq i 19 then q19 else (bif Nat.beq i 20 then q20 else (bif Nat.beq i 21 then q21 else (bif Nat.beq i 22 then q22 else (bif Nat.beq i 23 then q23 else (bif Nat.beq i 24 then q24 else (bif Nat.beq i 25 then q25 else (bif Nat.beq i 26 then q26 else (bif Nat.beq i 27 then q27 else (bif Nat.beq i 28 then q28 else (bif Nat.beq i 29 then q29 else (bif Nat.beq i 30 then q30 else (bif Nat.beq i 31 then q31 else (bif Nat.beq i 32 then q32 else (bif Nat.beq i 33 then q33 else (bif Nat.beq i 34 then q34 else (bif Nat.beq i 35 then q35 else (bif Nat.beq i 36 then q36 else (bif Nat.beq i 37 then q37 else (bif Nat.beq i 38 then q38 else (bif Nat.beq i 39 then q39 else (bif Nat.beq i 40 then q40 else (bif Nat.beq i 41 then q41 else (bif Nat.beq i 42 then q42 else (bif Nat.beq i 43 then q43 else (bif Nat.beq i 44 then q44 else (bif Nat.beq i 45 then q45 else 0))))))))))))))))))))))))))))))))))))))))))))) := ⟨_, rfl⟩
  have e1 : G 1 = q1 := by rw [hG]; rfl
  have e2 : G 2 = q2 := by rw [hG]; rfl
  have e3 : G 3 = q3 := by rw [hG]; rfl
  have e4 : G 4 = q4 := by rw [hG]; rfl
  have e5 : G 5 = q5 := by rw [hG]; rfl
  have e6 : G 6 = q6 := by rw [hG]; rfl
  have e7 : G 7 = q7 := by rw [hG]; rfl
  have e8 : G 8 = q8 := by rw [hG]; rfl
  have e9 : G 9 = q9 := by rw [hG]; rfl
  have e10 : G 10 = q10 := by rw [hG]; rfl
  have e11 : G 11 = q11 := by rw [hG]; rfl
  have e12 : G 12 = q12 := by rw [hG]; rfl
  have e13 : G 13 = q13 := by rw [hG]; rfl
  have e14 : G 14 = q14 := by rw [hG]; rfl
  have e15 : G 15 = q15 := by rw [hG]; rfl
  have e16 : G 16 = q16 := by rw [hG]; rfl
  have e17 : G 17 = q17 := by rw [hG]; rfl
  have e18 : G 18 = q18 := by rw [hG]; rfl
  have e19 : G 19 = q19 := by rw [hG]; rfl
  have e20 : G 20 = q20 := by rw [hG]; rfl
  have e21 : G 21 = q21 := by rw [hG]; rfl
  have e22 : G 22 = q22 := by rw [hG]; rfl
  have e23 : G 23 = q23 := by rw [hG]; rfl
  have e24 : G 24 = q24 := by rw [hG]; rfl
  have e25 : G 25 = q25 := by rw [hG]; rfl
  have e26 : G 26 = q26 := by rw [hG]; rfl
  have e27 : G 27 = q27 := by rw [hG]; rfl
  have e28 : G 28 = q28 := by rw [hG]; rfl
  have e29 : G 29 = q29 := by rw [hG]; rfl
  have e30 : G 30 = q30 := by rw [hG]; rfl
  have e31 : G 31 = q31 := by rw [hG]; rfl
  have e32 : G 32 = q32 := by rw [hG]; rfl
  have e33 : G 33 = q33 := by rw [hG]; rfl
  have e34 : G 34 = q34 := by rw [hG]; rfl
  have e35 : G 35 = q35 := by rw [hG]; rfl
  have e36 : G 36 = q36 := by rw [hG]; rfl
  have e37 : G 37 = q37 := by rw [hG]; rfl
  have e38 : G 38 = q38 := by rw [hG]; rfl
  have e39 : G 39 = q39 := by rw [hG]; rfl
  have e40 : G 40 = q40 := by rw [hG]; rfl
  have e41 : G 41 = q41 := by rw [hG]; rfl
  have e42 : G 42 = q42 := by rw [hG]; rfl
  have e43 : G 43 = q43 := by rw [hG]; rfl
  have e44 : G 44 = q44 := by rw [hG]; rfl
  have e45 : G 45 = q45 := by rw [hG]; rfl
  have hP9 : va_P D am_cl (ct_F11 aC h0 G) H := by
    unfold ct_F11
    rw [e1, e2, e3, e4, e5, e6, e7, e8, e9, e10, e11, e12, e13, e14, e15, e16, e17, e18, e19, e20, e21, e22, e23, e24, e25, e26, e27, e28, e29, e30, e31, e32, e33, e34, e35, e36, e37, e38, e39, e40, e41, e42, e43, e44, e45]
    exact hP
  have hD9 : va_D A (ct_F11 aC h0 G) := by
    unfold ct_F11
    rw [e1, e2, e3, e4, e5, e6, e7, e8, e9, e10, e11, e12, e13, e14, e15, e16, e17, e18, e19, e20, e21, e22, e23, e24, e25, e26, e27, e28, e29, e30, e31, e32, e33, e34, e35, e36, e37, e38, e39, e40, e41, e42, e43, e44, e45]
    exact hD
  subst hAe
  refine W.widen (k := 45) (n := 2195) (Nat.le_of_ble_eq_true rfl) (Nat.le_of_ble_eq_true rfl) ?_
  exact W.vret hx hb hr (fun t ht hW => ⟨⟨rfl, G, by rw [ht]; exact hP9, hD9⟩, hS.F ht⟩) hS.2.2 dk_11_404
