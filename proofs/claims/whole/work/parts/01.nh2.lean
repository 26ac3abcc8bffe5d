theorem dX10_partA_7 : decode cX10_partA 7 = .ok (.iand, 1) := by decide +kernel
theorem dX10_partA_8 : decode cX10_partA 8 = .ok (.ireturn, 1) := by decide +kernel
theorem dX10_partB_0 : decode cX10_partB 0 = .ok (.iload_n 0, 1) := by decide +kernel
theorem dX10_partB_1 : decode cX10_partB 1 = .ok (.bipush 16, 2) := by decide +kernel
theorem dX10_partB_3 : decode cX10_partB 3 = .ok (.iushr, 1) := by decide +kernel
theorem dX10_partB_4 : decode cX10_partB 4 = .ok (.sipush 255, 3) := by decide +kernel
theorem dX10_partB_7 : decode cX10_partB 7 = .ok (.iand, 1) := by decide +kernel
theorem dX10_partB_8 : decode cX10_partB 8 = .ok (.ireturn, 1) := by decide +kernel
theorem dX10_partC_0 : decode cX10_partC 0 = .ok (.iload_n 0, 1) := by decide +kernel
theorem dX10_partC_1 : decode cX10_partC 1 = .ok (.bipush 24, 2) := by decide +kernel
theorem dX10_partC_3 : decode cX10_partC 3 = .ok (.iushr, 1) := by decide +kernel
theorem dX10_partC_4 : decode cX10_partC 4 = .ok (.ireturn, 1) := by decide +kernel
theorem dX11_init_0 : decode cX11_init 0 = .ok (.aload_n 0, 1) := by decide +kernel
theorem dX11_init_1 : decode cX11_init 1 = .ok (.invokespecial 1, 3) := by decide +kernel
theorem dX11_init_4 : decode cX11_init 4 = .ok (.aload_n 0, 1) := by decide +kernel
theorem dX11_init_5 : decode cX11_init 5 = .ok (.bipush 36, 2) := by decide +kernel
theorem dX11_init_7 : decode cX11_init 7 = .ok (.newarray .boolean, 2) := by decide +kernel
theorem dX11_init_9 : decode cX11_init 9 = .ok (.putfield 7, 3) := by decide +kernel
theorem dX11_init_12 : decode cX11_init 12 = .ok (.aload_n 0, 1) := by decide +kernel
theorem dX11_init_13 : decode cX11_init 13 = .ok (.bipush 12, 2) := by decide +kernel
theorem dX11_init_15 : decode cX11_init 15 = .ok (.newarray .int, 2) := by decide +kernel
theorem dX11_init_17 : decode cX11_init 17 = .ok (.putfield 13, 3) := by decide +kernel
theorem dX11_init_20 : decode cX11_init 20 = .ok (.aload_n 0, 1) := by decide +kernel
theorem dX11_init_21 : decode cX11_init 21 = .ok (.bipush 12, 2) := by decide +kernel
theorem dX11_init_23 : decode cX11_init 23 = .ok (.newarray .int, 2) := by decide +kernel
theorem dX11_init_25 : decode cX11_init 25 = .ok (.putfield 17, 3) := by decide +kernel
theorem dX11_init_28 : decode cX11_init 28 = .ok (.aload_n 0, 1) := by decide +kernel
theorem dX11_init_29 : decode cX11_init 29 = .ok (.bipush 12, 2) := by decide +kernel
theorem dX11_init_31 : decode cX11_init 31 = .ok (.newarray .boolean, 2) := by decide +kernel
theorem dX11_init_33 : decode cX11_init 33 = .ok (.putfield 20, 3) := by decide +kernel
theorem dX11_init_36 : decode cX11_init 36 = .ok (.aload_n 0, 1) := by decide +kernel
theorem dX11_init_37 : decode cX11_init 37 = .ok (.bipush 12, 2) := by decide +kernel
theorem dX11_init_39 : decode cX11_init 39 = .ok (.newarray .int, 2) := by decide +kernel
theorem dX11_init_41 : decode cX11_init 41 = .ok (.putfield 23, 3) := by decide +kernel
theorem dX11_init_44 : decode cX11_init 44 = .ok (.aload_n 0, 1) := by decide +kernel
theorem dX11_init_45 : decode cX11_init 45 = .ok (.sipush 384, 3) := by decide +kernel
theorem dX11_init_48 : decode cX11_init 48 = .ok (.newarray .int, 2) := by decide +kernel
theorem dX11_init_50 : decode cX11_init 50 = .ok (.putfield 26, 3) := by decide +kernel
theorem dX11_init_53 : decode cX11_init 53 = .ok (.aload_n 0, 1) := by decide +kernel
theorem dX11_init_54 : decode cX11_init 54 = .ok (.bipush 6, 2) := by decide +kernel
theorem dX11_init_56 : decode cX11_init 56 = .ok (.newarray .int, 2) := by decide +kernel
theorem dX11_init_58 : decode cX11_init 58 = .ok (.putfield 29, 3) := by decide +kernel
theorem dX11_init_61 : decode cX11_init 61 = .ok (.aload_n 0, 1) := by decide +kernel
theorem dX11_init_62 : decode cX11_init 62 = .ok (.bipush 6, 2) := by decide +kernel
theorem dX11_init_64 : decode cX11_init 64 = .ok (.newarray .int, 2) := by decide +kernel
theorem dX11_init_66 : decode cX11_init 66 = .ok (.putfield 32, 3) := by decide +kernel
theorem dX11_init_69 : decode cX11_init 69 = .ok (.aload_n 0, 1) := by decide +kernel
theorem dX11_init_70 : decode cX11_init 70 = .ok (.bipush 36, 2) := by decide +kernel
theorem dX11_init_72 : decode cX11_init 72 = .ok (.newarray .int, 2) := by decide +kernel
theorem dX11_init_74 : decode cX11_init 74 = .ok (.putfield 35, 3) := by decide +kernel
theorem dX11_init_77 : decode cX11_init 77 = .ok (.aload_n 0, 1) := by decide +kernel
theorem dX11_init_78 : decode cX11_init 78 = .ok (.bipush 36, 2) := by decide +kernel
theorem dX11_init_80 : decode cX11_init 80 = .ok (.newarray .int, 2) := by decide +kernel
theorem dX11_init_82 : decode cX11_init 82 = .ok (.putfield 38, 3) := by decide +kernel
theorem dX11_init_85 : decode cX11_init 85 = .ok (.aload_n 0, 1) := by decide +kernel
theorem dX11_init_86 : decode cX11_init 86 = .ok (.iconst 3, 1) := by decide +kernel
theorem dX11_init_87 : decode cX11_init 87 = .ok (.newarray .int, 2) := by decide +kernel
theorem dX11_init_89 : decode cX11_init 89 = .ok (.putfield 41, 3) := by decide +kernel
theorem dX11_init_92 : decode cX11_init 92 = .ok (.aload_n 0, 1) := by decide +kernel
theorem dX11_init_93 : decode cX11_init 93 = .ok (.sipush 3000, 3) := by decide +kernel
theorem dX11_init_96 : decode cX11_init 96 = .ok (.newarray .int, 2) := by decide +kernel
theorem dX11_init_98 : decode cX11_init 98 = .ok (.putfield 44, 3) := by decide +kernel
theorem dX11_init_101 : decode cX11_init 101 = .ok (.aload_n 0, 1) := by decide +kernel
theorem dX11_init_102 : decode cX11_init 102 = .ok (.sipush 3000, 3) := by decide +kernel
theorem dX11_init_105 : decode cX11_init 105 = .ok (.newarray .boolean, 2) := by decide +kernel
theorem dX11_init_107 : decode cX11_init 107 = .ok (.putfield 47, 3) := by decide +kernel
theorem dX11_init_110 : decode cX11_init 110 = .ok (.aload_n 0, 1) := by decide +kernel
theorem dX11_init_111 : decode cX11_init 111 = .ok (.sipush 3000, 3) := by decide +kernel
theorem dX11_init_114 : decode cX11_init 114 = .ok (.newarray .int, 2) := by decide +kernel
theorem dX11_init_116 : decode cX11_init 116 = .ok (.putfield 50, 3) := by decide +kernel
theorem dX11_init_119 : decode cX11_init 119 = .ok (.aload_n 0, 1) := by decide +kernel
theorem dX11_init_120 : decode cX11_init 120 = .ok (.sipush 3000, 3) := by decide +kernel
theorem dX11_init_123 : decode cX11_init 123 = .ok (.newarray .int, 2) := by decide +kernel
theorem dX11_init_125 : decode cX11_init 125 = .ok (.putfield 53, 3) := by decide +kernel
theorem dX11_init_128 : decode cX11_init 128 = .ok (.aload_n 0, 1) := by decide +kernel
theorem dX11_init_129 : decode cX11_init 129 = .ok (.sipush 144, 3) := by decide +kernel
theorem dX11_init_132 : decode cX11_init 132 = .ok (.newarray .int, 2) := by decide +kernel
theorem dX11_init_134 : decode cX11_init 134 = .ok (.putfield 56, 3) := by decide +kernel
theorem dX11_init_137 : decode cX11_init 137 = .ok (.aload_n 0, 1) := by decide +kernel
theorem dX11_init_138 : decode cX11_init 138 = .ok (.sipush 576, 3) := by decide +kernel
theorem dX11_init_141 : decode cX11_init 141 = .ok (.newarray .int, 2) := by decide +kernel
theorem dX11_init_143 : decode cX11_init 143 = .ok (.putfield 59, 3) := by decide +kernel
theorem dX11_init_146 : decode cX11_init 146 = .ok (.aload_n 0, 1) := by decide +kernel
theorem dX11_init_147 : decode cX11_init 147 = .ok (.bipush 18, 2) := by decide +kernel
theorem dX11_init_149 : decode cX11_init 149 = .ok (.newarray .int, 2) := by decide +kernel
theorem dX11_init_151 : decode cX11_init 151 = .ok (.putfield 62, 3) := by decide +kernel
theorem dX11_init_154 : decode cX11_init 154 = .ok (.aload_n 0, 1) := by decide +kernel
theorem dX11_init_155 : decode cX11_init 155 = .ok (.bipush 18, 2) := by decide +kernel
theorem dX11_init_157 : decode cX11_init 157 = .ok (.newarray .int, 2) := by decide +kernel
theorem dX11_init_159 : decode cX11_init 159 = .ok (.putfield 65, 3) := by decide +kernel
theorem dX11_init_162 : decode cX11_init 162 = .ok (.aload_n 0, 1) := by decide +kernel
theorem dX11_init_163 : decode cX11_init 163 = .ok (.sipush 144, 3) := by decide +kernel
theorem dX11_init_166 : decode cX11_init 166 = .ok (.newarray .int, 2) := by decide +kernel
theorem dX11_init_168 : decode cX11_init 168 = .ok (.putfield 68, 3) := by decide +kernel
theorem dX11_init_171 : decode cX11_init 171 = .ok (.aload_n 0, 1) := by decide +kernel
theorem dX11_init_172 : decode cX11_init 172 = .ok (.bipush 18, 2) := by decide +kernel
theorem dX11_init_174 : decode cX11_init 174 = .ok (.newarray .int, 2) := by decide +kernel
theorem dX11_init_176 : decode cX11_init 176 = .ok (.putfield 71, 3) := by decide +kernel
theorem dX11_init_179 : decode cX11_init 179 = .ok (.aload_n 0, 1) := by decide +kernel
theorem dX11_init_180 : decode cX11_init 180 = .ok (.sipush 3600, 3) := by decide +kernel
theorem dX11_init_183 : decode cX11_init 183 = .ok (.newarray .int, 2) := by decide +kernel
theorem dX11_init_185 : decode cX11_init 185 = .ok (.putfield 74, 3) := by decide +kernel
theorem dX11_init_188 : decode cX11_init 188 = .ok (.aload_n 0, 1) := by decide +kernel
theorem dX11_init_189 : decode cX11_init 189 = .ok (.bipush 18, 2) := by decide +kernel
theorem dX11_init_191 : decode cX11_init 191 = .ok (.newarray .int, 2) := by decide +kernel
theorem dX11_init_193 : decode cX11_init 193 = .ok (.putfield 77, 3) := by decide +kernel
theorem dX11_init_196 : decode cX11_init 196 = .ok (.aload_n 0, 1) := by decide +kernel
theorem dX11_init_197 : decode cX11_init 197 = .ok (.bipush 18, 2) := by decide +kernel
theorem dX11_init_199 : decode cX11_init 199 = .ok (.newarray .int, 2) := by decide +kernel
theorem dX11_init_201 : decode cX11_init 201 = .ok (.putfield 80, 3) := by decide +kernel
theorem dX11_init_204 : decode cX11_init 204 = .ok (.aload_n 0, 1) := by decide +kernel
theorem dX11_init_205 : decode cX11_init 205 = .ok (.bipush 18, 2) := by decide +kernel
theorem dX11_init_207 : decode cX11_init 207 = .ok (.newarray .int, 2) := by decide +kernel
theorem dX11_init_209 : decode cX11_init 209 = .ok (.putfield 83, 3) := by decide +kernel
theorem dX11_init_212 : decode cX11_init 212 = .ok (.aload_n 0, 1) := by decide +kernel
theorem dX11_init_213 : decode cX11_init 213 = .ok (.bipush 18, 2) := by decide +kernel
theorem dX11_init_215 : decode cX11_init 215 = .ok (.newarray .int, 2) := by decide +kernel
theorem dX11_init_217 : decode cX11_init 217 = .ok (.putfield 86, 3) := by decide +kernel
theorem dX11_init_220 : decode cX11_init 220 = .ok (.aload_n 0, 1) := by decide +kernel
theorem dX11_init_221 : decode cX11_init 221 = .ok (.bipush 36, 2) := by decide +kernel
theorem dX11_init_223 : decode cX11_init 223 = .ok (.newarray .int, 2) := by decide +kernel
theorem dX11_init_225 : decode cX11_init 225 = .ok (.putfield 89, 3) := by decide +kernel
theorem dX11_init_228 : decode cX11_init 228 = .ok (.aload_n 0, 1) := by decide +kernel
theorem dX11_init_229 : decode cX11_init 229 = .ok (.bipush 36, 2) := by decide +kernel
theorem dX11_init_231 : decode cX11_init 231 = .ok (.newarray .int, 2) := by decide +kernel
theorem dX11_init_233 : decode cX11_init 233 = .ok (.putfield 92, 3) := by decide +kernel
theorem dX11_init_236 : decode cX11_init 236 = .ok (.aload_n 0, 1) := by decide +kernel
theorem dX11_init_237 : decode cX11_init 237 = .ok (.bipush 36, 2) := by decide +kernel
theorem dX11_init_239 : decode cX11_init 239 = .ok (.newarray .int, 2) := by decide +kernel
theorem dX11_init_241 : decode cX11_init 241 = .ok (.putfield 95, 3) := by decide +kernel
theorem dX11_init_244 : decode cX11_init 244 = .ok (.aload_n 0, 1) := by decide +kernel
theorem dX11_init_245 : decode cX11_init 245 = .ok (.bipush 36, 2) := by decide +kernel
theorem dX11_init_247 : decode cX11_init 247 = .ok (.newarray .int, 2) := by decide +kernel
theorem dX11_init_249 : decode cX11_init 249 = .ok (.putfield 98, 3) := by decide +kernel
theorem dX11_init_252 : decode cX11_init 252 = .ok (.aload_n 0, 1) := by decide +kernel
theorem dX11_init_253 : decode cX11_init 253 = .ok (.bipush 36, 2) := by decide +kernel
theorem dX11_init_255 : decode cX11_init 255 = .ok (.newarray .int, 2) := by decide +kernel
theorem dX11_init_257 : decode cX11_init 257 = .ok (.putfield 101, 3) := by decide +kernel
theorem dX11_init_260 : decode cX11_init 260 = .ok (.aload_n 0, 1) := by decide +kernel
theorem dX11_init_261 : decode cX11_init 261 = .ok (.bipush 36, 2) := by decide +kernel
theorem dX11_init_263 : decode cX11_init 263 = .ok (.newarray .int, 2) := by decide +kernel
theorem dX11_init_265 : decode cX11_init 265 = .ok (.putfield 104, 3) := by decide +kernel
theorem dX11_init_268 : decode cX11_init 268 = .ok (.aload_n 0, 1) := by decide +kernel
theorem dX11_init_269 : decode cX11_init 269 = .ok (.bipush 36, 2) := by decide +kernel
theorem dX11_init_271 : decode cX11_init 271 = .ok (.newarray .int, 2) := by decide +kernel
theorem dX11_init_273 : decode cX11_init 273 = .ok (.putfield 107, 3) := by decide +kernel
theorem dX11_init_276 : decode cX11_init 276 = .ok (.aload_n 0, 1) := by decide +kernel
theorem dX11_init_277 : decode cX11_init 277 = .ok (.bipush 36, 2) := by decide +kernel
theorem dX11_init_279 : decode cX11_init 279 = .ok (.newarray .int, 2) := by decide +kernel
theorem dX11_init_281 : decode cX11_init 281 = .ok (.putfield 110, 3) := by decide +kernel
theorem dX11_init_284 : decode cX11_init 284 = .ok (.aload_n 0, 1) := by decide +kernel
theorem dX11_init_285 : decode cX11_init 285 = .ok (.sipush 144, 3) := by decide +kernel
theorem dX11_init_288 : decode cX11_init 288 = .ok (.newarray .int, 2) := by decide +kernel
theorem dX11_init_290 : decode cX11_init 290 = .ok (.putfield 113, 3) := by decide +kernel
theorem dX11_init_293 : decode cX11_init 293 = .ok (.aload_n 0, 1) := by decide +kernel
theorem dX11_init_294 : decode cX11_init 294 = .ok (.bipush 36, 2) := by decide +kernel
theorem dX11_init_296 : decode cX11_init 296 = .ok (.newarray .int, 2) := by decide +kernel
theorem dX11_init_298 : decode cX11_init 298 = .ok (.putfield 116, 3) := by decide +kernel
theorem dX11_init_301 : decode cX11_init 301 = .ok (.aload_n 0, 1) := by decide +kernel
theorem dX11_init_302 : decode cX11_init 302 = .ok (.bipush 36, 2) := by decide +kernel
theorem dX11_init_304 : decode cX11_init 304 = .ok (.newarray .int, 2) := by decide +kernel
theorem dX11_init_306 : decode cX11_init 306 = .ok (.putfield 119, 3) := by decide +kernel
theorem dX11_init_309 : decode cX11_init 309 = .ok (.aload_n 0, 1) := by decide +kernel
theorem dX11_init_310 : decode cX11_init 310 = .ok (.sipush 9000, 3) := by decide +kernel
theorem dX11_init_313 : decode cX11_init 313 = .ok (.newarray .int, 2) := by decide +kernel
theorem dX11_init_315 : decode cX11_init 315 = .ok (.putfield 122, 3) := by decide +kernel
theorem dX11_init_318 : decode cX11_init 318 = .ok (.aload_n 0, 1) := by decide +kernel
theorem dX11_init_319 : decode cX11_init 319 = .ok (.sipush 9000, 3) := by decide +kernel
theorem dX11_init_322 : decode cX11_init 322 = .ok (.newarray .int, 2) := by decide +kernel
theorem dX11_init_324 : decode cX11_init 324 = .ok (.putfield 125, 3) := by decide +kernel
theorem dX11_init_327 : decode cX11_init 327 = .ok (.aload_n 0, 1) := by decide +kernel
theorem dX11_init_328 : decode cX11_init 328 = .ok (.ldc 128, 2) := by decide +kernel
theorem dX11_init_330 : decode cX11_init 330 = .ok (.newarray .int, 2) := by decide +kernel
theorem dX11_init_332 : decode cX11_init 332 = .ok (.putfield 129, 3) := by decide +kernel
theorem dX11_init_335 : decode cX11_init 335 = .ok (.aload_n 0, 1) := by decide +kernel
theorem dX11_init_336 : decode cX11_init 336 = .ok (.iconst 3, 1) := by decide +kernel
theorem dX11_init_337 : decode cX11_init 337 = .ok (.newarray .int, 2) := by decide +kernel
theorem dX11_init_339 : decode cX11_init 339 = .ok (.putfield 132, 3) := by decide +kernel
theorem dX11_init_342 : decode cX11_init 342 = .ok (.aload_n 0, 1) := by decide +kernel
theorem dX11_init_343 : decode cX11_init 343 = .ok (.iconst 3, 1) := by decide +kernel
theorem dX11_init_344 : decode cX11_init 344 = .ok (.newarray .int, 2) := by decide +kernel
theorem dX11_init_346 : decode cX11_init 346 = .ok (.putfield 135, 3) := by decide +kernel
theorem dX11_init_349 : decode cX11_init 349 = .ok (.aload_n 0, 1) := by decide +kernel
theorem dX11_init_350 : decode cX11_init 350 = .ok (.iconst 3, 1) := by decide +kernel
theorem dX11_init_351 : decode cX11_init 351 = .ok (.newarray .int, 2) := by decide +kernel
theorem dX11_init_353 : decode cX11_init 353 = .ok (.putfield 138, 3) := by decide +kernel
theorem dX11_init_356 : decode cX11_init 356 = .ok (.aload_n 0, 1) := by decide +kernel
theorem dX11_init_357 : decode cX11_init 357 = .ok (.iconst 3, 1) := by decide +kernel
theorem dX11_init_358 : decode cX11_init 358 = .ok (.newarray .int, 2) := by decide +kernel
theorem dX11_init_360 : decode cX11_init 360 = .ok (.putfield 141, 3) := by decide +kernel
theorem dX11_init_363 : decode cX11_init 363 = .ok (.aload_n 0, 1) := by decide +kernel
theorem dX11_init_364 : decode cX11_init 364 = .ok (.iconst 3, 1) := by decide +kernel
theorem dX11_init_365 : decode cX11_init 365 = .ok (.newarray .int, 2) := by decide +kernel
theorem dX11_init_367 : decode cX11_init 367 = .ok (.putfield 144, 3) := by decide +kernel
theorem dX11_init_370 : decode cX11_init 370 = .ok (.aload_n 0, 1) := by decide +kernel
theorem dX11_init_371 : decode cX11_init 371 = .ok (.iconst 3, 1) := by decide +kernel
theorem dX11_init_372 : decode cX11_init 372 = .ok (.newarray .int, 2) := by decide +kernel
theorem dX11_init_374 : decode cX11_init 374 = .ok (.putfield 147, 3) := by decide +kernel
theorem dX11_init_377 : decode cX11_init 377 = .ok (.aload_n 0, 1) := by decide +kernel
theorem dX11_init_378 : decode cX11_init 378 = .ok (.iconst 3, 1) := by decide +kernel
theorem dX11_init_379 : decode cX11_init 379 = .ok (.newarray .boolean, 2) := by decide +kernel
theorem dX11_init_381 : decode cX11_init 381 = .ok (.putfield 150, 3) := by decide +kernel
theorem dX11_init_384 : decode cX11_init 384 = .ok (.aload_n 0, 1) := by decide +kernel
theorem dX11_init_385 : decode cX11_init 385 = .ok (.iconst 3, 1) := by decide +kernel
theorem dX11_init_386 : decode cX11_init 386 = .ok (.newarray .boolean, 2) := by decide +kernel
theorem dX11_init_388 : decode cX11_init 388 = .ok (.putfield 153, 3) := by decide +kernel
theorem dX11_init_391 : decode cX11_init 391 = .ok (.aload_n 0, 1) := by decide +kernel
theorem dX11_init_392 : decode cX11_init 392 = .ok (.sipush 3000, 3) := by decide +kernel
theorem dX11_init_395 : decode cX11_init 395 = .ok (.newarray .boolean, 2) := by decide +kernel
theorem dX11_init_397 : decode cX11_init 397 = .ok (.putfield 156, 3) := by decide +kernel
theorem dX11_init_400 : decode cX11_init 400 = .ok (.aload_n 0, 1) := by decide +kernel
theorem dX11_init_401 : decode cX11_init 401 = .ok (.sipush 3000, 3) := by decide +kernel
theorem dX11_init_404 : decode cX11_init 404 = .ok (.newarray .boolean, 2) := by decide +kernel
theorem dX11_init_406 : decode cX11_init 406 = .ok (.putfield 159, 3) := by decide +kernel
theorem dX11_init_409 : decode cX11_init 409 = .ok (.aload_n 0, 1) := by decide +kernel
theorem dX11_init_410 : decode cX11_init 410 = .ok (.bipush 6, 2) := by decide +kernel
theorem dX11_init_412 : decode cX11_init 412 = .ok (.newarray .boolean, 2) := by decide +kernel
theorem dX11_init_414 : decode cX11_init 414 = .ok (.putfield 162, 3) := by decide +kernel
theorem dX11_init_417 : decode cX11_init 417 = .ok (.aload_n 0, 1) := by decide +kernel
theorem dX11_init_418 : decode cX11_init 418 = .ok (.iload_n 1, 1) := by decide +kernel
theorem dX11_init_419 : decode cX11_init 419 = .ok (.iconst 2, 1) := by decide +kernel
theorem dX11_init_420 : decode cX11_init 420 = .ok (.if_icmp .ge 7, 3) := by decide +kernel
theorem dX11_init_423 : decode cX11_init 423 = .ok (.iconst 2, 1) := by decide +kernel
theorem dX11_init_424 : decode cX11_init 424 = .ok (.goto 15, 3) := by decide +kernel
theorem dX11_init_427 : decode cX11_init 427 = .ok (.iload_n 1, 1) := by decide +kernel
theorem dX11_init_428 : decode cX11_init 428 = .ok (.bipush 6, 2) := by decide +kernel
theorem dX11_init_430 : decode cX11_init 430 = .ok (.if_icmp .le 8, 3) := by decide +kernel
theorem dX11_init_433 : decode cX11_init 433 = .ok (.bipush 6, 2) := by decide +kernel
theorem dX11_init_435 : decode cX11_init 435 = .ok (.goto 4, 3) := by decide +kernel
theorem dX11_init_438 : decode cX11_init 438 = .ok (.iload_n 1, 1) := by decide +kernel
theorem dX11_init_439 : decode cX11_init 439 = .ok (.putfield 165, 3) := by decide +kernel
theorem dX11_init_442 : decode cX11_init 442 = .ok (.aload_n 0, 1) := by decide +kernel
theorem dX11_init_443 : decode cX11_init 443 = .ok (.iconst (-1), 1) := by decide +kernel
theorem dX11_init_444 : decode cX11_init 444 = .ok (.putfield 169, 3) := by decide +kernel
theorem dX11_init_447 : decode cX11_init 447 = .ok (.return_, 1) := by decide +kernel
theorem dX11_isDomain_0 : decode cX11_isDomain 0 = .ok (.iload_n 1, 1) := by decide +kernel
theorem dX11_isDomain_1 : decode cX11_isDomain 1 = .ok (.ifCond .lt 15, 3) := by decide +kernel
theorem dX11_isDomain_4 : decode cX11_isDomain 4 = .ok (.iload_n 1, 1) := by decide +kernel
theorem dX11_isDomain_5 : decode cX11_isDomain 5 = .ok (.aload_n 0, 1) := by decide +kernel
theorem dX11_isDomain_6 : decode cX11_isDomain 6 = .ok (.getfield 165, 3) := by decide +kernel
theorem dX11_isDomain_9 : decode cX11_isDomain 9 = .ok (.if_icmp .ge 7, 3) := by decide +kernel
theorem dX11_isDomain_12 : decode cX11_isDomain 12 = .ok (.iconst 1, 1) := by decide +kernel
theorem dX11_isDomain_13 : decode cX11_isDomain 13 = .ok (.goto 4, 3) := by decide +kernel
theorem dX11_isDomain_16 : decode cX11_isDomain 16 = .ok (.iconst 0, 1) := by decide +kernel
theorem dX11_isDomain_17 : decode cX11_isDomain 17 = .ok (.ireturn, 1) := by decide +kernel
theorem dX11_flowsTo_0 : decode cX11_flowsTo 0 = .ok (.iload_n 1, 1) := by decide +kernel
theorem dX11_flowsTo_1 : decode cX11_flowsTo 1 = .ok (.iload_n 2, 1) := by decide +kernel
theorem dX11_flowsTo_2 : decode cX11_flowsTo 2 = .ok (.if_icmp .eq 17, 3) := by decide +kernel
theorem dX11_flowsTo_5 : decode cX11_flowsTo 5 = .ok (.aload_n 0, 1) := by decide +kernel
theorem dX11_flowsTo_6 : decode cX11_flowsTo 6 = .ok (.getfield 7, 3) := by decide +kernel
theorem dX11_flowsTo_9 : decode cX11_flowsTo 9 = .ok (.bipush 6, 2) := by decide +kernel
theorem dX11_flowsTo_11 : decode cX11_flowsTo 11 = .ok (.iload_n 1, 1) := by decide +kernel
theorem dX11_flowsTo_12 : decode cX11_flowsTo 12 = .ok (.imul, 1) := by decide +kernel
theorem dX11_flowsTo_13 : decode cX11_flowsTo 13 = .ok (.iload_n 2, 1) := by decide +kernel
theorem dX11_flowsTo_14 : decode cX11_flowsTo 14 = .ok (.iadd, 1) := by decide +kernel
theorem dX11_flowsTo_15 : decode cX11_flowsTo 15 = .ok (.baload, 1) := by decide +kernel
theorem dX11_flowsTo_16 : decode cX11_flowsTo 16 = .ok (.ifCond .eq 7, 3) := by decide +kernel
theorem dX11_flowsTo_19 : decode cX11_flowsTo 19 = .ok (.iconst 1, 1) := by decide +kernel
theorem dX11_flowsTo_20 : decode cX11_flowsTo 20 = .ok (.goto 4, 3) := by decide +kernel
theorem dX11_flowsTo_23 : decode cX11_flowsTo 23 = .ok (.iconst 0, 1) := by decide +kernel
theorem dX11_flowsTo_24 : decode cX11_flowsTo 24 = .ok (.ireturn, 1) := by decide +kernel
theorem dX11_reigns_0 : decode cX11_reigns 0 = .ok (.iconst 1, 1) := by decide +kernel
theorem dX11_reigns_1 : decode cX11_reigns 1 = .ok (.istore_n 2, 1) := by decide +kernel
theorem dX11_reigns_2 : decode cX11_reigns 2 = .ok (.iconst 0, 1) := by decide +kernel
theorem dX11_reigns_3 : decode cX11_reigns 3 = .ok (.istore_n 3, 1) := by decide +kernel
theorem dX11_reigns_4 : decode cX11_reigns 4 = .ok (.iload_n 3, 1) := by decide +kernel
theorem dX11_reigns_5 : decode cX11_reigns 5 = .ok (.aload_n 0, 1) := by decide +kernel
theorem dX11_reigns_6 : decode cX11_reigns 6 = .ok (.getfield 165, 3) := by decide +kernel
theorem dX11_reigns_9 : decode cX11_reigns 9 = .ok (.if_icmp .ge 28, 3) := by decide +kernel
theorem dX11_reigns_12 : decode cX11_reigns 12 = .ok (.iload_n 2, 1) := by decide +kernel
theorem dX11_reigns_13 : decode cX11_reigns 13 = .ok (.ifCond .eq 16, 3) := by decide +kernel
theorem dX11_reigns_16 : decode cX11_reigns 16 = .ok (.aload_n 0, 1) := by decide +kernel
theorem dX11_reigns_17 : decode cX11_reigns 17 = .ok (.iload_n 1, 1) := by decide +kernel
theorem dX11_reigns_18 : decode cX11_reigns 18 = .ok (.iload_n 3, 1) := by decide +kernel
theorem dX11_reigns_19 : decode cX11_reigns 19 = .ok (.invokevirtual 172, 3) := by decide +kernel
theorem dX11_reigns_22 : decode cX11_reigns 22 = .ok (.ifCond .eq 7, 3) := by decide +kernel
theorem dX11_reigns_25 : decode cX11_reigns 25 = .ok (.iconst 1, 1) := by decide +kernel
theorem dX11_reigns_26 : decode cX11_reigns 26 = .ok (.goto 4, 3) := by decide +kernel
theorem dX11_reigns_29 : decode cX11_reigns 29 = .ok (.iconst 0, 1) := by decide +kernel
theorem dX11_reigns_30 : decode cX11_reigns 30 = .ok (.istore_n 2, 1) := by decide +kernel
theorem dX11_reigns_31 : decode cX11_reigns 31 = .ok (.iinc 3 1, 3) := by decide +kernel
theorem dX11_reigns_34 : decode cX11_reigns 34 = .ok (.goto (-30), 3) := by decide +kernel
theorem dX11_reigns_37 : decode cX11_reigns 37 = .ok (.iload_n 2, 1) := by decide +kernel
theorem dX11_reigns_38 : decode cX11_reigns 38 = .ok (.ireturn, 1) := by decide +kernel
theorem dX11_flow_0 : decode cX11_flow 0 = .ok (.aload_n 0, 1) := by decide +kernel
theorem dX11_flow_1 : decode cX11_flow 1 = .ok (.iload_n 1, 1) := by decide +kernel
theorem dX11_flow_2 : decode cX11_flow 2 = .ok (.invokevirtual 176, 3) := by decide +kernel
theorem dX11_flow_5 : decode cX11_flow 5 = .ok (.ifCond .eq 23, 3) := by decide +kernel
theorem dX11_flow_8 : decode cX11_flow 8 = .ok (.aload_n 0, 1) := by decide +kernel
theorem dX11_flow_9 : decode cX11_flow 9 = .ok (.iload_n 2, 1) := by decide +kernel
theorem dX11_flow_10 : decode cX11_flow 10 = .ok (.invokevirtual 176, 3) := by decide +kernel
theorem dX11_flow_13 : decode cX11_flow 13 = .ok (.ifCond .eq 15, 3) := by decide +kernel
theorem dX11_flow_16 : decode cX11_flow 16 = .ok (.iload_n 1, 1) := by decide +kernel
theorem dX11_flow_17 : decode cX11_flow 17 = .ok (.iload_n 2, 1) := by decide +kernel
theorem dX11_flow_18 : decode cX11_flow 18 = .ok (.if_icmp .eq 10, 3) := by decide +kernel
theorem dX11_flow_21 : decode cX11_flow 21 = .ok (.aload_n 0, 1) := by decide +kernel
theorem dX11_flow_22 : decode cX11_flow 22 = .ok (.getfield 180, 3) := by decide +kernel
theorem dX11_flow_25 : decode cX11_flow 25 = .ok (.ifCond .eq 5, 3) := by decide +kernel
theorem dX11_flow_28 : decode cX11_flow 28 = .ok (.iconst 0, 1) := by decide +kernel
theorem dX11_flow_29 : decode cX11_flow 29 = .ok (.ireturn, 1) := by decide +kernel
theorem dX11_flow_30 : decode cX11_flow 30 = .ok (.iconst 0, 1) := by decide +kernel
theorem dX11_flow_31 : decode cX11_flow 31 = .ok (.istore 4, 2) := by decide +kernel
theorem dX11_flow_33 : decode cX11_flow 33 = .ok (.iload 4, 2) := by decide +kernel
theorem dX11_flow_35 : decode cX11_flow 35 = .ok (.aload_n 0, 1) := by decide +kernel
theorem dX11_flow_36 : decode cX11_flow 36 = .ok (.getfield 184, 3) := by decide +kernel
theorem dX11_flow_39 : decode cX11_flow 39 = .ok (.if_icmp .ge 37, 3) := by decide +kernel
theorem dX11_flow_42 : decode cX11_flow 42 = .ok (.iload_n 3, 1) := by decide +kernel
theorem dX11_flow_43 : decode cX11_flow 43 = .ok (.ifCond .ne 27, 3) := by decide +kernel
theorem dX11_flow_46 : decode cX11_flow 46 = .ok (.aload_n 0, 1) := by decide +kernel
theorem dX11_flow_47 : decode cX11_flow 47 = .ok (.getfield 13, 3) := by decide +kernel
theorem dX11_flow_50 : decode cX11_flow 50 = .ok (.iload 4, 2) := by decide +kernel
theorem dX11_flow_52 : decode cX11_flow 52 = .ok (.iaload, 1) := by decide +kernel
theorem dX11_flow_53 : decode cX11_flow 53 = .ok (.iload_n 1, 1) := by decide +kernel
theorem dX11_flow_54 : decode cX11_flow 54 = .ok (.if_icmp .ne 16, 3) := by decide +kernel
theorem dX11_flow_57 : decode cX11_flow 57 = .ok (.aload_n 0, 1) := by decide +kernel
theorem dX11_flow_58 : decode cX11_flow 58 = .ok (.getfield 17, 3) := by decide +kernel
theorem dX11_flow_61 : decode cX11_flow 61 = .ok (.iload 4, 2) := by decide +kernel
theorem dX11_flow_63 : decode cX11_flow 63 = .ok (.iaload, 1) := by decide +kernel
theorem dX11_flow_64 : decode cX11_flow 64 = .ok (.iload_n 2, 1) := by decide +kernel
theorem dX11_flow_65 : decode cX11_flow 65 = .ok (.if_icmp .ne 5, 3) := by decide +kernel
theorem dX11_flow_68 : decode cX11_flow 68 = .ok (.iconst 0, 1) := by decide +kernel
theorem dX11_flow_69 : decode cX11_flow 69 = .ok (.ireturn, 1) := by decide +kernel
theorem dX11_flow_70 : decode cX11_flow 70 = .ok (.iinc 4 1, 3) := by decide +kernel
theorem dX11_flow_73 : decode cX11_flow 73 = .ok (.goto (-40), 3) := by decide +kernel
theorem dX11_flow_76 : decode cX11_flow 76 = .ok (.aload_n 0, 1) := by decide +kernel
theorem dX11_flow_77 : decode cX11_flow 77 = .ok (.getfield 7, 3) := by decide +kernel
theorem dX11_flow_80 : decode cX11_flow 80 = .ok (.bipush 6, 2) := by decide +kernel
theorem dX11_flow_82 : decode cX11_flow 82 = .ok (.iload_n 1, 1) := by decide +kernel
theorem dX11_flow_83 : decode cX11_flow 83 = .ok (.imul, 1) := by decide +kernel
theorem dX11_flow_84 : decode cX11_flow 84 = .ok (.iload_n 2, 1) := by decide +kernel
theorem dX11_flow_85 : decode cX11_flow 85 = .ok (.iadd, 1) := by decide +kernel
theorem dX11_flow_86 : decode cX11_flow 86 = .ok (.iload_n 3, 1) := by decide +kernel
theorem dX11_flow_87 : decode cX11_flow 87 = .ok (.bastore, 1) := by decide +kernel
theorem dX11_flow_88 : decode cX11_flow 88 = .ok (.iconst 1, 1) := by decide +kernel
theorem dX11_flow_89 : decode cX11_flow 89 = .ok (.ireturn, 1) := by decide +kernel
theorem dX11_channel_0 : decode cX11_channel 0 = .ok (.aload_n 0, 1) := by decide +kernel
theorem dX11_channel_1 : decode cX11_channel 1 = .ok (.iload_n 1, 1) := by decide +kernel
theorem dX11_channel_2 : decode cX11_channel 2 = .ok (.invokevirtual 176, 3) := by decide +kernel
theorem dX11_channel_5 : decode cX11_channel 5 = .ok (.ifCond .eq 58, 3) := by decide +kernel
theorem dX11_channel_8 : decode cX11_channel 8 = .ok (.aload_n 0, 1) := by decide +kernel
theorem dX11_channel_9 : decode cX11_channel 9 = .ok (.iload_n 2, 1) := by decide +kernel
theorem dX11_channel_10 : decode cX11_channel 10 = .ok (.invokevirtual 176, 3) := by decide +kernel
theorem dX11_channel_13 : decode cX11_channel 13 = .ok (.ifCond .eq 50, 3) := by decide +kernel
theorem dX11_channel_16 : decode cX11_channel 16 = .ok (.iload_n 1, 1) := by decide +kernel
theorem dX11_channel_17 : decode cX11_channel 17 = .ok (.iload_n 2, 1) := by decide +kernel
theorem dX11_channel_18 : decode cX11_channel 18 = .ok (.if_icmp .eq 45, 3) := by decide +kernel
theorem dX11_channel_21 : decode cX11_channel 21 = .ok (.aload_n 0, 1) := by decide +kernel
theorem dX11_channel_22 : decode cX11_channel 22 = .ok (.getfield 7, 3) := by decide +kernel
theorem dX11_channel_25 : decode cX11_channel 25 = .ok (.bipush 6, 2) := by decide +kernel
theorem dX11_channel_27 : decode cX11_channel 27 = .ok (.iload_n 1, 1) := by decide +kernel
theorem dX11_channel_28 : decode cX11_channel 28 = .ok (.imul, 1) := by decide +kernel
theorem dX11_channel_29 : decode cX11_channel 29 = .ok (.iload_n 2, 1) := by decide +kernel
theorem dX11_channel_30 : decode cX11_channel 30 = .ok (.iadd, 1) := by decide +kernel
theorem dX11_channel_31 : decode cX11_channel 31 = .ok (.baload, 1) := by decide +kernel
theorem dX11_channel_32 : decode cX11_channel 32 = .ok (.ifCond .eq 31, 3) := by decide +kernel
theorem dX11_channel_35 : decode cX11_channel 35 = .ok (.iload 4, 2) := by decide +kernel
theorem dX11_channel_37 : decode cX11_channel 37 = .ok (.iconst 1, 1) := by decide +kernel
theorem dX11_channel_38 : decode cX11_channel 38 = .ok (.if_icmp .lt 25, 3) := by decide +kernel
theorem dX11_channel_41 : decode cX11_channel 41 = .ok (.iload 4, 2) := by decide +kernel
theorem dX11_channel_43 : decode cX11_channel 43 = .ok (.iconst 4, 1) := by decide +kernel
theorem dX11_channel_44 : decode cX11_channel 44 = .ok (.if_icmp .gt 19, 3) := by decide +kernel
theorem dX11_channel_47 : decode cX11_channel 47 = .ok (.aload_n 0, 1) := by decide +kernel
theorem dX11_channel_48 : decode cX11_channel 48 = .ok (.getfield 184, 3) := by decide +kernel
theorem dX11_channel_51 : decode cX11_channel 51 = .ok (.bipush 12, 2) := by decide +kernel
theorem dX11_channel_53 : decode cX11_channel 53 = .ok (.if_icmp .eq 10, 3) := by decide +kernel
theorem dX11_channel_56 : decode cX11_channel 56 = .ok (.aload_n 0, 1) := by decide +kernel
theorem dX11_channel_57 : decode cX11_channel 57 = .ok (.getfield 180, 3) := by decide +kernel
theorem dX11_channel_60 : decode cX11_channel 60 = .ok (.ifCond .eq 5, 3) := by decide +kernel
theorem dX11_channel_63 : decode cX11_channel 63 = .ok (.iconst (-1), 1) := by decide +kernel
theorem dX11_channel_64 : decode cX11_channel 64 = .ok (.ireturn, 1) := by decide +kernel
theorem dX11_channel_65 : decode cX11_channel 65 = .ok (.aload_n 0, 1) := by decide +kernel
theorem dX11_channel_66 : decode cX11_channel 66 = .ok (.getfield 13, 3) := by decide +kernel
theorem dX11_channel_69 : decode cX11_channel 69 = .ok (.aload_n 0, 1) := by decide +kernel
theorem dX11_channel_70 : decode cX11_channel 70 = .ok (.getfield 184, 3) := by decide +kernel
theorem dX11_channel_73 : decode cX11_channel 73 = .ok (.iload_n 1, 1) := by decide +kernel
theorem dX11_channel_74 : decode cX11_channel 74 = .ok (.iastore, 1) := by decide +kernel
theorem dX11_channel_75 : decode cX11_channel 75 = .ok (.aload_n 0, 1) := by decide +kernel
theorem dX11_channel_76 : decode cX11_channel 76 = .ok (.getfield 17, 3) := by decide +kernel
theorem dX11_channel_79 : decode cX11_channel 79 = .ok (.aload_n 0, 1) := by decide +kernel
theorem dX11_channel_80 : decode cX11_channel 80 = .ok (.getfield 184, 3) := by decide +kernel
theorem dX11_channel_83 : decode cX11_channel 83 = .ok (.iload_n 2, 1) := by decide +kernel
theorem dX11_channel_84 : decode cX11_channel 84 = .ok (.iastore, 1) := by decide +kernel
theorem dX11_channel_85 : decode cX11_channel 85 = .ok (.aload_n 0, 1) := by decide +kernel
theorem dX11_channel_86 : decode cX11_channel 86 = .ok (.getfield 20, 3) := by decide +kernel
theorem dX11_channel_89 : decode cX11_channel 89 = .ok (.aload_n 0, 1) := by decide +kernel
theorem dX11_channel_90 : decode cX11_channel 90 = .ok (.getfield 184, 3) := by decide +kernel
theorem dX11_channel_93 : decode cX11_channel 93 = .ok (.iload_n 3, 1) := by decide +kernel
theorem dX11_channel_94 : decode cX11_channel 94 = .ok (.bastore, 1) := by decide +kernel
theorem dX11_channel_95 : decode cX11_channel 95 = .ok (.aload_n 0, 1) := by decide +kernel
theorem dX11_channel_96 : decode cX11_channel 96 = .ok (.getfield 23, 3) := by decide +kernel
theorem dX11_channel_99 : decode cX11_channel 99 = .ok (.aload_n 0, 1) := by decide +kernel
theorem dX11_channel_100 : decode cX11_channel 100 = .ok (.getfield 184, 3) := by decide +kernel
theorem dX11_channel_103 : decode cX11_channel 103 = .ok (.iload 4, 2) := by decide +kernel
theorem dX11_channel_105 : decode cX11_channel 105 = .ok (.iastore, 1) := by decide +kernel
theorem dX11_channel_106 : decode cX11_channel 106 = .ok (.aload_n 0, 1) := by decide +kernel
theorem dX11_channel_107 : decode cX11_channel 107 = .ok (.dup, 1) := by decide +kernel
theorem dX11_channel_108 : decode cX11_channel 108 = .ok (.getfield 184, 3) := by decide +kernel
theorem dX11_channel_111 : decode cX11_channel 111 = .ok (.iconst 1, 1) := by decide +kernel
theorem dX11_channel_112 : decode cX11_channel 112 = .ok (.iadd, 1) := by decide +kernel
theorem dX11_channel_113 : decode cX11_channel 113 = .ok (.putfield 184, 3) := by decide +kernel
theorem dX11_channel_116 : decode cX11_channel 116 = .ok (.aload_n 0, 1) := by decide +kernel
theorem dX11_channel_117 : decode cX11_channel 117 = .ok (.getfield 184, 3) := by decide +kernel
theorem dX11_channel_120 : decode cX11_channel 120 = .ok (.iconst 1, 1) := by decide +kernel
theorem dX11_channel_121 : decode cX11_channel 121 = .ok (.isub, 1) := by decide +kernel
theorem dX11_channel_122 : decode cX11_channel 122 = .ok (.ireturn, 1) := by decide +kernel
theorem dX11_code_0 : decode cX11_code 0 = .ok (.aload_n 0, 1) := by decide +kernel
theorem dX11_code_1 : decode cX11_code 1 = .ok (.iload_n 1, 1) := by decide +kernel
theorem dX11_code_2 : decode cX11_code 2 = .ok (.invokevirtual 176, 3) := by decide +kernel
theorem dX11_code_5 : decode cX11_code 5 = .ok (.ifCond .eq 21, 3) := by decide +kernel
theorem dX11_code_8 : decode cX11_code 8 = .ok (.aload_n 0, 1) := by decide +kernel
theorem dX11_code_9 : decode cX11_code 9 = .ok (.getfield 29, 3) := by decide +kernel
theorem dX11_code_12 : decode cX11_code 12 = .ok (.iload_n 1, 1) := by decide +kernel
theorem dX11_code_13 : decode cX11_code 13 = .ok (.iaload, 1) := by decide +kernel
theorem dX11_code_14 : decode cX11_code 14 = .ok (.bipush 64, 2) := by decide +kernel
theorem dX11_code_16 : decode cX11_code 16 = .ok (.if_icmp .eq 10, 3) := by decide +kernel
theorem dX11_code_19 : decode cX11_code 19 = .ok (.aload_n 0, 1) := by decide +kernel
theorem dX11_code_20 : decode cX11_code 20 = .ok (.getfield 180, 3) := by decide +kernel
theorem dX11_code_23 : decode cX11_code 23 = .ok (.ifCond .eq 5, 3) := by decide +kernel
theorem dX11_code_26 : decode cX11_code 26 = .ok (.iconst (-1), 1) := by decide +kernel
theorem dX11_code_27 : decode cX11_code 27 = .ok (.ireturn, 1) := by decide +kernel
theorem dX11_code_28 : decode cX11_code 28 = .ok (.aload_n 0, 1) := by decide +kernel
theorem dX11_code_29 : decode cX11_code 29 = .ok (.getfield 26, 3) := by decide +kernel
theorem dX11_code_32 : decode cX11_code 32 = .ok (.bipush 64, 2) := by decide +kernel
theorem dX11_code_34 : decode cX11_code 34 = .ok (.iload_n 1, 1) := by decide +kernel
theorem dX11_code_35 : decode cX11_code 35 = .ok (.imul, 1) := by decide +kernel
theorem dX11_code_36 : decode cX11_code 36 = .ok (.aload_n 0, 1) := by decide +kernel
theorem dX11_code_37 : decode cX11_code 37 = .ok (.getfield 29, 3) := by decide +kernel
theorem dX11_code_40 : decode cX11_code 40 = .ok (.iload_n 1, 1) := by decide +kernel
theorem dX11_code_41 : decode cX11_code 41 = .ok (.iaload, 1) := by decide +kernel
theorem dX11_code_42 : decode cX11_code 42 = .ok (.iadd, 1) := by decide +kernel
theorem dX11_code_43 : decode cX11_code 43 = .ok (.iload_n 2, 1) := by decide +kernel
theorem dX11_code_44 : decode cX11_code 44 = .ok (.iastore, 1) := by decide +kernel
theorem dX11_code_45 : decode cX11_code 45 = .ok (.aload_n 0, 1) := by decide +kernel
theorem dX11_code_46 : decode cX11_code 46 = .ok (.getfield 29, 3) := by decide +kernel
theorem dX11_code_49 : decode cX11_code 49 = .ok (.iload_n 1, 1) := by decide +kernel
theorem dX11_code_50 : decode cX11_code 50 = .ok (.dup2, 1) := by decide +kernel
theorem dX11_code_51 : decode cX11_code 51 = .ok (.iaload, 1) := by decide +kernel
theorem dX11_code_52 : decode cX11_code 52 = .ok (.iconst 1, 1) := by decide +kernel
theorem dX11_code_53 : decode cX11_code 53 = .ok (.iadd, 1) := by decide +kernel
theorem dX11_code_54 : decode cX11_code 54 = .ok (.iastore, 1) := by decide +kernel
theorem dX11_code_55 : decode cX11_code 55 = .ok (.aload_n 0, 1) := by decide +kernel
theorem dX11_code_56 : decode cX11_code 56 = .ok (.getfield 29, 3) := by decide +kernel
theorem dX11_code_59 : decode cX11_code 59 = .ok (.iload_n 1, 1) := by decide +kernel
theorem dX11_code_60 : decode cX11_code 60 = .ok (.iaload, 1) := by decide +kernel
theorem dX11_code_61 : decode cX11_code 61 = .ok (.ireturn, 1) := by decide +kernel
theorem dX11_onFail_0 : decode cX11_onFail 0 = .ok (.aload_n 0, 1) := by decide +kernel
theorem dX11_onFail_1 : decode cX11_onFail 1 = .ok (.iload_n 1, 1) := by decide +kernel
theorem dX11_onFail_2 : decode cX11_onFail 2 = .ok (.invokevirtual 176, 3) := by decide +kernel
theorem dX11_onFail_5 : decode cX11_onFail 5 = .ok (.ifCond .eq 19, 3) := by decide +kernel
theorem dX11_onFail_8 : decode cX11_onFail 8 = .ok (.iload_n 2, 1) := by decide +kernel
theorem dX11_onFail_9 : decode cX11_onFail 9 = .ok (.ifCond .lt 15, 3) := by decide +kernel
theorem dX11_onFail_12 : decode cX11_onFail 12 = .ok (.iload_n 2, 1) := by decide +kernel
theorem dX11_onFail_13 : decode cX11_onFail 13 = .ok (.iconst 2, 1) := by decide +kernel
theorem dX11_onFail_14 : decode cX11_onFail 14 = .ok (.if_icmp .gt 10, 3) := by decide +kernel
theorem dX11_onFail_17 : decode cX11_onFail 17 = .ok (.aload_n 0, 1) := by decide +kernel
theorem dX11_onFail_18 : decode cX11_onFail 18 = .ok (.getfield 180, 3) := by decide +kernel
theorem dX11_onFail_21 : decode cX11_onFail 21 = .ok (.ifCond .eq 5, 3) := by decide +kernel
theorem dX11_onFail_24 : decode cX11_onFail 24 = .ok (.iconst 0, 1) := by decide +kernel
theorem dX11_onFail_25 : decode cX11_onFail 25 = .ok (.ireturn, 1) := by decide +kernel
theorem dX11_onFail_26 : decode cX11_onFail 26 = .ok (.aload_n 0, 1) := by decide +kernel
theorem dX11_onFail_27 : decode cX11_onFail 27 = .ok (.getfield 32, 3) := by decide +kernel
theorem dX11_onFail_30 : decode cX11_onFail 30 = .ok (.iload_n 1, 1) := by decide +kernel
theorem dX11_onFail_31 : decode cX11_onFail 31 = .ok (.iload_n 2, 1) := by decide +kernel
theorem dX11_onFail_32 : decode cX11_onFail 32 = .ok (.iastore, 1) := by decide +kernel
theorem dX11_onFail_33 : decode cX11_onFail 33 = .ok (.iconst 1, 1) := by decide +kernel
theorem dX11_onFail_34 : decode cX11_onFail 34 = .ok (.ireturn, 1) := by decide +kernel
theorem dX11_slot_0 : decode cX11_slot 0 = .ok (.iload_n 1, 1) := by decide +kernel
theorem dX11_slot_1 : decode cX11_slot 1 = .ok (.ifCond .lt 45, 3) := by decide +kernel
theorem dX11_slot_4 : decode cX11_slot 4 = .ok (.iload_n 1, 1) := by decide +kernel
theorem dX11_slot_5 : decode cX11_slot 5 = .ok (.iconst 2, 1) := by decide +kernel
theorem dX11_slot_6 : decode cX11_slot 6 = .ok (.if_icmp .gt 40, 3) := by decide +kernel
theorem dX11_slot_9 : decode cX11_slot 9 = .ok (.aload_n 0, 1) := by decide +kernel
theorem dX11_slot_10 : decode cX11_slot 10 = .ok (.iload_n 2, 1) := by decide +kernel
theorem dX11_slot_11 : decode cX11_slot 11 = .ok (.invokevirtual 176, 3) := by decide +kernel
theorem dX11_slot_14 : decode cX11_slot 14 = .ok (.ifCond .eq 32, 3) := by decide +kernel
theorem dX11_slot_17 : decode cX11_slot 17 = .ok (.iload_n 3, 1) := by decide +kernel
theorem dX11_slot_18 : decode cX11_slot 18 = .ok (.iconst 1, 1) := by decide +kernel
theorem dX11_slot_19 : decode cX11_slot 19 = .ok (.if_icmp .lt 27, 3) := by decide +kernel
theorem dX11_slot_22 : decode cX11_slot 22 = .ok (.iload_n 3, 1) := by decide +kernel
theorem dX11_slot_23 : decode cX11_slot 23 = .ok (.bipush 20, 2) := by decide +kernel
theorem dX11_slot_25 : decode cX11_slot 25 = .ok (.if_icmp .gt 21, 3) := by decide +kernel
theorem dX11_slot_28 : decode cX11_slot 28 = .ok (.aload_n 0, 1) := by decide +kernel
theorem dX11_slot_29 : decode cX11_slot 29 = .ok (.getfield 41, 3) := by decide +kernel
theorem dX11_slot_32 : decode cX11_slot 32 = .ok (.iload_n 1, 1) := by decide +kernel
theorem dX11_slot_33 : decode cX11_slot 33 = .ok (.iaload, 1) := by decide +kernel
theorem dX11_slot_34 : decode cX11_slot 34 = .ok (.bipush 12, 2) := by decide +kernel
theorem dX11_slot_36 : decode cX11_slot 36 = .ok (.if_icmp .eq 10, 3) := by decide +kernel
theorem dX11_slot_39 : decode cX11_slot 39 = .ok (.aload_n 0, 1) := by decide +kernel
theorem dX11_slot_40 : decode cX11_slot 40 = .ok (.getfield 180, 3) := by decide +kernel
theorem dX11_slot_43 : decode cX11_slot 43 = .ok (.ifCond .eq 5, 3) := by decide +kernel
theorem dX11_slot_46 : decode cX11_slot 46 = .ok (.iconst (-1), 1) := by decide +kernel
theorem dX11_slot_47 : decode cX11_slot 47 = .ok (.ireturn, 1) := by decide +kernel
theorem dX11_slot_48 : decode cX11_slot 48 = .ok (.aload_n 0, 1) := by decide +kernel
theorem dX11_slot_49 : decode cX11_slot 49 = .ok (.getfield 35, 3) := by decide +kernel
theorem dX11_slot_52 : decode cX11_slot 52 = .ok (.bipush 12, 2) := by decide +kernel
theorem dX11_slot_54 : decode cX11_slot 54 = .ok (.iload_n 1, 1) := by decide +kernel
theorem dX11_slot_55 : decode cX11_slot 55 = .ok (.imul, 1) := by decide +kernel
theorem dX11_slot_56 : decode cX11_slot 56 = .ok (.aload_n 0, 1) := by decide +kernel
theorem dX11_slot_57 : decode cX11_slot 57 = .ok (.getfield 41, 3) := by decide +kernel
theorem dX11_slot_60 : decode cX11_slot 60 = .ok (.iload_n 1, 1) := by decide +kernel
theorem dX11_slot_61 : decode cX11_slot 61 = .ok (.iaload, 1) := by decide +kernel
theorem dX11_slot_62 : decode cX11_slot 62 = .ok (.iadd, 1) := by decide +kernel
theorem dX11_slot_63 : decode cX11_slot 63 = .ok (.iload_n 2, 1) := by decide +kernel
theorem dX11_slot_64 : decode cX11_slot 64 = .ok (.iastore, 1) := by decide +kernel
theorem dX11_slot_65 : decode cX11_slot 65 = .ok (.aload_n 0, 1) := by decide +kernel
theorem dX11_slot_66 : decode cX11_slot 66 = .ok (.getfield 38, 3) := by decide +kernel
theorem dX11_slot_69 : decode cX11_slot 69 = .ok (.bipush 12, 2) := by decide +kernel
theorem dX11_slot_71 : decode cX11_slot 71 = .ok (.iload_n 1, 1) := by decide +kernel
theorem dX11_slot_72 : decode cX11_slot 72 = .ok (.imul, 1) := by decide +kernel
theorem dX11_slot_73 : decode cX11_slot 73 = .ok (.aload_n 0, 1) := by decide +kernel
theorem dX11_slot_74 : decode cX11_slot 74 = .ok (.getfield 41, 3) := by decide +kernel
theorem dX11_slot_77 : decode cX11_slot 77 = .ok (.iload_n 1, 1) := by decide +kernel
theorem dX11_slot_78 : decode cX11_slot 78 = .ok (.iaload, 1) := by decide +kernel
theorem dX11_slot_79 : decode cX11_slot 79 = .ok (.iadd, 1) := by decide +kernel
theorem dX11_slot_80 : decode cX11_slot 80 = .ok (.iload_n 3, 1) := by decide +kernel
theorem dX11_slot_81 : decode cX11_slot 81 = .ok (.iastore, 1) := by decide +kernel
theorem dX11_slot_82 : decode cX11_slot 82 = .ok (.aload_n 0, 1) := by decide +kernel
theorem dX11_slot_83 : decode cX11_slot 83 = .ok (.getfield 41, 3) := by decide +kernel
theorem dX11_slot_86 : decode cX11_slot 86 = .ok (.iload_n 1, 1) := by decide +kernel
theorem dX11_slot_87 : decode cX11_slot 87 = .ok (.dup2, 1) := by decide +kernel
theorem dX11_slot_88 : decode cX11_slot 88 = .ok (.iaload, 1) := by decide +kernel
theorem dX11_slot_89 : decode cX11_slot 89 = .ok (.iconst 1, 1) := by decide +kernel
theorem dX11_slot_90 : decode cX11_slot 90 = .ok (.iadd, 1) := by decide +kernel
theorem dX11_slot_91 : decode cX11_slot 91 = .ok (.iastore, 1) := by decide +kernel
theorem dX11_slot_92 : decode cX11_slot 92 = .ok (.aload_n 0, 1) := by decide +kernel
theorem dX11_slot_93 : decode cX11_slot 93 = .ok (.getfield 41, 3) := by decide +kernel
theorem dX11_slot_96 : decode cX11_slot 96 = .ok (.iload_n 1, 1) := by decide +kernel
theorem dX11_slot_97 : decode cX11_slot 97 = .ok (.iaload, 1) := by decide +kernel
theorem dX11_slot_98 : decode cX11_slot 98 = .ok (.ireturn, 1) := by decide +kernel
theorem dX11_seal_0 : decode cX11_seal 0 = .ok (.aload_n 0, 1) := by decide +kernel
theorem dX11_seal_1 : decode cX11_seal 1 = .ok (.getfield 180, 3) := by decide +kernel
theorem dX11_seal_4 : decode cX11_seal 4 = .ok (.ifCond .ne 12, 3) := by decide +kernel
theorem dX11_seal_7 : decode cX11_seal 7 = .ok (.aload_n 0, 1) := by decide +kernel
theorem dX11_seal_8 : decode cX11_seal 8 = .ok (.getfield 41, 3) := by decide +kernel
theorem dX11_seal_11 : decode cX11_seal 11 = .ok (.iconst 0, 1) := by decide +kernel
theorem dX11_seal_12 : decode cX11_seal 12 = .ok (.iaload, 1) := by decide +kernel
theorem dX11_seal_13 : decode cX11_seal 13 = .ok (.ifCond .ne 5, 3) := by decide +kernel
theorem dX11_seal_16 : decode cX11_seal 16 = .ok (.iconst (-1), 1) := by decide +kernel
theorem dX11_seal_17 : decode cX11_seal 17 = .ok (.ireturn, 1) := by decide +kernel
theorem dX11_seal_18 : decode cX11_seal 18 = .ok (.aload_n 0, 1) := by decide +kernel
theorem dX11_seal_19 : decode cX11_seal 19 = .ok (.iconst 1, 1) := by decide +kernel
theorem dX11_seal_20 : decode cX11_seal 20 = .ok (.putfield 180, 3) := by decide +kernel
theorem dX11_seal_23 : decode cX11_seal 23 = .ok (.aload_n 0, 1) := by decide +kernel
theorem dX11_seal_24 : decode cX11_seal 24 = .ok (.iconst 0, 1) := by decide +kernel
theorem dX11_seal_25 : decode cX11_seal 25 = .ok (.invokevirtual 187, 3) := by decide +kernel
theorem dX11_seal_28 : decode cX11_seal 28 = .ok (.iconst 1, 1) := by decide +kernel
theorem dX11_seal_29 : decode cX11_seal 29 = .ok (.ireturn, 1) := by decide +kernel
theorem dX11_reset_0 : decode cX11_reset 0 = .ok (.bipush 48, 2) := by decide +kernel
theorem dX11_reset_2 : decode cX11_reset 2 = .ok (.iload_n 1, 1) := by decide +kernel
theorem dX11_reset_3 : decode cX11_reset 3 = .ok (.imul, 1) := by decide +kernel
theorem dX11_reset_4 : decode cX11_reset 4 = .ok (.istore_n 2, 1) := by decide +kernel
theorem dX11_reset_5 : decode cX11_reset 5 = .ok (.iload_n 2, 1) := by decide +kernel
theorem dX11_reset_6 : decode cX11_reset 6 = .ok (.bipush 48, 2) := by decide +kernel
theorem dX11_reset_8 : decode cX11_reset 8 = .ok (.iload_n 1, 1) := by decide +kernel
theorem dX11_reset_9 : decode cX11_reset 9 = .ok (.imul, 1) := by decide +kernel
theorem dX11_reset_10 : decode cX11_reset 10 = .ok (.bipush 48, 2) := by decide +kernel
theorem dX11_reset_12 : decode cX11_reset 12 = .ok (.iadd, 1) := by decide +kernel
theorem dX11_reset_13 : decode cX11_reset 13 = .ok (.if_icmp .ge 30, 3) := by decide +kernel
theorem dX11_reset_16 : decode cX11_reset 16 = .ok (.aload_n 0, 1) := by decide +kernel
theorem dX11_reset_17 : decode cX11_reset 17 = .ok (.getfield 56, 3) := by decide +kernel
theorem dX11_reset_20 : decode cX11_reset 20 = .ok (.iload_n 2, 1) := by decide +kernel
theorem dX11_reset_21 : decode cX11_reset 21 = .ok (.iconst 0, 1) := by decide +kernel
theorem dX11_reset_22 : decode cX11_reset 22 = .ok (.iastore, 1) := by decide +kernel
theorem dX11_reset_23 : decode cX11_reset 23 = .ok (.aload_n 0, 1) := by decide +kernel
theorem dX11_reset_24 : decode cX11_reset 24 = .ok (.getfield 68, 3) := by decide +kernel
theorem dX11_reset_27 : decode cX11_reset 27 = .ok (.iload_n 2, 1) := by decide +kernel
theorem dX11_reset_28 : decode cX11_reset 28 = .ok (.iconst 0, 1) := by decide +kernel
theorem dX11_reset_29 : decode cX11_reset 29 = .ok (.iastore, 1) := by decide +kernel
theorem dX11_reset_30 : decode cX11_reset 30 = .ok (.aload_n 0, 1) := by decide +kernel
theorem dX11_reset_31 : decode cX11_reset 31 = .ok (.getfield 113, 3) := by decide +kernel
theorem dX11_reset_34 : decode cX11_reset 34 = .ok (.iload_n 2, 1) := by decide +kernel
theorem dX11_reset_35 : decode cX11_reset 35 = .ok (.iconst 0, 1) := by decide +kernel
theorem dX11_reset_36 : decode cX11_reset 36 = .ok (.iastore, 1) := by decide +kernel
theorem dX11_reset_37 : decode cX11_reset 37 = .ok (.iinc 2 1, 3) := by decide +kernel
theorem dX11_reset_40 : decode cX11_reset 40 = .ok (.goto (-35), 3) := by decide +kernel
theorem dX11_reset_43 : decode cX11_reset 43 = .ok (.sipush 192, 3) := by decide +kernel
theorem dX11_reset_46 : decode cX11_reset 46 = .ok (.iload_n 1, 1) := by decide +kernel
theorem dX11_reset_47 : decode cX11_reset 47 = .ok (.imul, 1) := by decide +kernel
theorem dX11_reset_48 : decode cX11_reset 48 = .ok (.istore_n 2, 1) := by decide +kernel
theorem dX11_reset_49 : decode cX11_reset 49 = .ok (.iload_n 2, 1) := by decide +kernel
theorem dX11_reset_50 : decode cX11_reset 50 = .ok (.sipush 192, 3) := by decide +kernel
theorem dX11_reset_53 : decode cX11_reset 53 = .ok (.iload_n 1, 1) := by decide +kernel
theorem dX11_reset_54 : decode cX11_reset 54 = .ok (.imul, 1) := by decide +kernel
theorem dX11_reset_55 : decode cX11_reset 55 = .ok (.sipush 192, 3) := by decide +kernel
theorem dX11_reset_58 : decode cX11_reset 58 = .ok (.iadd, 1) := by decide +kernel
theorem dX11_reset_59 : decode cX11_reset 59 = .ok (.if_icmp .ge 16, 3) := by decide +kernel
theorem dX11_reset_62 : decode cX11_reset 62 = .ok (.aload_n 0, 1) := by decide +kernel
theorem dX11_reset_63 : decode cX11_reset 63 = .ok (.getfield 59, 3) := by decide +kernel
theorem dX11_reset_66 : decode cX11_reset 66 = .ok (.iload_n 2, 1) := by decide +kernel
theorem dX11_reset_67 : decode cX11_reset 67 = .ok (.iconst 0, 1) := by decide +kernel
theorem dX11_reset_68 : decode cX11_reset 68 = .ok (.iastore, 1) := by decide +kernel
theorem dX11_reset_69 : decode cX11_reset 69 = .ok (.iinc 2 1, 3) := by decide +kernel
theorem dX11_reset_72 : decode cX11_reset 72 = .ok (.goto (-23), 3) := by decide +kernel
theorem dX11_reset_75 : decode cX11_reset 75 = .ok (.bipush 6, 2) := by decide +kernel
theorem dX11_reset_77 : decode cX11_reset 77 = .ok (.iload_n 1, 1) := by decide +kernel
theorem dX11_reset_78 : decode cX11_reset 78 = .ok (.imul, 1) := by decide +kernel
theorem dX11_reset_79 : decode cX11_reset 79 = .ok (.istore_n 2, 1) := by decide +kernel
theorem dX11_reset_80 : decode cX11_reset 80 = .ok (.iload_n 2, 1) := by decide +kernel
theorem dX11_reset_81 : decode cX11_reset 81 = .ok (.bipush 6, 2) := by decide +kernel
theorem dX11_reset_83 : decode cX11_reset 83 = .ok (.iload_n 1, 1) := by decide +kernel
theorem dX11_reset_84 : decode cX11_reset 84 = .ok (.imul, 1) := by decide +kernel
theorem dX11_reset_85 : decode cX11_reset 85 = .ok (.bipush 6, 2) := by decide +kernel
theorem dX11_reset_87 : decode cX11_reset 87 = .ok (.iadd, 1) := by decide +kernel
theorem dX11_reset_88 : decode cX11_reset 88 = .ok (.if_icmp .ge 58, 3) := by decide +kernel
theorem dX11_reset_91 : decode cX11_reset 91 = .ok (.aload_n 0, 1) := by decide +kernel
theorem dX11_reset_92 : decode cX11_reset 92 = .ok (.getfield 62, 3) := by decide +kernel
theorem dX11_reset_95 : decode cX11_reset 95 = .ok (.iload_n 2, 1) := by decide +kernel
theorem dX11_reset_96 : decode cX11_reset 96 = .ok (.iconst 0, 1) := by decide +kernel
theorem dX11_reset_97 : decode cX11_reset 97 = .ok (.iastore, 1) := by decide +kernel
theorem dX11_reset_98 : decode cX11_reset 98 = .ok (.aload_n 0, 1) := by decide +kernel
theorem dX11_reset_99 : decode cX11_reset 99 = .ok (.getfield 65, 3) := by decide +kernel
theorem dX11_reset_102 : decode cX11_reset 102 = .ok (.iload_n 2, 1) := by decide +kernel
theorem dX11_reset_103 : decode cX11_reset 103 = .ok (.iconst 0, 1) := by decide +kernel
theorem dX11_reset_104 : decode cX11_reset 104 = .ok (.iastore, 1) := by decide +kernel
theorem dX11_reset_105 : decode cX11_reset 105 = .ok (.aload_n 0, 1) := by decide +kernel
theorem dX11_reset_106 : decode cX11_reset 106 = .ok (.getfield 71, 3) := by decide +kernel
theorem dX11_reset_109 : decode cX11_reset 109 = .ok (.iload_n 2, 1) := by decide +kernel
theorem dX11_reset_110 : decode cX11_reset 110 = .ok (.iconst 0, 1) := by decide +kernel
theorem dX11_reset_111 : decode cX11_reset 111 = .ok (.iastore, 1) := by decide +kernel
theorem dX11_reset_112 : decode cX11_reset 112 = .ok (.aload_n 0, 1) := by decide +kernel
theorem dX11_reset_113 : decode cX11_reset 113 = .ok (.getfield 77, 3) := by decide +kernel
theorem dX11_reset_116 : decode cX11_reset 116 = .ok (.iload_n 2, 1) := by decide +kernel
theorem dX11_reset_117 : decode cX11_reset 117 = .ok (.iconst 0, 1) := by decide +kernel
theorem dX11_reset_118 : decode cX11_reset 118 = .ok (.iastore, 1) := by decide +kernel
theorem dX11_reset_119 : decode cX11_reset 119 = .ok (.aload_n 0, 1) := by decide +kernel
theorem dX11_reset_120 : decode cX11_reset 120 = .ok (.getfield 80, 3) := by decide +kernel
theorem dX11_reset_123 : decode cX11_reset 123 = .ok (.iload_n 2, 1) := by decide +kernel
theorem dX11_reset_124 : decode cX11_reset 124 = .ok (.iconst 0, 1) := by decide +kernel
theorem dX11_reset_125 : decode cX11_reset 125 = .ok (.iastore, 1) := by decide +kernel
theorem dX11_reset_126 : decode cX11_reset 126 = .ok (.aload_n 0, 1) := by decide +kernel
theorem dX11_reset_127 : decode cX11_reset 127 = .ok (.getfield 83, 3) := by decide +kernel
theorem dX11_reset_130 : decode cX11_reset 130 = .ok (.iload_n 2, 1) := by decide +kernel
theorem dX11_reset_131 : decode cX11_reset 131 = .ok (.iconst 0, 1) := by decide +kernel
theorem dX11_reset_132 : decode cX11_reset 132 = .ok (.iastore, 1) := by decide +kernel
theorem dX11_reset_133 : decode cX11_reset 133 = .ok (.aload_n 0, 1) := by decide +kernel
theorem dX11_reset_134 : decode cX11_reset 134 = .ok (.getfield 86, 3) := by decide +kernel
theorem dX11_reset_137 : decode cX11_reset 137 = .ok (.iload_n 2, 1) := by decide +kernel
theorem dX11_reset_138 : decode cX11_reset 138 = .ok (.iconst 0, 1) := by decide +kernel
theorem dX11_reset_139 : decode cX11_reset 139 = .ok (.iastore, 1) := by decide +kernel
theorem dX11_reset_140 : decode cX11_reset 140 = .ok (.iinc 2 1, 3) := by decide +kernel
theorem dX11_reset_143 : decode cX11_reset 143 = .ok (.goto (-63), 3) := by decide +kernel
theorem dX11_reset_146 : decode cX11_reset 146 = .ok (.bipush 12, 2) := by decide +kernel
theorem dX11_reset_148 : decode cX11_reset 148 = .ok (.iload_n 1, 1) := by decide +kernel
theorem dX11_reset_149 : decode cX11_reset 149 = .ok (.imul, 1) := by decide +kernel
theorem dX11_reset_150 : decode cX11_reset 150 = .ok (.istore_n 2, 1) := by decide +kernel
theorem dX11_reset_151 : decode cX11_reset 151 = .ok (.iload_n 2, 1) := by decide +kernel
theorem dX11_reset_152 : decode cX11_reset 152 = .ok (.bipush 12, 2) := by decide +kernel
theorem dX11_reset_154 : decode cX11_reset 154 = .ok (.iload_n 1, 1) := by decide +kernel
theorem dX11_reset_155 : decode cX11_reset 155 = .ok (.imul, 1) := by decide +kernel
theorem dX11_reset_156 : decode cX11_reset 156 = .ok (.bipush 12, 2) := by decide +kernel
theorem dX11_reset_158 : decode cX11_reset 158 = .ok (.iadd, 1) := by decide +kernel
theorem dX11_reset_159 : decode cX11_reset 159 = .ok (.if_icmp .ge 51, 3) := by decide +kernel
theorem dX11_reset_162 : decode cX11_reset 162 = .ok (.aload_n 0, 1) := by decide +kernel
theorem dX11_reset_163 : decode cX11_reset 163 = .ok (.getfield 95, 3) := by decide +kernel
theorem dX11_reset_166 : decode cX11_reset 166 = .ok (.iload_n 2, 1) := by decide +kernel
theorem dX11_reset_167 : decode cX11_reset 167 = .ok (.iconst 0, 1) := by decide +kernel
theorem dX11_reset_168 : decode cX11_reset 168 = .ok (.iastore, 1) := by decide +kernel
theorem dX11_reset_169 : decode cX11_reset 169 = .ok (.aload_n 0, 1) := by decide +kernel
theorem dX11_reset_170 : decode cX11_reset 170 = .ok (.getfield 104, 3) := by decide +kernel
theorem dX11_reset_173 : decode cX11_reset 173 = .ok (.iload_n 2, 1) := by decide +kernel
theorem dX11_reset_174 : decode cX11_reset 174 = .ok (.iconst 0, 1) := by decide +kernel
theorem dX11_reset_175 : decode cX11_reset 175 = .ok (.iastore, 1) := by decide +kernel
theorem dX11_reset_176 : decode cX11_reset 176 = .ok (.aload_n 0, 1) := by decide +kernel
theorem dX11_reset_177 : decode cX11_reset 177 = .ok (.getfield 107, 3) := by decide +kernel
theorem dX11_reset_180 : decode cX11_reset 180 = .ok (.iload_n 2, 1) := by decide +kernel
theorem dX11_reset_181 : decode cX11_reset 181 = .ok (.iconst 0, 1) := by decide +kernel
theorem dX11_reset_182 : decode cX11_reset 182 = .ok (.iastore, 1) := by decide +kernel
theorem dX11_reset_183 : decode cX11_reset 183 = .ok (.aload_n 0, 1) := by decide +kernel
theorem dX11_reset_184 : decode cX11_reset 184 = .ok (.getfield 110, 3) := by decide +kernel
theorem dX11_reset_187 : decode cX11_reset 187 = .ok (.iload_n 2, 1) := by decide +kernel
theorem dX11_reset_188 : decode cX11_reset 188 = .ok (.iconst 0, 1) := by decide +kernel
theorem dX11_reset_189 : decode cX11_reset 189 = .ok (.iastore, 1) := by decide +kernel
theorem dX11_reset_190 : decode cX11_reset 190 = .ok (.aload_n 0, 1) := by decide +kernel
theorem dX11_reset_191 : decode cX11_reset 191 = .ok (.getfield 116, 3) := by decide +kernel
theorem dX11_reset_194 : decode cX11_reset 194 = .ok (.iload_n 2, 1) := by decide +kernel
theorem dX11_reset_195 : decode cX11_reset 195 = .ok (.iconst 0, 1) := by decide +kernel
theorem dX11_reset_196 : decode cX11_reset 196 = .ok (.iastore, 1) := by decide +kernel
theorem dX11_reset_197 : decode cX11_reset 197 = .ok (.aload_n 0, 1) := by decide +kernel
theorem dX11_reset_198 : decode cX11_reset 198 = .ok (.getfield 119, 3) := by decide +kernel
theorem dX11_reset_201 : decode cX11_reset 201 = .ok (.iload_n 2, 1) := by decide +kernel
theorem dX11_reset_202 : decode cX11_reset 202 = .ok (.iconst 0, 1) := by decide +kernel
theorem dX11_reset_203 : decode cX11_reset 203 = .ok (.iastore, 1) := by decide +kernel
theorem dX11_reset_204 : decode cX11_reset 204 = .ok (.iinc 2 1, 3) := by decide +kernel
theorem dX11_reset_207 : decode cX11_reset 207 = .ok (.goto (-56), 3) := by decide +kernel
theorem dX11_reset_210 : decode cX11_reset 210 = .ok (.aload_n 0, 1) := by decide +kernel
theorem dX11_reset_211 : decode cX11_reset 211 = .ok (.getfield 132, 3) := by decide +kernel
theorem dX11_reset_214 : decode cX11_reset 214 = .ok (.iload_n 1, 1) := by decide +kernel
theorem dX11_reset_215 : decode cX11_reset 215 = .ok (.iconst 0, 1) := by decide +kernel
theorem dX11_reset_216 : decode cX11_reset 216 = .ok (.iastore, 1) := by decide +kernel
theorem dX11_reset_217 : decode cX11_reset 217 = .ok (.aload_n 0, 1) := by decide +kernel
theorem dX11_reset_218 : decode cX11_reset 218 = .ok (.getfield 135, 3) := by decide +kernel
theorem dX11_reset_221 : decode cX11_reset 221 = .ok (.iload_n 1, 1) := by decide +kernel
theorem dX11_reset_222 : decode cX11_reset 222 = .ok (.iconst 0, 1) := by decide +kernel
theorem dX11_reset_223 : decode cX11_reset 223 = .ok (.iastore, 1) := by decide +kernel
theorem dX11_reset_224 : decode cX11_reset 224 = .ok (.aload_n 0, 1) := by decide +kernel
theorem dX11_reset_225 : decode cX11_reset 225 = .ok (.getfield 138, 3) := by decide +kernel
theorem dX11_reset_228 : decode cX11_reset 228 = .ok (.iload_n 1, 1) := by decide +kernel
theorem dX11_reset_229 : decode cX11_reset 229 = .ok (.iconst 0, 1) := by decide +kernel
theorem dX11_reset_230 : decode cX11_reset 230 = .ok (.iastore, 1) := by decide +kernel
theorem dX11_reset_231 : decode cX11_reset 231 = .ok (.aload_n 0, 1) := by decide +kernel
theorem dX11_reset_232 : decode cX11_reset 232 = .ok (.getfield 141, 3) := by decide +kernel
theorem dX11_reset_235 : decode cX11_reset 235 = .ok (.iload_n 1, 1) := by decide +kernel
theorem dX11_reset_236 : decode cX11_reset 236 = .ok (.iconst 0, 1) := by decide +kernel
theorem dX11_reset_237 : decode cX11_reset 237 = .ok (.iastore, 1) := by decide +kernel
theorem dX11_reset_238 : decode cX11_reset 238 = .ok (.aload_n 0, 1) := by decide +kernel
theorem dX11_reset_239 : decode cX11_reset 239 = .ok (.getfield 144, 3) := by decide +kernel
theorem dX11_reset_242 : decode cX11_reset 242 = .ok (.iload_n 1, 1) := by decide +kernel
theorem dX11_reset_243 : decode cX11_reset 243 = .ok (.aload_n 0, 1) := by decide +kernel
theorem dX11_reset_244 : decode cX11_reset 244 = .ok (.getfield 38, 3) := by decide +kernel
theorem dX11_reset_247 : decode cX11_reset 247 = .ok (.iconst 0, 1) := by decide +kernel
theorem dX11_reset_248 : decode cX11_reset 248 = .ok (.iaload, 1) := by decide +kernel
theorem dX11_reset_249 : decode cX11_reset 249 = .ok (.iastore, 1) := by decide +kernel
theorem dX11_reset_250 : decode cX11_reset 250 = .ok (.aload_n 0, 1) := by decide +kernel
theorem dX11_reset_251 : decode cX11_reset 251 = .ok (.getfield 147, 3) := by decide +kernel
theorem dX11_reset_254 : decode cX11_reset 254 = .ok (.iload_n 1, 1) := by decide +kernel
theorem dX11_reset_255 : decode cX11_reset 255 = .ok (.iconst 0, 1) := by decide +kernel
theorem dX11_reset_256 : decode cX11_reset 256 = .ok (.iastore, 1) := by decide +kernel
theorem dX11_reset_257 : decode cX11_reset 257 = .ok (.aload_n 0, 1) := by decide +kernel
theorem dX11_reset_258 : decode cX11_reset 258 = .ok (.getfield 150, 3) := by decide +kernel
theorem dX11_reset_261 : decode cX11_reset 261 = .ok (.iload_n 1, 1) := by decide +kernel
theorem dX11_reset_262 : decode cX11_reset 262 = .ok (.iconst 1, 1) := by decide +kernel
theorem dX11_reset_263 : decode cX11_reset 263 = .ok (.bastore, 1) := by decide +kernel
theorem dX11_reset_264 : decode cX11_reset 264 = .ok (.aload_n 0, 1) := by decide +kernel
theorem dX11_reset_265 : decode cX11_reset 265 = .ok (.getfield 153, 3) := by decide +kernel
theorem dX11_reset_268 : decode cX11_reset 268 = .ok (.iload_n 1, 1) := by decide +kernel
theorem dX11_reset_269 : decode cX11_reset 269 = .ok (.iconst 0, 1) := by decide +kernel
theorem dX11_reset_270 : decode cX11_reset 270 = .ok (.bastore, 1) := by decide +kernel
theorem dX11_reset_271 : decode cX11_reset 271 = .ok (.return_, 1) := by decide +kernel
theorem dX11_slotDomain_0 : decode cX11_slotDomain 0 = .ok (.aload_n 0, 1) := by decide +kernel
theorem dX11_slotDomain_1 : decode cX11_slotDomain 1 = .ok (.getfield 35, 3) := by decide +kernel
theorem dX11_slotDomain_4 : decode cX11_slotDomain 4 = .ok (.bipush 12, 2) := by decide +kernel
theorem dX11_slotDomain_6 : decode cX11_slotDomain 6 = .ok (.aload_n 0, 1) := by decide +kernel
theorem dX11_slotDomain_7 : decode cX11_slotDomain 7 = .ok (.getfield 138, 3) := by decide +kernel
theorem dX11_slotDomain_10 : decode cX11_slotDomain 10 = .ok (.iload_n 1, 1) := by decide +kernel
theorem dX11_slotDomain_11 : decode cX11_slotDomain 11 = .ok (.iaload, 1) := by decide +kernel
theorem dX11_slotDomain_12 : decode cX11_slotDomain 12 = .ok (.imul, 1) := by decide +kernel
theorem dX11_slotDomain_13 : decode cX11_slotDomain 13 = .ok (.aload_n 0, 1) := by decide +kernel
theorem dX11_slotDomain_14 : decode cX11_slotDomain 14 = .ok (.getfield 141, 3) := by decide +kernel
theorem dX11_slotDomain_17 : decode cX11_slotDomain 17 = .ok (.iload_n 1, 1) := by decide +kernel
theorem dX11_slotDomain_18 : decode cX11_slotDomain 18 = .ok (.iaload, 1) := by decide +kernel
theorem dX11_slotDomain_19 : decode cX11_slotDomain 19 = .ok (.iadd, 1) := by decide +kernel
theorem dX11_slotDomain_20 : decode cX11_slotDomain 20 = .ok (.iaload, 1) := by decide +kernel
theorem dX11_slotDomain_21 : decode cX11_slotDomain 21 = .ok (.ireturn, 1) := by decide +kernel
theorem dX11_isReady_0 : decode cX11_isReady 0 = .ok (.aload_n 0, 1) := by decide +kernel
theorem dX11_isReady_1 : decode cX11_isReady 1 = .ok (.getfield 65, 3) := by decide +kernel
theorem dX11_isReady_4 : decode cX11_isReady 4 = .ok (.bipush 6, 2) := by decide +kernel
theorem dX11_isReady_6 : decode cX11_isReady 6 = .ok (.iload_n 1, 1) := by decide +kernel
theorem dX11_isReady_7 : decode cX11_isReady 7 = .ok (.imul, 1) := by decide +kernel
theorem dX11_isReady_8 : decode cX11_isReady 8 = .ok (.aload_n 0, 1) := by decide +kernel
theorem dX11_isReady_9 : decode cX11_isReady 9 = .ok (.iload_n 1, 1) := by decide +kernel
theorem dX11_isReady_10 : decode cX11_isReady 10 = .ok (.invokevirtual 191, 3) := by decide +kernel
theorem dX11_isReady_13 : decode cX11_isReady 13 = .ok (.iadd, 1) := by decide +kernel
theorem dX11_isReady_14 : decode cX11_isReady 14 = .ok (.iaload, 1) := by decide +kernel
theorem dX11_isReady_15 : decode cX11_isReady 15 = .ok (.ifCond .ne 25, 3) := by decide +kernel
theorem dX11_isReady_18 : decode cX11_isReady 18 = .ok (.aload_n 0, 1) := by decide +kernel
theorem dX11_isReady_19 : decode cX11_isReady 19 = .ok (.getfield 150, 3) := by decide +kernel
theorem dX11_isReady_22 : decode cX11_isReady 22 = .ok (.iload_n 1, 1) := by decide +kernel
theorem dX11_isReady_23 : decode cX11_isReady 23 = .ok (.baload, 1) := by decide +kernel
theorem dX11_isReady_24 : decode cX11_isReady 24 = .ok (.ifCond .ne 12, 3) := by decide +kernel
theorem dX11_isReady_27 : decode cX11_isReady 27 = .ok (.aload_n 0, 1) := by decide +kernel
theorem dX11_isReady_28 : decode cX11_isReady 28 = .ok (.getfield 153, 3) := by decide +kernel
theorem dX11_isReady_31 : decode cX11_isReady 31 = .ok (.iload_n 1, 1) := by decide +kernel
theorem dX11_isReady_32 : decode cX11_isReady 32 = .ok (.baload, 1) := by decide +kernel
theorem dX11_isReady_33 : decode cX11_isReady 33 = .ok (.ifCond .ne 7, 3) := by decide +kernel
theorem dX11_isReady_36 : decode cX11_isReady 36 = .ok (.iconst 1, 1) := by decide +kernel
theorem dX11_isReady_37 : decode cX11_isReady 37 = .ok (.goto 4, 3) := by decide +kernel
theorem dX11_isReady_40 : decode cX11_isReady 40 = .ok (.iconst 0, 1) := by decide +kernel
theorem dX11_isReady_41 : decode cX11_isReady 41 = .ok (.ireturn, 1) := by decide +kernel
theorem dX11_beginSlot_0 : decode cX11_beginSlot 0 = .ok (.iconst 0, 1) := by decide +kernel
theorem dX11_beginSlot_1 : decode cX11_beginSlot 1 = .ok (.istore_n 3, 1) := by decide +kernel
theorem dX11_beginSlot_2 : decode cX11_beginSlot 2 = .ok (.iload_n 3, 1) := by decide +kernel
theorem dX11_beginSlot_3 : decode cX11_beginSlot 3 = .ok (.aload_n 0, 1) := by decide +kernel
theorem dX11_beginSlot_4 : decode cX11_beginSlot 4 = .ok (.getfield 184, 3) := by decide +kernel
theorem dX11_beginSlot_7 : decode cX11_beginSlot 7 = .ok (.if_icmp .ge 121, 3) := by decide +kernel
theorem dX11_beginSlot_10 : decode cX11_beginSlot 10 = .ok (.bipush 12, 2) := by decide +kernel
theorem dX11_beginSlot_12 : decode cX11_beginSlot 12 = .ok (.iload_n 1, 1) := by decide +kernel
theorem dX11_beginSlot_13 : decode cX11_beginSlot 13 = .ok (.imul, 1) := by decide +kernel
theorem dX11_beginSlot_14 : decode cX11_beginSlot 14 = .ok (.iload_n 3, 1) := by decide +kernel
theorem dX11_beginSlot_15 : decode cX11_beginSlot 15 = .ok (.iadd, 1) := by decide +kernel
theorem dX11_beginSlot_16 : decode cX11_beginSlot 16 = .ok (.istore 4, 2) := by decide +kernel
theorem dX11_beginSlot_18 : decode cX11_beginSlot 18 = .ok (.aload_n 0, 1) := by decide +kernel
theorem dX11_beginSlot_19 : decode cX11_beginSlot 19 = .ok (.getfield 20, 3) := by decide +kernel
theorem dX11_beginSlot_22 : decode cX11_beginSlot 22 = .ok (.iload_n 3, 1) := by decide +kernel
theorem dX11_beginSlot_23 : decode cX11_beginSlot 23 = .ok (.baload, 1) := by decide +kernel
theorem dX11_beginSlot_24 : decode cX11_beginSlot 24 = .ok (.ifCond .ne 80, 3) := by decide +kernel
theorem dX11_beginSlot_27 : decode cX11_beginSlot 27 = .ok (.aload_n 0, 1) := by decide +kernel
theorem dX11_beginSlot_28 : decode cX11_beginSlot 28 = .ok (.getfield 17, 3) := by decide +kernel
theorem dX11_beginSlot_31 : decode cX11_beginSlot 31 = .ok (.iload_n 3, 1) := by decide +kernel
theorem dX11_beginSlot_32 : decode cX11_beginSlot 32 = .ok (.iaload, 1) := by decide +kernel
theorem dX11_beginSlot_33 : decode cX11_beginSlot 33 = .ok (.iload_n 2, 1) := by decide +kernel
theorem dX11_beginSlot_34 : decode cX11_beginSlot 34 = .ok (.if_icmp .ne 70, 3) := by decide +kernel
theorem dX11_beginSlot_37 : decode cX11_beginSlot 37 = .ok (.aload_n 0, 1) := by decide +kernel
theorem dX11_beginSlot_38 : decode cX11_beginSlot 38 = .ok (.getfield 107, 3) := by decide +kernel
theorem dX11_beginSlot_41 : decode cX11_beginSlot 41 = .ok (.iload 4, 2) := by decide +kernel
theorem dX11_beginSlot_43 : decode cX11_beginSlot 43 = .ok (.dup2, 1) := by decide +kernel
theorem dX11_beginSlot_44 : decode cX11_beginSlot 44 = .ok (.iaload, 1) := by decide +kernel
theorem dX11_beginSlot_45 : decode cX11_beginSlot 45 = .ok (.aload_n 0, 1) := by decide +kernel
theorem dX11_beginSlot_46 : decode cX11_beginSlot 46 = .ok (.getfield 95, 3) := by decide +kernel
theorem dX11_beginSlot_49 : decode cX11_beginSlot 49 = .ok (.iload 4, 2) := by decide +kernel
theorem dX11_beginSlot_51 : decode cX11_beginSlot 51 = .ok (.iaload, 1) := by decide +kernel
theorem dX11_beginSlot_52 : decode cX11_beginSlot 52 = .ok (.iadd, 1) := by decide +kernel
theorem dX11_beginSlot_53 : decode cX11_beginSlot 53 = .ok (.iastore, 1) := by decide +kernel
theorem dX11_beginSlot_54 : decode cX11_beginSlot 54 = .ok (.aload_n 0, 1) := by decide +kernel
theorem dX11_beginSlot_55 : decode cX11_beginSlot 55 = .ok (.getfield 95, 3) := by decide +kernel
theorem dX11_beginSlot_58 : decode cX11_beginSlot 58 = .ok (.iload 4, 2) := by decide +kernel
theorem dX11_beginSlot_60 : decode cX11_beginSlot 60 = .ok (.aload_n 0, 1) := by decide +kernel
theorem dX11_beginSlot_61 : decode cX11_beginSlot 61 = .ok (.getfield 104, 3) := by decide +kernel
theorem dX11_beginSlot_64 : decode cX11_beginSlot 64 = .ok (.iload 4, 2) := by decide +kernel
theorem dX11_beginSlot_66 : decode cX11_beginSlot 66 = .ok (.iaload, 1) := by decide +kernel
theorem dX11_beginSlot_67 : decode cX11_beginSlot 67 = .ok (.iastore, 1) := by decide +kernel
theorem dX11_beginSlot_68 : decode cX11_beginSlot 68 = .ok (.aload_n 0, 1) := by decide +kernel
theorem dX11_beginSlot_69 : decode cX11_beginSlot 69 = .ok (.getfield 89, 3) := by decide +kernel
theorem dX11_beginSlot_72 : decode cX11_beginSlot 72 = .ok (.iload 4, 2) := by decide +kernel
theorem dX11_beginSlot_74 : decode cX11_beginSlot 74 = .ok (.aload_n 0, 1) := by decide +kernel
theorem dX11_beginSlot_75 : decode cX11_beginSlot 75 = .ok (.getfield 98, 3) := by decide +kernel
theorem dX11_beginSlot_78 : decode cX11_beginSlot 78 = .ok (.iload 4, 2) := by decide +kernel
theorem dX11_beginSlot_80 : decode cX11_beginSlot 80 = .ok (.iaload, 1) := by decide +kernel
theorem dX11_beginSlot_81 : decode cX11_beginSlot 81 = .ok (.iastore, 1) := by decide +kernel
theorem dX11_beginSlot_82 : decode cX11_beginSlot 82 = .ok (.aload_n 0, 1) := by decide +kernel
theorem dX11_beginSlot_83 : decode cX11_beginSlot 83 = .ok (.getfield 92, 3) := by decide +kernel
theorem dX11_beginSlot_86 : decode cX11_beginSlot 86 = .ok (.iload 4, 2) := by decide +kernel
theorem dX11_beginSlot_88 : decode cX11_beginSlot 88 = .ok (.aload_n 0, 1) := by decide +kernel
theorem dX11_beginSlot_89 : decode cX11_beginSlot 89 = .ok (.getfield 101, 3) := by decide +kernel
theorem dX11_beginSlot_92 : decode cX11_beginSlot 92 = .ok (.iload 4, 2) := by decide +kernel
theorem dX11_beginSlot_94 : decode cX11_beginSlot 94 = .ok (.iaload, 1) := by decide +kernel
theorem dX11_beginSlot_95 : decode cX11_beginSlot 95 = .ok (.iastore, 1) := by decide +kernel
theorem dX11_beginSlot_96 : decode cX11_beginSlot 96 = .ok (.aload_n 0, 1) := by decide +kernel
theorem dX11_beginSlot_97 : decode cX11_beginSlot 97 = .ok (.getfield 104, 3) := by decide +kernel
theorem dX11_beginSlot_100 : decode cX11_beginSlot 100 = .ok (.iload 4, 2) := by decide +kernel
theorem dX11_beginSlot_102 : decode cX11_beginSlot 102 = .ok (.iconst 0, 1) := by decide +kernel
theorem dX11_beginSlot_103 : decode cX11_beginSlot 103 = .ok (.iastore, 1) := by decide +kernel
theorem dX11_beginSlot_104 : decode cX11_beginSlot 104 = .ok (.aload_n 0, 1) := by decide +kernel
theorem dX11_beginSlot_105 : decode cX11_beginSlot 105 = .ok (.getfield 13, 3) := by decide +kernel
theorem dX11_beginSlot_108 : decode cX11_beginSlot 108 = .ok (.iload_n 3, 1) := by decide +kernel
theorem dX11_beginSlot_109 : decode cX11_beginSlot 109 = .ok (.iaload, 1) := by decide +kernel
theorem dX11_beginSlot_110 : decode cX11_beginSlot 110 = .ok (.iload_n 2, 1) := by decide +kernel
theorem dX11_beginSlot_111 : decode cX11_beginSlot 111 = .ok (.if_icmp .ne 11, 3) := by decide +kernel
theorem dX11_beginSlot_114 : decode cX11_beginSlot 114 = .ok (.aload_n 0, 1) := by decide +kernel
theorem dX11_beginSlot_115 : decode cX11_beginSlot 115 = .ok (.getfield 110, 3) := by decide +kernel
theorem dX11_beginSlot_118 : decode cX11_beginSlot 118 = .ok (.iload 4, 2) := by decide +kernel
theorem dX11_beginSlot_120 : decode cX11_beginSlot 120 = .ok (.iconst 0, 1) := by decide +kernel
theorem dX11_beginSlot_121 : decode cX11_beginSlot 121 = .ok (.iastore, 1) := by decide +kernel
theorem dX11_beginSlot_122 : decode cX11_beginSlot 122 = .ok (.iinc 3 1, 3) := by decide +kernel
theorem dX11_beginSlot_125 : decode cX11_beginSlot 125 = .ok (.goto (-123), 3) := by decide +kernel
theorem dX11_beginSlot_128 : decode cX11_beginSlot 128 = .ok (.aload_n 0, 1) := by decide +kernel
theorem dX11_beginSlot_129 : decode cX11_beginSlot 129 = .ok (.getfield 153, 3) := by decide +kernel
theorem dX11_beginSlot_132 : decode cX11_beginSlot 132 = .ok (.iload_n 1, 1) := by decide +kernel
theorem dX11_beginSlot_133 : decode cX11_beginSlot 133 = .ok (.iconst 0, 1) := by decide +kernel
theorem dX11_beginSlot_134 : decode cX11_beginSlot 134 = .ok (.bastore, 1) := by decide +kernel
theorem dX11_beginSlot_135 : decode cX11_beginSlot 135 = .ok (.aload_n 0, 1) := by decide +kernel
theorem dX11_beginSlot_136 : decode cX11_beginSlot 136 = .ok (.getfield 150, 3) := by decide +kernel
theorem dX11_beginSlot_139 : decode cX11_beginSlot 139 = .ok (.iload_n 1, 1) := by decide +kernel
theorem dX11_beginSlot_140 : decode cX11_beginSlot 140 = .ok (.iconst 0, 1) := by decide +kernel
theorem dX11_beginSlot_141 : decode cX11_beginSlot 141 = .ok (.bastore, 1) := by decide +kernel
theorem dX11_beginSlot_142 : decode cX11_beginSlot 142 = .ok (.return_, 1) := by decide +kernel
theorem dX11_pass_0 : decode cX11_pass 0 = .ok (.aload_n 0, 1) := by decide +kernel
theorem dX11_pass_1 : decode cX11_pass 1 = .ok (.iload_n 1, 1) := by decide +kernel
theorem dX11_pass_2 : decode cX11_pass 2 = .ok (.invokevirtual 191, 3) := by decide +kernel
theorem dX11_pass_5 : decode cX11_pass 5 = .ok (.istore_n 3, 1) := by decide +kernel
theorem dX11_pass_6 : decode cX11_pass 6 = .ok (.aload_n 0, 1) := by decide +kernel
theorem dX11_pass_7 : decode cX11_pass 7 = .ok (.getfield 150, 3) := by decide +kernel
theorem dX11_pass_10 : decode cX11_pass 10 = .ok (.iload_n 1, 1) := by decide +kernel
theorem dX11_pass_11 : decode cX11_pass 11 = .ok (.baload, 1) := by decide +kernel
theorem dX11_pass_12 : decode cX11_pass 12 = .ok (.ifCond .eq 9, 3) := by decide +kernel
theorem dX11_pass_15 : decode cX11_pass 15 = .ok (.aload_n 0, 1) := by decide +kernel
theorem dX11_pass_16 : decode cX11_pass 16 = .ok (.iload_n 1, 1) := by decide +kernel
theorem dX11_pass_17 : decode cX11_pass 17 = .ok (.iload_n 3, 1) := by decide +kernel
theorem dX11_pass_18 : decode cX11_pass 18 = .ok (.invokevirtual 195, 3) := by decide +kernel
theorem dX11_pass_21 : decode cX11_pass 21 = .ok (.aload_n 0, 1) := by decide +kernel
theorem dX11_pass_22 : decode cX11_pass 22 = .ok (.getfield 86, 3) := by decide +kernel
theorem dX11_pass_25 : decode cX11_pass 25 = .ok (.bipush 6, 2) := by decide +kernel
theorem dX11_pass_27 : decode cX11_pass 27 = .ok (.iload_n 1, 1) := by decide +kernel
theorem dX11_pass_28 : decode cX11_pass 28 = .ok (.imul, 1) := by decide +kernel
theorem dX11_pass_29 : decode cX11_pass 29 = .ok (.iload_n 3, 1) := by decide +kernel
theorem dX11_pass_30 : decode cX11_pass 30 = .ok (.iadd, 1) := by decide +kernel
theorem dX11_pass_31 : decode cX11_pass 31 = .ok (.dup2, 1) := by decide +kernel
theorem dX11_pass_32 : decode cX11_pass 32 = .ok (.iaload, 1) := by decide +kernel
theorem dX11_pass_33 : decode cX11_pass 33 = .ok (.iconst 1, 1) := by decide +kernel
theorem dX11_pass_34 : decode cX11_pass 34 = .ok (.iadd, 1) := by decide +kernel
theorem dX11_pass_35 : decode cX11_pass 35 = .ok (.iastore, 1) := by decide +kernel
theorem dX11_pass_36 : decode cX11_pass 36 = .ok (.iload_n 2, 1) := by decide +kernel
theorem dX11_pass_37 : decode cX11_pass 37 = .ok (.ifCond .eq 9, 3) := by decide +kernel
theorem dX11_pass_40 : decode cX11_pass 40 = .ok (.aload_n 0, 1) := by decide +kernel
theorem dX11_pass_41 : decode cX11_pass 41 = .ok (.iload_n 1, 1) := by decide +kernel
theorem dX11_pass_42 : decode cX11_pass 42 = .ok (.iload_n 3, 1) := by decide +kernel
theorem dX11_pass_43 : decode cX11_pass 43 = .ok (.invokevirtual 199, 3) := by decide +kernel
theorem dX11_pass_46 : decode cX11_pass 46 = .ok (.aload_n 0, 1) := by decide +kernel
theorem dX11_pass_47 : decode cX11_pass 47 = .ok (.getfield 135, 3) := by decide +kernel
theorem dX11_pass_50 : decode cX11_pass 50 = .ok (.iload_n 1, 1) := by decide +kernel
theorem dX11_pass_51 : decode cX11_pass 51 = .ok (.dup2, 1) := by decide +kernel
theorem dX11_pass_52 : decode cX11_pass 52 = .ok (.iaload, 1) := by decide +kernel
theorem dX11_pass_53 : decode cX11_pass 53 = .ok (.iconst 1, 1) := by decide +kernel
theorem dX11_pass_54 : decode cX11_pass 54 = .ok (.iadd, 1) := by decide +kernel
theorem dX11_pass_55 : decode cX11_pass 55 = .ok (.iastore, 1) := by decide +kernel
theorem dX11_pass_56 : decode cX11_pass 56 = .ok (.aload_n 0, 1) := by decide +kernel
theorem dX11_pass_57 : decode cX11_pass 57 = .ok (.getfield 144, 3) := by decide +kernel
theorem dX11_pass_60 : decode cX11_pass 60 = .ok (.iload_n 1, 1) := by decide +kernel
theorem dX11_pass_61 : decode cX11_pass 61 = .ok (.dup2, 1) := by decide +kernel
theorem dX11_pass_62 : decode cX11_pass 62 = .ok (.iaload, 1) := by decide +kernel
theorem dX11_pass_63 : decode cX11_pass 63 = .ok (.iconst 1, 1) := by decide +kernel
theorem dX11_pass_64 : decode cX11_pass 64 = .ok (.isub, 1) := by decide +kernel
theorem dX11_pass_65 : decode cX11_pass 65 = .ok (.iastore, 1) := by decide +kernel
theorem dX11_pass_66 : decode cX11_pass 66 = .ok (.aload_n 0, 1) := by decide +kernel
theorem dX11_pass_67 : decode cX11_pass 67 = .ok (.getfield 144, 3) := by decide +kernel
theorem dX11_pass_70 : decode cX11_pass 70 = .ok (.iload_n 1, 1) := by decide +kernel
theorem dX11_pass_71 : decode cX11_pass 71 = .ok (.iaload, 1) := by decide +kernel
theorem dX11_pass_72 : decode cX11_pass 72 = .ok (.ifCond .ne 104, 3) := by decide +kernel
theorem dX11_pass_75 : decode cX11_pass 75 = .ok (.aload_n 0, 1) := by decide +kernel
theorem dX11_pass_76 : decode cX11_pass 76 = .ok (.getfield 141, 3) := by decide +kernel
theorem dX11_pass_79 : decode cX11_pass 79 = .ok (.iload_n 1, 1) := by decide +kernel
theorem dX11_pass_80 : decode cX11_pass 80 = .ok (.dup2, 1) := by decide +kernel
theorem dX11_pass_81 : decode cX11_pass 81 = .ok (.iaload, 1) := by decide +kernel
theorem dX11_pass_82 : decode cX11_pass 82 = .ok (.iconst 1, 1) := by decide +kernel
theorem dX11_pass_83 : decode cX11_pass 83 = .ok (.iadd, 1) := by decide +kernel
theorem dX11_pass_84 : decode cX11_pass 84 = .ok (.iastore, 1) := by decide +kernel
theorem dX11_pass_85 : decode cX11_pass 85 = .ok (.aload_n 0, 1) := by decide +kernel
theorem dX11_pass_86 : decode cX11_pass 86 = .ok (.getfield 141, 3) := by decide +kernel
theorem dX11_pass_89 : decode cX11_pass 89 = .ok (.iload_n 1, 1) := by decide +kernel
theorem dX11_pass_90 : decode cX11_pass 90 = .ok (.iaload, 1) := by decide +kernel
theorem dX11_pass_91 : decode cX11_pass 91 = .ok (.aload_n 0, 1) := by decide +kernel
theorem dX11_pass_92 : decode cX11_pass 92 = .ok (.getfield 41, 3) := by decide +kernel
theorem dX11_pass_95 : decode cX11_pass 95 = .ok (.aload_n 0, 1) := by decide +kernel
theorem dX11_pass_96 : decode cX11_pass 96 = .ok (.getfield 138, 3) := by decide +kernel
theorem dX11_pass_99 : decode cX11_pass 99 = .ok (.iload_n 1, 1) := by decide +kernel
theorem dX11_pass_100 : decode cX11_pass 100 = .ok (.iaload, 1) := by decide +kernel
theorem dX11_pass_101 : decode cX11_pass 101 = .ok (.iaload, 1) := by decide +kernel
theorem dX11_pass_102 : decode cX11_pass 102 = .ok (.if_icmp .ne 40, 3) := by decide +kernel
theorem dX11_pass_105 : decode cX11_pass 105 = .ok (.aload_n 0, 1) := by decide +kernel
theorem dX11_pass_106 : decode cX11_pass 106 = .ok (.getfield 138, 3) := by decide +kernel
theorem dX11_pass_109 : decode cX11_pass 109 = .ok (.iload_n 1, 1) := by decide +kernel
theorem dX11_pass_110 : decode cX11_pass 110 = .ok (.aload_n 0, 1) := by decide +kernel
theorem dX11_pass_111 : decode cX11_pass 111 = .ok (.getfield 41, 3) := by decide +kernel
theorem dX11_pass_114 : decode cX11_pass 114 = .ok (.aload_n 0, 1) := by decide +kernel
theorem dX11_pass_115 : decode cX11_pass 115 = .ok (.getfield 147, 3) := by decide +kernel
theorem dX11_pass_118 : decode cX11_pass 118 = .ok (.iload_n 1, 1) := by decide +kernel
theorem dX11_pass_119 : decode cX11_pass 119 = .ok (.iaload, 1) := by decide +kernel
theorem dX11_pass_120 : decode cX11_pass 120 = .ok (.iaload, 1) := by decide +kernel
theorem dX11_pass_121 : decode cX11_pass 121 = .ok (.ifCond .ne 7, 3) := by decide +kernel
theorem dX11_pass_124 : decode cX11_pass 124 = .ok (.iconst 0, 1) := by decide +kernel
theorem dX11_pass_125 : decode cX11_pass 125 = .ok (.goto 9, 3) := by decide +kernel
theorem dX11_pass_128 : decode cX11_pass 128 = .ok (.aload_n 0, 1) := by decide +kernel
theorem dX11_pass_129 : decode cX11_pass 129 = .ok (.getfield 147, 3) := by decide +kernel
theorem dX11_pass_132 : decode cX11_pass 132 = .ok (.iload_n 1, 1) := by decide +kernel
theorem dX11_pass_133 : decode cX11_pass 133 = .ok (.iaload, 1) := by decide +kernel
theorem dX11_pass_134 : decode cX11_pass 134 = .ok (.iastore, 1) := by decide +kernel
theorem dX11_pass_135 : decode cX11_pass 135 = .ok (.aload_n 0, 1) := by decide +kernel
theorem dX11_pass_136 : decode cX11_pass 136 = .ok (.getfield 141, 3) := by decide +kernel
theorem dX11_pass_139 : decode cX11_pass 139 = .ok (.iload_n 1, 1) := by decide +kernel
theorem dX11_pass_140 : decode cX11_pass 140 = .ok (.iconst 0, 1) := by decide +kernel
theorem dX11_pass_141 : decode cX11_pass 141 = .ok (.iastore, 1) := by decide +kernel
theorem dX11_pass_142 : decode cX11_pass 142 = .ok (.aload_n 0, 1) := by decide +kernel
theorem dX11_pass_143 : decode cX11_pass 143 = .ok (.getfield 144, 3) := by decide +kernel
theorem dX11_pass_146 : decode cX11_pass 146 = .ok (.iload_n 1, 1) := by decide +kernel
theorem dX11_pass_147 : decode cX11_pass 147 = .ok (.aload_n 0, 1) := by decide +kernel
theorem dX11_pass_148 : decode cX11_pass 148 = .ok (.getfield 38, 3) := by decide +kernel
theorem dX11_pass_151 : decode cX11_pass 151 = .ok (.bipush 12, 2) := by decide +kernel
theorem dX11_pass_153 : decode cX11_pass 153 = .ok (.aload_n 0, 1) := by decide +kernel
theorem dX11_pass_154 : decode cX11_pass 154 = .ok (.getfield 138, 3) := by decide +kernel
theorem dX11_pass_157 : decode cX11_pass 157 = .ok (.iload_n 1, 1) := by decide +kernel
theorem dX11_pass_158 : decode cX11_pass 158 = .ok (.iaload, 1) := by decide +kernel
theorem dX11_pass_159 : decode cX11_pass 159 = .ok (.imul, 1) := by decide +kernel
theorem dX11_pass_160 : decode cX11_pass 160 = .ok (.aload_n 0, 1) := by decide +kernel
theorem dX11_pass_161 : decode cX11_pass 161 = .ok (.getfield 141, 3) := by decide +kernel
theorem dX11_pass_164 : decode cX11_pass 164 = .ok (.iload_n 1, 1) := by decide +kernel
theorem dX11_pass_165 : decode cX11_pass 165 = .ok (.iaload, 1) := by decide +kernel
theorem dX11_pass_166 : decode cX11_pass 166 = .ok (.iadd, 1) := by decide +kernel
theorem dX11_pass_167 : decode cX11_pass 167 = .ok (.iaload, 1) := by decide +kernel
theorem dX11_pass_168 : decode cX11_pass 168 = .ok (.iastore, 1) := by decide +kernel
theorem dX11_pass_169 : decode cX11_pass 169 = .ok (.aload_n 0, 1) := by decide +kernel
theorem dX11_pass_170 : decode cX11_pass 170 = .ok (.getfield 150, 3) := by decide +kernel
theorem dX11_pass_173 : decode cX11_pass 173 = .ok (.iload_n 1, 1) := by decide +kernel
theorem dX11_pass_174 : decode cX11_pass 174 = .ok (.iconst 1, 1) := by decide +kernel
theorem dX11_pass_175 : decode cX11_pass 175 = .ok (.bastore, 1) := by decide +kernel
theorem dX11_pass_176 : decode cX11_pass 176 = .ok (.return_, 1) := by decide +kernel
theorem dX11_instructionAt_0 : decode cX11_instructionAt 0 = .ok (.aload_n 0, 1) := by decide +kernel
theorem dX11_instructionAt_1 : decode cX11_instructionAt 1 = .ok (.getfield 62, 3) := by decide +kernel
theorem dX11_instructionAt_4 : decode cX11_instructionAt 4 = .ok (.bipush 6, 2) := by decide +kernel
theorem dX11_instructionAt_6 : decode cX11_instructionAt 6 = .ok (.iload_n 1, 1) := by decide +kernel
theorem dX11_instructionAt_7 : decode cX11_instructionAt 7 = .ok (.imul, 1) := by decide +kernel
theorem dX11_instructionAt_8 : decode cX11_instructionAt 8 = .ok (.iload_n 2, 1) := by decide +kernel
theorem dX11_instructionAt_9 : decode cX11_instructionAt 9 = .ok (.iadd, 1) := by decide +kernel
theorem dX11_instructionAt_10 : decode cX11_instructionAt 10 = .ok (.iaload, 1) := by decide +kernel
theorem dX11_instructionAt_11 : decode cX11_instructionAt 11 = .ok (.istore_n 3, 1) := by decide +kernel
theorem dX11_instructionAt_12 : decode cX11_instructionAt 12 = .ok (.iload_n 3, 1) := by decide +kernel
theorem dX11_instructionAt_13 : decode cX11_instructionAt 13 = .ok (.aload_n 0, 1) := by decide +kernel
theorem dX11_instructionAt_14 : decode cX11_instructionAt 14 = .ok (.getfield 29, 3) := by decide +kernel
theorem dX11_instructionAt_17 : decode cX11_instructionAt 17 = .ok (.iload_n 2, 1) := by decide +kernel
theorem dX11_instructionAt_18 : decode cX11_instructionAt 18 = .ok (.iaload, 1) := by decide +kernel
theorem dX11_instructionAt_19 : decode cX11_instructionAt 19 = .ok (.if_icmp .ge 17, 3) := by decide +kernel
theorem dX11_instructionAt_22 : decode cX11_instructionAt 22 = .ok (.aload_n 0, 1) := by decide +kernel
theorem dX11_instructionAt_23 : decode cX11_instructionAt 23 = .ok (.getfield 26, 3) := by decide +kernel
theorem dX11_instructionAt_26 : decode cX11_instructionAt 26 = .ok (.bipush 64, 2) := by decide +kernel
theorem dX11_instructionAt_28 : decode cX11_instructionAt 28 = .ok (.iload_n 2, 1) := by decide +kernel
theorem dX11_instructionAt_29 : decode cX11_instructionAt 29 = .ok (.imul, 1) := by decide +kernel
theorem dX11_instructionAt_30 : decode cX11_instructionAt 30 = .ok (.iload_n 3, 1) := by decide +kernel
theorem dX11_instructionAt_31 : decode cX11_instructionAt 31 = .ok (.iadd, 1) := by decide +kernel
theorem dX11_instructionAt_32 : decode cX11_instructionAt 32 = .ok (.iaload, 1) := by decide +kernel
theorem dX11_instructionAt_33 : decode cX11_instructionAt 33 = .ok (.goto 4, 3) := by decide +kernel
theorem dX11_instructionAt_36 : decode cX11_instructionAt 36 = .ok (.iconst 0, 1) := by decide +kernel
theorem dX11_instructionAt_37 : decode cX11_instructionAt 37 = .ok (.ireturn, 1) := by decide +kernel
theorem dX11_step_0 : decode cX11_step 0 = .ok (.bipush 6, 2) := by decide +kernel
theorem dX11_step_2 : decode cX11_step 2 = .ok (.iload_n 1, 1) := by decide +kernel
theorem dX11_step_3 : decode cX11_step 3 = .ok (.imul, 1) := by decide +kernel
theorem dX11_step_4 : decode cX11_step 4 = .ok (.iload_n 2, 1) := by decide +kernel
theorem dX11_step_5 : decode cX11_step 5 = .ok (.iadd, 1) := by decide +kernel
theorem dX11_step_6 : decode cX11_step 6 = .ok (.istore_n 3, 1) := by decide +kernel
theorem dX11_step_7 : decode cX11_step 7 = .ok (.aload_n 0, 1) := by decide +kernel
theorem dX11_step_8 : decode cX11_step 8 = .ok (.getfield 83, 3) := by decide +kernel
theorem dX11_step_11 : decode cX11_step 11 = .ok (.iload_n 3, 1) := by decide +kernel
theorem dX11_step_12 : decode cX11_step 12 = .ok (.dup2, 1) := by decide +kernel
theorem dX11_step_13 : decode cX11_step 13 = .ok (.iaload, 1) := by decide +kernel
theorem dX11_step_14 : decode cX11_step 14 = .ok (.iconst 1, 1) := by decide +kernel
theorem dX11_step_15 : decode cX11_step 15 = .ok (.iadd, 1) := by decide +kernel
theorem dX11_step_16 : decode cX11_step 16 = .ok (.iastore, 1) := by decide +kernel
theorem dX11_step_17 : decode cX11_step 17 = .ok (.aload_n 0, 1) := by decide +kernel
theorem dX11_step_18 : decode cX11_step 18 = .ok (.getfield 62, 3) := by decide +kernel
theorem dX11_step_21 : decode cX11_step 21 = .ok (.iload_n 3, 1) := by decide +kernel
theorem dX11_step_22 : decode cX11_step 22 = .ok (.iaload, 1) := by decide +kernel
theorem dX11_step_23 : decode cX11_step 23 = .ok (.aload_n 0, 1) := by decide +kernel
theorem dX11_step_24 : decode cX11_step 24 = .ok (.getfield 29, 3) := by decide +kernel
theorem dX11_step_27 : decode cX11_step 27 = .ok (.iload_n 2, 1) := by decide +kernel
theorem dX11_step_28 : decode cX11_step 28 = .ok (.iaload, 1) := by decide +kernel
theorem dX11_step_29 : decode cX11_step 29 = .ok (.if_icmp .ge 32, 3) := by decide +kernel
theorem dX11_step_32 : decode cX11_step 32 = .ok (.aload_n 0, 1) := by decide +kernel
theorem dX11_step_33 : decode cX11_step 33 = .ok (.iload_n 1, 1) := by decide +kernel
theorem dX11_step_34 : decode cX11_step 34 = .ok (.iload_n 2, 1) := by decide +kernel
theorem dX11_step_35 : decode cX11_step 35 = .ok (.aload_n 0, 1) := by decide +kernel
theorem dX11_step_36 : decode cX11_step 36 = .ok (.getfield 26, 3) := by decide +kernel
theorem dX11_step_39 : decode cX11_step 39 = .ok (.bipush 64, 2) := by decide +kernel
theorem dX11_step_41 : decode cX11_step 41 = .ok (.iload_n 2, 1) := by decide +kernel
theorem dX11_step_42 : decode cX11_step 42 = .ok (.imul, 1) := by decide +kernel
theorem dX11_step_43 : decode cX11_step 43 = .ok (.aload_n 0, 1) := by decide +kernel
theorem dX11_step_44 : decode cX11_step 44 = .ok (.getfield 62, 3) := by decide +kernel
theorem dX11_step_47 : decode cX11_step 47 = .ok (.iload_n 3, 1) := by decide +kernel
theorem dX11_step_48 : decode cX11_step 48 = .ok (.iaload, 1) := by decide +kernel
theorem dX11_step_49 : decode cX11_step 49 = .ok (.iadd, 1) := by decide +kernel
theorem dX11_step_50 : decode cX11_step 50 = .ok (.iaload, 1) := by decide +kernel
theorem dX11_step_51 : decode cX11_step 51 = .ok (.invokevirtual 202, 3) := by decide +kernel
theorem dX11_step_54 : decode cX11_step 54 = .ok (.ifCond .eq 7, 3) := by decide +kernel
theorem dX11_step_57 : decode cX11_step 57 = .ok (.iconst 1, 1) := by decide +kernel
theorem dX11_step_58 : decode cX11_step 58 = .ok (.goto 4, 3) := by decide +kernel
theorem dX11_step_61 : decode cX11_step 61 = .ok (.iconst 0, 1) := by decide +kernel
theorem dX11_step_62 : decode cX11_step 62 = .ok (.istore 4, 2) := by decide +kernel
theorem dX11_step_64 : decode cX11_step 64 = .ok (.iload 4, 2) := by decide +kernel
theorem dX11_step_66 : decode cX11_step 66 = .ok (.ifCond .eq 4, 3) := by decide +kernel
theorem dX11_step_69 : decode cX11_step 69 = .ok (.return_, 1) := by decide +kernel
theorem dX11_step_70 : decode cX11_step 70 = .ok (.aload_n 0, 1) := by decide +kernel
theorem dX11_step_71 : decode cX11_step 71 = .ok (.getfield 80, 3) := by decide +kernel
theorem dX11_step_74 : decode cX11_step 74 = .ok (.iload_n 3, 1) := by decide +kernel
theorem dX11_step_75 : decode cX11_step 75 = .ok (.dup2, 1) := by decide +kernel
theorem dX11_step_76 : decode cX11_step 76 = .ok (.iaload, 1) := by decide +kernel
theorem dX11_step_77 : decode cX11_step 77 = .ok (.iconst 1, 1) := by decide +kernel
theorem dX11_step_78 : decode cX11_step 78 = .ok (.iadd, 1) := by decide +kernel
theorem dX11_step_79 : decode cX11_step 79 = .ok (.iastore, 1) := by decide +kernel
theorem dX11_step_80 : decode cX11_step 80 = .ok (.aload_n 0, 1) := by decide +kernel
theorem dX11_step_81 : decode cX11_step 81 = .ok (.getfield 32, 3) := by decide +kernel
theorem dX11_step_84 : decode cX11_step 84 = .ok (.iload_n 2, 1) := by decide +kernel
theorem dX11_step_85 : decode cX11_step 85 = .ok (.iaload, 1) := by decide +kernel
theorem dX11_step_86 : decode cX11_step 86 = .ok (.ifCond .ne 13, 3) := by decide +kernel
theorem dX11_step_89 : decode cX11_step 89 = .ok (.aload_n 0, 1) := by decide +kernel
theorem dX11_step_90 : decode cX11_step 90 = .ok (.getfield 65, 3) := by decide +kernel
theorem dX11_step_93 : decode cX11_step 93 = .ok (.iload_n 3, 1) := by decide +kernel
theorem dX11_step_94 : decode cX11_step 94 = .ok (.iconst 2, 1) := by decide +kernel
theorem dX11_step_95 : decode cX11_step 95 = .ok (.iastore, 1) := by decide +kernel
theorem dX11_step_96 : decode cX11_step 96 = .ok (.goto 91, 3) := by decide +kernel
theorem dX11_step_99 : decode cX11_step 99 = .ok (.aload_n 0, 1) := by decide +kernel
theorem dX11_step_100 : decode cX11_step 100 = .ok (.getfield 32, 3) := by decide +kernel
theorem dX11_step_103 : decode cX11_step 103 = .ok (.iload_n 2, 1) := by decide +kernel
theorem dX11_step_104 : decode cX11_step 104 = .ok (.iaload, 1) := by decide +kernel
theorem dX11_step_105 : decode cX11_step 105 = .ok (.iconst 1, 1) := by decide +kernel
theorem dX11_step_106 : decode cX11_step 106 = .ok (.if_icmp .ne 71, 3) := by decide +kernel
theorem dX11_step_109 : decode cX11_step 109 = .ok (.aload_n 0, 1) := by decide +kernel
theorem dX11_step_110 : decode cX11_step 110 = .ok (.getfield 62, 3) := by decide +kernel
theorem dX11_step_113 : decode cX11_step 113 = .ok (.iload_n 3, 1) := by decide +kernel
theorem dX11_step_114 : decode cX11_step 114 = .ok (.iconst 0, 1) := by decide +kernel
theorem dX11_step_115 : decode cX11_step 115 = .ok (.iastore, 1) := by decide +kernel
theorem dX11_step_116 : decode cX11_step 116 = .ok (.iconst 0, 1) := by decide +kernel
theorem dX11_step_117 : decode cX11_step 117 = .ok (.istore 5, 2) := by decide +kernel
theorem dX11_step_119 : decode cX11_step 119 = .ok (.iload 5, 2) := by decide +kernel
theorem dX11_step_121 : decode cX11_step 121 = .ok (.bipush 8, 2) := by decide +kernel
theorem dX11_step_123 : decode cX11_step 123 = .ok (.if_icmp .ge 22, 3) := by decide +kernel
theorem dX11_step_126 : decode cX11_step 126 = .ok (.aload_n 0, 1) := by decide +kernel
theorem dX11_step_127 : decode cX11_step 127 = .ok (.getfield 56, 3) := by decide +kernel
theorem dX11_step_130 : decode cX11_step 130 = .ok (.bipush 8, 2) := by decide +kernel
theorem dX11_step_132 : decode cX11_step 132 = .ok (.iload_n 3, 1) := by decide +kernel
theorem dX11_step_133 : decode cX11_step 133 = .ok (.imul, 1) := by decide +kernel
theorem dX11_step_134 : decode cX11_step 134 = .ok (.iload 5, 2) := by decide +kernel
theorem dX11_step_136 : decode cX11_step 136 = .ok (.iadd, 1) := by decide +kernel
theorem dX11_step_137 : decode cX11_step 137 = .ok (.iconst 0, 1) := by decide +kernel
theorem dX11_step_138 : decode cX11_step 138 = .ok (.iastore, 1) := by decide +kernel
theorem dX11_step_139 : decode cX11_step 139 = .ok (.iinc 5 1, 3) := by decide +kernel
theorem dX11_step_142 : decode cX11_step 142 = .ok (.goto (-23), 3) := by decide +kernel
theorem dX11_step_145 : decode cX11_step 145 = .ok (.iconst 0, 1) := by decide +kernel
theorem dX11_step_146 : decode cX11_step 146 = .ok (.istore 5, 2) := by decide +kernel
theorem dX11_step_148 : decode cX11_step 148 = .ok (.iload 5, 2) := by decide +kernel
theorem dX11_step_150 : decode cX11_step 150 = .ok (.bipush 32, 2) := by decide +kernel
theorem dX11_step_152 : decode cX11_step 152 = .ok (.if_icmp .ge 22, 3) := by decide +kernel
theorem dX11_step_155 : decode cX11_step 155 = .ok (.aload_n 0, 1) := by decide +kernel
theorem dX11_step_156 : decode cX11_step 156 = .ok (.getfield 59, 3) := by decide +kernel
theorem dX11_step_159 : decode cX11_step 159 = .ok (.bipush 32, 2) := by decide +kernel
theorem dX11_step_161 : decode cX11_step 161 = .ok (.iload_n 3, 1) := by decide +kernel
theorem dX11_step_162 : decode cX11_step 162 = .ok (.imul, 1) := by decide +kernel
theorem dX11_step_163 : decode cX11_step 163 = .ok (.iload 5, 2) := by decide +kernel
theorem dX11_step_165 : decode cX11_step 165 = .ok (.iadd, 1) := by decide +kernel
theorem dX11_step_166 : decode cX11_step 166 = .ok (.iconst 0, 1) := by decide +kernel
theorem dX11_step_167 : decode cX11_step 167 = .ok (.iastore, 1) := by decide +kernel
theorem dX11_step_168 : decode cX11_step 168 = .ok (.iinc 5 1, 3) := by decide +kernel
theorem dX11_step_171 : decode cX11_step 171 = .ok (.goto (-23), 3) := by decide +kernel
theorem dX11_step_174 : decode cX11_step 174 = .ok (.goto 13, 3) := by decide +kernel
theorem dX11_step_177 : decode cX11_step 177 = .ok (.aload_n 0, 1) := by decide +kernel
theorem dX11_step_178 : decode cX11_step 178 = .ok (.getfield 62, 3) := by decide +kernel
theorem dX11_step_181 : decode cX11_step 181 = .ok (.iload_n 3, 1) := by decide +kernel
theorem dX11_step_182 : decode cX11_step 182 = .ok (.dup2, 1) := by decide +kernel
theorem dX11_step_183 : decode cX11_step 183 = .ok (.iaload, 1) := by decide +kernel
theorem dX11_step_184 : decode cX11_step 184 = .ok (.iconst 1, 1) := by decide +kernel
theorem dX11_step_185 : decode cX11_step 185 = .ok (.iadd, 1) := by decide +kernel
theorem dX11_step_186 : decode cX11_step 186 = .ok (.iastore, 1) := by decide +kernel
theorem dX11_step_187 : decode cX11_step 187 = .ok (.return_, 1) := by decide +kernel
theorem dX11_areCells_0 : decode cX11_areCells 0 = .ok (.lload_n 0, 1) := by decide +kernel
theorem dX11_areCells_1 : decode cX11_areCells 1 = .ok (.lconst 0, 1) := by decide +kernel
theorem dX11_areCells_2 : decode cX11_areCells 2 = .ok (.lcmp, 1) := by decide +kernel
theorem dX11_areCells_3 : decode cX11_areCells 3 = .ok (.ifCond .lt 17, 3) := by decide +kernel
theorem dX11_areCells_6 : decode cX11_areCells 6 = .ok (.lload_n 0, 1) := by decide +kernel
theorem dX11_areCells_7 : decode cX11_areCells 7 = .ok (.lload_n 2, 1) := by decide +kernel
theorem dX11_areCells_8 : decode cX11_areCells 8 = .ok (.ladd, 1) := by decide +kernel
theorem dX11_areCells_9 : decode cX11_areCells 9 = .ok (.ldc2_w 206, 3) := by decide +kernel
theorem dX11_areCells_12 : decode cX11_areCells 12 = .ok (.lcmp, 1) := by decide +kernel
theorem dX11_areCells_13 : decode cX11_areCells 13 = .ok (.ifCond .gt 7, 3) := by decide +kernel
theorem dX11_areCells_16 : decode cX11_areCells 16 = .ok (.iconst 1, 1) := by decide +kernel
theorem dX11_areCells_17 : decode cX11_areCells 17 = .ok (.goto 4, 3) := by decide +kernel
theorem dX11_areCells_20 : decode cX11_areCells 20 = .ok (.iconst 0, 1) := by decide +kernel
theorem dX11_areCells_21 : decode cX11_areCells 21 = .ok (.ireturn, 1) := by decide +kernel
theorem dX11_does_0 : decode cX11_does 0 = .ok (.bipush 6, 2) := by decide +kernel
theorem dX11_does_2 : decode cX11_does 2 = .ok (.iload_n 1, 1) := by decide +kernel
theorem dX11_does_3 : decode cX11_does 3 = .ok (.imul, 1) := by decide +kernel
theorem dX11_does_4 : decode cX11_does 4 = .ok (.iload_n 2, 1) := by decide +kernel
theorem dX11_does_5 : decode cX11_does 5 = .ok (.iadd, 1) := by decide +kernel
theorem dX11_does_6 : decode cX11_does 6 = .ok (.istore 4, 2) := by decide +kernel
theorem dX11_does_8 : decode cX11_does 8 = .ok (.iload_n 3, 1) := by decide +kernel
theorem dX11_does_9 : decode cX11_does 9 = .ok (.sipush 255, 3) := by decide +kernel
theorem dX11_does_12 : decode cX11_does 12 = .ok (.iand, 1) := by decide +kernel
theorem dX11_does_13 : decode cX11_does 13 = .ok (.istore 5, 2) := by decide +kernel
theorem dX11_does_15 : decode cX11_does 15 = .ok (.iload_n 3, 1) := by decide +kernel
theorem dX11_does_16 : decode cX11_does 16 = .ok (.bipush 8, 2) := by decide +kernel
theorem dX11_does_18 : decode cX11_does 18 = .ok (.ishr, 1) := by decide +kernel
theorem dX11_does_19 : decode cX11_does 19 = .ok (.sipush 255, 3) := by decide +kernel
theorem dX11_does_22 : decode cX11_does 22 = .ok (.iand, 1) := by decide +kernel
theorem dX11_does_23 : decode cX11_does 23 = .ok (.istore 6, 2) := by decide +kernel
theorem dX11_does_25 : decode cX11_does 25 = .ok (.iload_n 3, 1) := by decide +kernel
theorem dX11_does_26 : decode cX11_does 26 = .ok (.bipush 16, 2) := by decide +kernel
theorem dX11_does_28 : decode cX11_does 28 = .ok (.ishr, 1) := by decide +kernel
theorem dX11_does_29 : decode cX11_does 29 = .ok (.sipush 255, 3) := by decide +kernel
theorem dX11_does_32 : decode cX11_does 32 = .ok (.iand, 1) := by decide +kernel
theorem dX11_does_33 : decode cX11_does 33 = .ok (.istore 7, 2) := by decide +kernel
theorem dX11_does_35 : decode cX11_does 35 = .ok (.iload_n 3, 1) := by decide +kernel
theorem dX11_does_36 : decode cX11_does 36 = .ok (.bipush 24, 2) := by decide +kernel
theorem dX11_does_38 : decode cX11_does 38 = .ok (.iushr, 1) := by decide +kernel
theorem dX11_does_39 : decode cX11_does 39 = .ok (.istore 8, 2) := by decide +kernel
theorem dX11_does_41 : decode cX11_does 41 = .ok (.bipush 8, 2) := by decide +kernel
theorem dX11_does_43 : decode cX11_does 43 = .ok (.iload 4, 2) := by decide +kernel
theorem dX11_does_45 : decode cX11_does 45 = .ok (.imul, 1) := by decide +kernel
theorem dX11_does_46 : decode cX11_does 46 = .ok (.iload 6, 2) := by decide +kernel
theorem dX11_does_48 : decode cX11_does 48 = .ok (.bipush 8, 2) := by decide +kernel
theorem dX11_does_50 : decode cX11_does 50 = .ok (.irem, 1) := by decide +kernel
theorem dX11_does_51 : decode cX11_does 51 = .ok (.iadd, 1) := by decide +kernel
theorem dX11_does_52 : decode cX11_does 52 = .ok (.istore 9, 2) := by decide +kernel
theorem dX11_does_54 : decode cX11_does 54 = .ok (.bipush 8, 2) := by decide +kernel
theorem dX11_does_56 : decode cX11_does 56 = .ok (.iload 4, 2) := by decide +kernel
theorem dX11_does_58 : decode cX11_does 58 = .ok (.imul, 1) := by decide +kernel
theorem dX11_does_59 : decode cX11_does 59 = .ok (.iload 7, 2) := by decide +kernel
theorem dX11_does_61 : decode cX11_does 61 = .ok (.bipush 8, 2) := by decide +kernel
theorem dX11_does_63 : decode cX11_does 63 = .ok (.irem, 1) := by decide +kernel
theorem dX11_does_64 : decode cX11_does 64 = .ok (.iadd, 1) := by decide +kernel
theorem dX11_does_65 : decode cX11_does 65 = .ok (.istore 10, 2) := by decide +kernel
theorem dX11_does_67 : decode cX11_does 67 = .ok (.bipush 8, 2) := by decide +kernel
theorem dX11_does_69 : decode cX11_does 69 = .ok (.iload 4, 2) := by decide +kernel
theorem dX11_does_71 : decode cX11_does 71 = .ok (.imul, 1) := by decide +kernel
theorem dX11_does_72 : decode cX11_does 72 = .ok (.iload 8, 2) := by decide +kernel
theorem dX11_does_74 : decode cX11_does 74 = .ok (.bipush 8, 2) := by decide +kernel
theorem dX11_does_76 : decode cX11_does 76 = .ok (.irem, 1) := by decide +kernel
theorem dX11_does_77 : decode cX11_does 77 = .ok (.iadd, 1) := by decide +kernel
theorem dX11_does_78 : decode cX11_does 78 = .ok (.istore 11, 2) := by decide +kernel
theorem dX11_does_80 : decode cX11_does 80 = .ok (.aload_n 0, 1) := by decide +kernel
theorem dX11_does_81 : decode cX11_does 81 = .ok (.getfield 56, 3) := by decide +kernel
theorem dX11_does_84 : decode cX11_does 84 = .ok (.iload 10, 2) := by decide +kernel
theorem dX11_does_86 : decode cX11_does 86 = .ok (.iaload, 1) := by decide +kernel
theorem dX11_does_87 : decode cX11_does 87 = .ok (.istore 12, 2) := by decide +kernel
theorem dX11_does_89 : decode cX11_does 89 = .ok (.aload_n 0, 1) := by decide +kernel
theorem dX11_does_90 : decode cX11_does 90 = .ok (.getfield 56, 3) := by decide +kernel
theorem dX11_does_93 : decode cX11_does 93 = .ok (.iload 11, 2) := by decide +kernel
theorem dX11_does_95 : decode cX11_does 95 = .ok (.iaload, 1) := by decide +kernel
theorem dX11_does_96 : decode cX11_does 96 = .ok (.istore 13, 2) := by decide +kernel
theorem dX11_does_98 : decode cX11_does 98 = .ok (.iload 5, 2) := by decide +kernel
theorem dX11_does_100 : decode cX11_does 100 = .ok (.bipush 24, 2) := by decide +kernel
theorem dX11_does_102 : decode cX11_does 102 = .ok (.if_icmp .gt 34, 3) := by decide +kernel
theorem dX11_does_105 : decode cX11_does 105 = .ok (.iload 5, 2) := by decide +kernel
theorem dX11_does_107 : decode cX11_does 107 = .ok (.bipush 14, 2) := by decide +kernel
theorem dX11_does_109 : decode cX11_does 109 = .ok (.if_icmp .lt 29, 3) := by decide +kernel
theorem dX11_does_112 : decode cX11_does 112 = .ok (.iload 5, 2) := by decide +kernel
theorem dX11_does_114 : decode cX11_does 114 = .ok (.bipush 17, 2) := by decide +kernel
theorem dX11_does_116 : decode cX11_does 116 = .ok (.if_icmp .gt 22, 3) := by decide +kernel
theorem dX11_does_119 : decode cX11_does 119 = .ok (.aload_n 0, 1) := by decide +kernel
theorem dX11_does_120 : decode cX11_does 120 = .ok (.iload_n 1, 1) := by decide +kernel
theorem dX11_does_121 : decode cX11_does 121 = .ok (.iload_n 2, 1) := by decide +kernel
theorem dX11_does_122 : decode cX11_does 122 = .ok (.iload 5, 2) := by decide +kernel
theorem dX11_does_124 : decode cX11_does 124 = .ok (.iload 6, 2) := by decide +kernel
theorem dX11_does_126 : decode cX11_does 126 = .ok (.iload 12, 2) := by decide +kernel
theorem dX11_does_128 : decode cX11_does 128 = .ok (.iload 13, 2) := by decide +kernel
theorem dX11_does_130 : decode cX11_does 130 = .ok (.invokevirtual 208, 3) := by decide +kernel
theorem dX11_does_133 : decode cX11_does 133 = .ok (.ifCond .ne 5, 3) := by decide +kernel
theorem dX11_does_136 : decode cX11_does 136 = .ok (.iconst 0, 1) := by decide +kernel
theorem dX11_does_137 : decode cX11_does 137 = .ok (.ireturn, 1) := by decide +kernel
theorem dX11_does_138 : decode cX11_does 138 = .ok (.iload 5, 2) := by decide +kernel
theorem dX11_does_140 : decode cX11_does 140 = .ok (.tableswitch 597 0 24 #[116, 126, 165, 177, 192, 207, 222, 237, 252, 274, 285, 285, 338, 338, 597, 597, 597, 597, 403, 458, 469, 485, 495, 554, 581], 116) := by decide +kernel
theorem dX11_does_256 : decode cX11_does 256 = .ok (.aload_n 0, 1) := by decide +kernel
theorem dX11_does_257 : decode cX11_does 257 = .ok (.getfield 65, 3) := by decide +kernel
theorem dX11_does_260 : decode cX11_does 260 = .ok (.iload 4, 2) := by decide +kernel
theorem dX11_does_262 : decode cX11_does 262 = .ok (.iconst 1, 1) := by decide +kernel
theorem dX11_does_263 : decode cX11_does 263 = .ok (.iastore, 1) := by decide +kernel
theorem dX11_does_264 : decode cX11_does 264 = .ok (.iconst 1, 1) := by decide +kernel
theorem dX11_does_265 : decode cX11_does 265 = .ok (.ireturn, 1) := by decide +kernel
theorem dX11_does_266 : decode cX11_does 266 = .ok (.iload 7, 2) := by decide +kernel
theorem dX11_does_268 : decode cX11_does 268 = .ok (.sipush 256, 3) := by decide +kernel
theorem dX11_does_271 : decode cX11_does 271 = .ok (.iload 8, 2) := by decide +kernel
theorem dX11_does_273 : decode cX11_does 273 = .ok (.imul, 1) := by decide +kernel
theorem dX11_does_274 : decode cX11_does 274 = .ok (.iadd, 1) := by decide +kernel
theorem dX11_does_275 : decode cX11_does 275 = .ok (.istore 14, 2) := by decide +kernel
theorem dX11_does_277 : decode cX11_does 277 = .ok (.aload_n 0, 1) := by decide +kernel
theorem dX11_does_278 : decode cX11_does 278 = .ok (.getfield 56, 3) := by decide +kernel
theorem dX11_does_281 : decode cX11_does 281 = .ok (.iload 9, 2) := by decide +kernel
theorem dX11_does_283 : decode cX11_does 283 = .ok (.iload 14, 2) := by decide +kernel
theorem dX11_does_285 : decode cX11_does 285 = .ok (.sipush 32767, 3) := by decide +kernel
theorem dX11_does_288 : decode cX11_does 288 = .ok (.if_icmp .le 11, 3) := by decide +kernel
theorem dX11_does_291 : decode cX11_does 291 = .ok (.iload 14, 2) := by decide +kernel
theorem dX11_does_293 : decode cX11_does 293 = .ok (.ldc 212, 2) := by decide +kernel
theorem dX11_does_295 : decode cX11_does 295 = .ok (.isub, 1) := by decide +kernel
theorem dX11_does_296 : decode cX11_does 296 = .ok (.goto 5, 3) := by decide +kernel
theorem dX11_does_299 : decode cX11_does 299 = .ok (.iload 14, 2) := by decide +kernel
theorem dX11_does_301 : decode cX11_does 301 = .ok (.iastore, 1) := by decide +kernel
theorem dX11_does_302 : decode cX11_does 302 = .ok (.goto 435, 3) := by decide +kernel
theorem dX11_does_305 : decode cX11_does 305 = .ok (.aload_n 0, 1) := by decide +kernel
theorem dX11_does_306 : decode cX11_does 306 = .ok (.getfield 56, 3) := by decide +kernel
theorem dX11_does_309 : decode cX11_does 309 = .ok (.iload 9, 2) := by decide +kernel
theorem dX11_does_311 : decode cX11_does 311 = .ok (.iload 12, 2) := by decide +kernel
theorem dX11_does_313 : decode cX11_does 313 = .ok (.iastore, 1) := by decide +kernel
theorem dX11_does_314 : decode cX11_does 314 = .ok (.goto 423, 3) := by decide +kernel
theorem dX11_does_317 : decode cX11_does 317 = .ok (.aload_n 0, 1) := by decide +kernel
theorem dX11_does_318 : decode cX11_does 318 = .ok (.getfield 56, 3) := by decide +kernel
theorem dX11_does_321 : decode cX11_does 321 = .ok (.iload 9, 2) := by decide +kernel
theorem dX11_does_323 : decode cX11_does 323 = .ok (.iload 12, 2) := by decide +kernel
theorem dX11_does_325 : decode cX11_does 325 = .ok (.iload 13, 2) := by decide +kernel
theorem dX11_does_327 : decode cX11_does 327 = .ok (.iadd, 1) := by decide +kernel
theorem dX11_does_328 : decode cX11_does 328 = .ok (.iastore, 1) := by decide +kernel
theorem dX11_does_329 : decode cX11_does 329 = .ok (.goto 408, 3) := by decide +kernel
theorem dX11_does_332 : decode cX11_does 332 = .ok (.aload_n 0, 1) := by decide +kernel
theorem dX11_does_333 : decode cX11_does 333 = .ok (.getfield 56, 3) := by decide +kernel
theorem dX11_does_336 : decode cX11_does 336 = .ok (.iload 9, 2) := by decide +kernel
theorem dX11_does_338 : decode cX11_does 338 = .ok (.iload 12, 2) := by decide +kernel
theorem dX11_does_340 : decode cX11_does 340 = .ok (.iload 13, 2) := by decide +kernel
theorem dX11_does_342 : decode cX11_does 342 = .ok (.isub, 1) := by decide +kernel
theorem dX11_does_343 : decode cX11_does 343 = .ok (.iastore, 1) := by decide +kernel
theorem dX11_does_344 : decode cX11_does 344 = .ok (.goto 393, 3) := by decide +kernel
theorem dX11_does_347 : decode cX11_does 347 = .ok (.aload_n 0, 1) := by decide +kernel
theorem dX11_does_348 : decode cX11_does 348 = .ok (.getfield 56, 3) := by decide +kernel
theorem dX11_does_351 : decode cX11_does 351 = .ok (.iload 9, 2) := by decide +kernel
theorem dX11_does_353 : decode cX11_does 353 = .ok (.iload 12, 2) := by decide +kernel
theorem dX11_does_355 : decode cX11_does 355 = .ok (.iload 13, 2) := by decide +kernel
theorem dX11_does_357 : decode cX11_does 357 = .ok (.imul, 1) := by decide +kernel
theorem dX11_does_358 : decode cX11_does 358 = .ok (.iastore, 1) := by decide +kernel
theorem dX11_does_359 : decode cX11_does 359 = .ok (.goto 378, 3) := by decide +kernel
theorem dX11_does_362 : decode cX11_does 362 = .ok (.aload_n 0, 1) := by decide +kernel
theorem dX11_does_363 : decode cX11_does 363 = .ok (.getfield 56, 3) := by decide +kernel
theorem dX11_does_366 : decode cX11_does 366 = .ok (.iload 9, 2) := by decide +kernel
theorem dX11_does_368 : decode cX11_does 368 = .ok (.iload 12, 2) := by decide +kernel
theorem dX11_does_370 : decode cX11_does 370 = .ok (.iload 13, 2) := by decide +kernel
theorem dX11_does_372 : decode cX11_does 372 = .ok (.iand, 1) := by decide +kernel
theorem dX11_does_373 : decode cX11_does 373 = .ok (.iastore, 1) := by decide +kernel
theorem dX11_does_374 : decode cX11_does 374 = .ok (.goto 363, 3) := by decide +kernel
theorem dX11_does_377 : decode cX11_does 377 = .ok (.aload_n 0, 1) := by decide +kernel
theorem dX11_does_378 : decode cX11_does 378 = .ok (.getfield 56, 3) := by decide +kernel
theorem dX11_does_381 : decode cX11_does 381 = .ok (.iload 9, 2) := by decide +kernel
theorem dX11_does_383 : decode cX11_does 383 = .ok (.iload 12, 2) := by decide +kernel
theorem dX11_does_385 : decode cX11_does 385 = .ok (.iload 13, 2) := by decide +kernel
theorem dX11_does_387 : decode cX11_does 387 = .ok (.ixor, 1) := by decide +kernel
theorem dX11_does_388 : decode cX11_does 388 = .ok (.iastore, 1) := by decide +kernel
theorem dX11_does_389 : decode cX11_does 389 = .ok (.goto 348, 3) := by decide +kernel
theorem dX11_does_392 : decode cX11_does 392 = .ok (.aload_n 0, 1) := by decide +kernel
theorem dX11_does_393 : decode cX11_does 393 = .ok (.getfield 56, 3) := by decide +kernel
theorem dX11_does_396 : decode cX11_does 396 = .ok (.iload 9, 2) := by decide +kernel
theorem dX11_does_398 : decode cX11_does 398 = .ok (.iload 12, 2) := by decide +kernel
theorem dX11_does_400 : decode cX11_does 400 = .ok (.iload 13, 2) := by decide +kernel
theorem dX11_does_402 : decode cX11_does 402 = .ok (.if_icmp .ge 7, 3) := by decide +kernel
theorem dX11_does_405 : decode cX11_does 405 = .ok (.iconst 1, 1) := by decide +kernel
theorem dX11_does_406 : decode cX11_does 406 = .ok (.goto 4, 3) := by decide +kernel
theorem dX11_does_409 : decode cX11_does 409 = .ok (.iconst 0, 1) := by decide +kernel
theorem dX11_does_410 : decode cX11_does 410 = .ok (.iastore, 1) := by decide +kernel
theorem dX11_does_411 : decode cX11_does 411 = .ok (.goto 326, 3) := by decide +kernel
theorem dX11_does_414 : decode cX11_does 414 = .ok (.aload_n 0, 1) := by decide +kernel
theorem dX11_does_415 : decode cX11_does 415 = .ok (.getfield 62, 3) := by decide +kernel
theorem dX11_does_418 : decode cX11_does 418 = .ok (.iload 4, 2) := by decide +kernel
theorem dX11_does_420 : decode cX11_does 420 = .ok (.iload 7, 2) := by decide +kernel
theorem dX11_does_422 : decode cX11_does 422 = .ok (.iastore, 1) := by decide +kernel
theorem dX11_does_423 : decode cX11_does 423 = .ok (.iconst 1, 1) := by decide +kernel
theorem dX11_does_424 : decode cX11_does 424 = .ok (.ireturn, 1) := by decide +kernel
theorem dX11_does_425 : decode cX11_does 425 = .ok (.aload_n 0, 1) := by decide +kernel
theorem dX11_does_426 : decode cX11_does 426 = .ok (.getfield 62, 3) := by decide +kernel
theorem dX11_does_429 : decode cX11_does 429 = .ok (.iload 4, 2) := by decide +kernel
theorem dX11_does_431 : decode cX11_does 431 = .ok (.aload_n 0, 1) := by decide +kernel
theorem dX11_does_432 : decode cX11_does 432 = .ok (.getfield 56, 3) := by decide +kernel
theorem dX11_does_435 : decode cX11_does 435 = .ok (.iload 9, 2) := by decide +kernel
theorem dX11_does_437 : decode cX11_does 437 = .ok (.iaload, 1) := by decide +kernel
theorem dX11_does_438 : decode cX11_does 438 = .ok (.ifCond .ne 7, 3) := by decide +kernel
theorem dX11_does_441 : decode cX11_does 441 = .ok (.iconst 1, 1) := by decide +kernel
theorem dX11_does_442 : decode cX11_does 442 = .ok (.goto 4, 3) := by decide +kernel
theorem dX11_does_445 : decode cX11_does 445 = .ok (.iconst 0, 1) := by decide +kernel
theorem dX11_does_446 : decode cX11_does 446 = .ok (.iload 5, 2) := by decide +kernel
theorem dX11_does_448 : decode cX11_does 448 = .ok (.bipush 10, 2) := by decide +kernel
theorem dX11_does_450 : decode cX11_does 450 = .ok (.if_icmp .ne 7, 3) := by decide +kernel
theorem dX11_does_453 : decode cX11_does 453 = .ok (.iconst 1, 1) := by decide +kernel
theorem dX11_does_454 : decode cX11_does 454 = .ok (.goto 4, 3) := by decide +kernel
theorem dX11_does_457 : decode cX11_does 457 = .ok (.iconst 0, 1) := by decide +kernel
theorem dX11_does_458 : decode cX11_does 458 = .ok (.if_icmp .ne 8, 3) := by decide +kernel
theorem dX11_does_461 : decode cX11_does 461 = .ok (.iload 7, 2) := by decide +kernel
theorem dX11_does_463 : decode cX11_does 463 = .ok (.goto 12, 3) := by decide +kernel
theorem dX11_does_466 : decode cX11_does 466 = .ok (.aload_n 0, 1) := by decide +kernel
theorem dX11_does_467 : decode cX11_does 467 = .ok (.getfield 62, 3) := by decide +kernel
theorem dX11_does_470 : decode cX11_does 470 = .ok (.iload 4, 2) := by decide +kernel
theorem dX11_does_472 : decode cX11_does 472 = .ok (.iaload, 1) := by decide +kernel
theorem dX11_does_473 : decode cX11_does 473 = .ok (.iconst 1, 1) := by decide +kernel
theorem dX11_does_474 : decode cX11_does 474 = .ok (.iadd, 1) := by decide +kernel
theorem dX11_does_475 : decode cX11_does 475 = .ok (.iastore, 1) := by decide +kernel
theorem dX11_does_476 : decode cX11_does 476 = .ok (.iconst 1, 1) := by decide +kernel
theorem dX11_does_477 : decode cX11_does 477 = .ok (.ireturn, 1) := by decide +kernel
theorem dX11_does_478 : decode cX11_does 478 = .ok (.iload 12, 2) := by decide +kernel
theorem dX11_does_480 : decode cX11_does 480 = .ok (.i2l, 1) := by decide +kernel
theorem dX11_does_481 : decode cX11_does 481 = .ok (.lconst 1, 1) := by decide +kernel
theorem dX11_does_482 : decode cX11_does 482 = .ok (.invokestatic 213, 3) := by decide +kernel
theorem dX11_does_485 : decode cX11_does 485 = .ok (.ifCond .ne 5, 3) := by decide +kernel
theorem dX11_does_488 : decode cX11_does 488 = .ok (.iconst 0, 1) := by decide +kernel
theorem dX11_does_489 : decode cX11_does 489 = .ok (.ireturn, 1) := by decide +kernel
theorem dX11_does_490 : decode cX11_does 490 = .ok (.iload 5, 2) := by decide +kernel
theorem dX11_does_492 : decode cX11_does 492 = .ok (.bipush 12, 2) := by decide +kernel
theorem dX11_does_494 : decode cX11_does 494 = .ok (.if_icmp .ne 26, 3) := by decide +kernel
theorem dX11_does_497 : decode cX11_does 497 = .ok (.aload_n 0, 1) := by decide +kernel
theorem dX11_does_498 : decode cX11_does 498 = .ok (.getfield 56, 3) := by decide +kernel
theorem dX11_does_501 : decode cX11_does 501 = .ok (.iload 9, 2) := by decide +kernel
theorem dX11_does_503 : decode cX11_does 503 = .ok (.aload_n 0, 1) := by decide +kernel
theorem dX11_does_504 : decode cX11_does 504 = .ok (.getfield 59, 3) := by decide +kernel
theorem dX11_does_507 : decode cX11_does 507 = .ok (.bipush 32, 2) := by decide +kernel
theorem dX11_does_509 : decode cX11_does 509 = .ok (.iload 4, 2) := by decide +kernel
theorem dX11_does_511 : decode cX11_does 511 = .ok (.imul, 1) := by decide +kernel
theorem dX11_does_512 : decode cX11_does 512 = .ok (.iload 12, 2) := by decide +kernel
theorem dX11_does_514 : decode cX11_does 514 = .ok (.iadd, 1) := by decide +kernel
theorem dX11_does_515 : decode cX11_does 515 = .ok (.iaload, 1) := by decide +kernel
theorem dX11_does_516 : decode cX11_does 516 = .ok (.iastore, 1) := by decide +kernel
theorem dX11_does_517 : decode cX11_does 517 = .ok (.goto 220, 3) := by decide +kernel
theorem dX11_does_520 : decode cX11_does 520 = .ok (.aload_n 0, 1) := by decide +kernel
theorem dX11_does_521 : decode cX11_does 521 = .ok (.getfield 59, 3) := by decide +kernel
theorem dX11_does_524 : decode cX11_does 524 = .ok (.bipush 32, 2) := by decide +kernel
theorem dX11_does_526 : decode cX11_does 526 = .ok (.iload 4, 2) := by decide +kernel
theorem dX11_does_528 : decode cX11_does 528 = .ok (.imul, 1) := by decide +kernel
theorem dX11_does_529 : decode cX11_does 529 = .ok (.iload 12, 2) := by decide +kernel
theorem dX11_does_531 : decode cX11_does 531 = .ok (.iadd, 1) := by decide +kernel
theorem dX11_does_532 : decode cX11_does 532 = .ok (.aload_n 0, 1) := by decide +kernel
theorem dX11_does_533 : decode cX11_does 533 = .ok (.getfield 56, 3) := by decide +kernel
theorem dX11_does_536 : decode cX11_does 536 = .ok (.iload 9, 2) := by decide +kernel
theorem dX11_does_538 : decode cX11_does 538 = .ok (.iaload, 1) := by decide +kernel
theorem dX11_does_539 : decode cX11_does 539 = .ok (.iastore, 1) := by decide +kernel
theorem dX11_does_540 : decode cX11_does 540 = .ok (.goto 197, 3) := by decide +kernel
theorem dX11_does_543 : decode cX11_does 543 = .ok (.aload_n 0, 1) := by decide +kernel
theorem dX11_does_544 : decode cX11_does 544 = .ok (.getfield 77, 3) := by decide +kernel
theorem dX11_does_547 : decode cX11_does 547 = .ok (.iload 4, 2) := by decide +kernel
theorem dX11_does_549 : decode cX11_does 549 = .ok (.iaload, 1) := by decide +kernel
theorem dX11_does_550 : decode cX11_does 550 = .ok (.sipush 200, 3) := by decide +kernel
theorem dX11_does_553 : decode cX11_does 553 = .ok (.if_icmp .ne 5, 3) := by decide +kernel
theorem dX11_does_556 : decode cX11_does 556 = .ok (.iconst 0, 1) := by decide +kernel
theorem dX11_does_557 : decode cX11_does 557 = .ok (.ireturn, 1) := by decide +kernel
theorem dX11_does_558 : decode cX11_does 558 = .ok (.aload_n 0, 1) := by decide +kernel
theorem dX11_does_559 : decode cX11_does 559 = .ok (.getfield 74, 3) := by decide +kernel
theorem dX11_does_562 : decode cX11_does 562 = .ok (.sipush 200, 3) := by decide +kernel
theorem dX11_does_565 : decode cX11_does 565 = .ok (.iload 4, 2) := by decide +kernel
theorem dX11_does_567 : decode cX11_does 567 = .ok (.imul, 1) := by decide +kernel
theorem dX11_does_568 : decode cX11_does 568 = .ok (.aload_n 0, 1) := by decide +kernel
theorem dX11_does_569 : decode cX11_does 569 = .ok (.getfield 77, 3) := by decide +kernel
theorem dX11_does_572 : decode cX11_does 572 = .ok (.iload 4, 2) := by decide +kernel
theorem dX11_does_574 : decode cX11_does 574 = .ok (.iaload, 1) := by decide +kernel
theorem dX11_does_575 : decode cX11_does 575 = .ok (.iadd, 1) := by decide +kernel
theorem dX11_does_576 : decode cX11_does 576 = .ok (.aload_n 0, 1) := by decide +kernel
theorem dX11_does_577 : decode cX11_does 577 = .ok (.getfield 56, 3) := by decide +kernel
theorem dX11_does_580 : decode cX11_does 580 = .ok (.iload 9, 2) := by decide +kernel
theorem dX11_does_582 : decode cX11_does 582 = .ok (.iaload, 1) := by decide +kernel
theorem dX11_does_583 : decode cX11_does 583 = .ok (.iastore, 1) := by decide +kernel
theorem dX11_does_584 : decode cX11_does 584 = .ok (.aload_n 0, 1) := by decide +kernel
theorem dX11_does_585 : decode cX11_does 585 = .ok (.getfield 77, 3) := by decide +kernel
theorem dX11_does_588 : decode cX11_does 588 = .ok (.iload 4, 2) := by decide +kernel
theorem dX11_does_590 : decode cX11_does 590 = .ok (.dup2, 1) := by decide +kernel
theorem dX11_does_591 : decode cX11_does 591 = .ok (.iaload, 1) := by decide +kernel
theorem dX11_does_592 : decode cX11_does 592 = .ok (.iconst 1, 1) := by decide +kernel
theorem dX11_does_593 : decode cX11_does 593 = .ok (.iadd, 1) := by decide +kernel
theorem dX11_does_594 : decode cX11_does 594 = .ok (.iastore, 1) := by decide +kernel
