theorem dX9_oneLine_0 : decode cX9_oneLine 0 = .ok (.aload_n 0, 1) := by decide +kernel
theorem dX9_oneLine_1 : decode cX9_oneLine 1 = .ok (.iconst 0, 1) := by decide +kernel
theorem dX9_oneLine_2 : decode cX9_oneLine 2 = .ok (.putfield 258, 3) := by decide +kernel
theorem dX9_oneLine_5 : decode cX9_oneLine 5 = .ok (.aload_n 0, 1) := by decide +kernel
theorem dX9_oneLine_6 : decode cX9_oneLine 6 = .ok (.getfield 308, 3) := by decide +kernel
theorem dX9_oneLine_9 : decode cX9_oneLine 9 = .ok (.ifCond .ne 30, 3) := by decide +kernel
theorem dX9_oneLine_12 : decode cX9_oneLine 12 = .ok (.aload_n 0, 1) := by decide +kernel
theorem dX9_oneLine_13 : decode cX9_oneLine 13 = .ok (.ldc_w 311, 3) := by decide +kernel
theorem dX9_oneLine_16 : decode cX9_oneLine 16 = .ok (.invokevirtual 297, 3) := by decide +kernel
theorem dX9_oneLine_19 : decode cX9_oneLine 19 = .ok (.ifCond .ne 20, 3) := by decide +kernel
theorem dX9_oneLine_22 : decode cX9_oneLine 22 = .ok (.aload_n 0, 1) := by decide +kernel
theorem dX9_oneLine_23 : decode cX9_oneLine 23 = .ok (.invokevirtual 214, 3) := by decide +kernel
theorem dX9_oneLine_26 : decode cX9_oneLine 26 = .ok (.pop, 1) := by decide +kernel
theorem dX9_oneLine_27 : decode cX9_oneLine 27 = .ok (.aload_n 0, 1) := by decide +kernel
theorem dX9_oneLine_28 : decode cX9_oneLine 28 = .ok (.iconst 1, 1) := by decide +kernel
theorem dX9_oneLine_29 : decode cX9_oneLine 29 = .ok (.aload_n 0, 1) := by decide +kernel
theorem dX9_oneLine_30 : decode cX9_oneLine 30 = .ok (.getfield 209, 3) := by decide +kernel
theorem dX9_oneLine_33 : decode cX9_oneLine 33 = .ok (.invokevirtual 244, 3) := by decide +kernel
theorem dX9_oneLine_36 : decode cX9_oneLine 36 = .ok (.goto 361, 3) := by decide +kernel
theorem dX9_oneLine_39 : decode cX9_oneLine 39 = .ok (.aload_n 0, 1) := by decide +kernel
theorem dX9_oneLine_40 : decode cX9_oneLine 40 = .ok (.getfield 308, 3) := by decide +kernel
theorem dX9_oneLine_43 : decode cX9_oneLine 43 = .ok (.ifCond .ne 15, 3) := by decide +kernel
theorem dX9_oneLine_46 : decode cX9_oneLine 46 = .ok (.aload_n 0, 1) := by decide +kernel
theorem dX9_oneLine_47 : decode cX9_oneLine 47 = .ok (.iconst 1, 1) := by decide +kernel
theorem dX9_oneLine_48 : decode cX9_oneLine 48 = .ok (.putfield 308, 3) := by decide +kernel
theorem dX9_oneLine_51 : decode cX9_oneLine 51 = .ok (.aload_n 0, 1) := by decide +kernel
theorem dX9_oneLine_52 : decode cX9_oneLine 52 = .ok (.invokevirtual 313, 3) := by decide +kernel
theorem dX9_oneLine_55 : decode cX9_oneLine 55 = .ok (.goto 342, 3) := by decide +kernel
theorem dX9_oneLine_58 : decode cX9_oneLine 58 = .ok (.aload_n 0, 1) := by decide +kernel
theorem dX9_oneLine_59 : decode cX9_oneLine 59 = .ok (.ldc_w 311, 3) := by decide +kernel
theorem dX9_oneLine_62 : decode cX9_oneLine 62 = .ok (.iconst 0, 1) := by decide +kernel
theorem dX9_oneLine_63 : decode cX9_oneLine 63 = .ok (.invokevirtual 315, 3) := by decide +kernel
theorem dX9_oneLine_66 : decode cX9_oneLine 66 = .ok (.ifCond .eq 15, 3) := by decide +kernel
theorem dX9_oneLine_69 : decode cX9_oneLine 69 = .ok (.aload_n 0, 1) := by decide +kernel
theorem dX9_oneLine_70 : decode cX9_oneLine 70 = .ok (.iconst 3, 1) := by decide +kernel
theorem dX9_oneLine_71 : decode cX9_oneLine 71 = .ok (.aload_n 0, 1) := by decide +kernel
theorem dX9_oneLine_72 : decode cX9_oneLine 72 = .ok (.getfield 238, 3) := by decide +kernel
theorem dX9_oneLine_75 : decode cX9_oneLine 75 = .ok (.invokevirtual 244, 3) := by decide +kernel
theorem dX9_oneLine_78 : decode cX9_oneLine 78 = .ok (.goto 319, 3) := by decide +kernel
theorem dX9_oneLine_81 : decode cX9_oneLine 81 = .ok (.aload_n 0, 1) := by decide +kernel
theorem dX9_oneLine_82 : decode cX9_oneLine 82 = .ok (.ldc_w 319, 3) := by decide +kernel
theorem dX9_oneLine_85 : decode cX9_oneLine 85 = .ok (.invokevirtual 297, 3) := by decide +kernel
theorem dX9_oneLine_88 : decode cX9_oneLine 88 = .ok (.ifCond .eq 10, 3) := by decide +kernel
theorem dX9_oneLine_91 : decode cX9_oneLine 91 = .ok (.aload_n 0, 1) := by decide +kernel
theorem dX9_oneLine_92 : decode cX9_oneLine 92 = .ok (.invokevirtual 321, 3) := by decide +kernel
theorem dX9_oneLine_95 : decode cX9_oneLine 95 = .ok (.goto 302, 3) := by decide +kernel
theorem dX9_oneLine_98 : decode cX9_oneLine 98 = .ok (.aload_n 0, 1) := by decide +kernel
theorem dX9_oneLine_99 : decode cX9_oneLine 99 = .ok (.ldc_w 324, 3) := by decide +kernel
theorem dX9_oneLine_102 : decode cX9_oneLine 102 = .ok (.invokevirtual 297, 3) := by decide +kernel
theorem dX9_oneLine_105 : decode cX9_oneLine 105 = .ok (.ifCond .eq 10, 3) := by decide +kernel
theorem dX9_oneLine_108 : decode cX9_oneLine 108 = .ok (.aload_n 0, 1) := by decide +kernel
theorem dX9_oneLine_109 : decode cX9_oneLine 109 = .ok (.invokevirtual 326, 3) := by decide +kernel
theorem dX9_oneLine_112 : decode cX9_oneLine 112 = .ok (.goto 285, 3) := by decide +kernel
theorem dX9_oneLine_115 : decode cX9_oneLine 115 = .ok (.aload_n 0, 1) := by decide +kernel
theorem dX9_oneLine_116 : decode cX9_oneLine 116 = .ok (.ldc_w 329, 3) := by decide +kernel
theorem dX9_oneLine_119 : decode cX9_oneLine 119 = .ok (.invokevirtual 330, 3) := by decide +kernel
theorem dX9_oneLine_122 : decode cX9_oneLine 122 = .ok (.ifCond .eq 10, 3) := by decide +kernel
theorem dX9_oneLine_125 : decode cX9_oneLine 125 = .ok (.aload_n 0, 1) := by decide +kernel
theorem dX9_oneLine_126 : decode cX9_oneLine 126 = .ok (.invokevirtual 333, 3) := by decide +kernel
theorem dX9_oneLine_129 : decode cX9_oneLine 129 = .ok (.goto 268, 3) := by decide +kernel
theorem dX9_oneLine_132 : decode cX9_oneLine 132 = .ok (.aload_n 0, 1) := by decide +kernel
theorem dX9_oneLine_133 : decode cX9_oneLine 133 = .ok (.ldc_w 336, 3) := by decide +kernel
theorem dX9_oneLine_136 : decode cX9_oneLine 136 = .ok (.invokevirtual 330, 3) := by decide +kernel
theorem dX9_oneLine_139 : decode cX9_oneLine 139 = .ok (.ifCond .eq 25, 3) := by decide +kernel
theorem dX9_oneLine_142 : decode cX9_oneLine 142 = .ok (.aload_n 0, 1) := by decide +kernel
theorem dX9_oneLine_143 : decode cX9_oneLine 143 = .ok (.iconst 0, 1) := by decide +kernel
theorem dX9_oneLine_144 : decode cX9_oneLine 144 = .ok (.invokevirtual 301, 3) := by decide +kernel
theorem dX9_oneLine_147 : decode cX9_oneLine 147 = .ok (.istore_n 1, 1) := by decide +kernel
theorem dX9_oneLine_148 : decode cX9_oneLine 148 = .ok (.aload_n 0, 1) := by decide +kernel
theorem dX9_oneLine_149 : decode cX9_oneLine 149 = .ok (.iconst 1, 1) := by decide +kernel
theorem dX9_oneLine_150 : decode cX9_oneLine 150 = .ok (.iload_n 1, 1) := by decide +kernel
theorem dX9_oneLine_151 : decode cX9_oneLine 151 = .ok (.aload_n 0, 1) := by decide +kernel
theorem dX9_oneLine_152 : decode cX9_oneLine 152 = .ok (.iconst 0, 1) := by decide +kernel
theorem dX9_oneLine_153 : decode cX9_oneLine 153 = .ok (.invokevirtual 301, 3) := by decide +kernel
theorem dX9_oneLine_156 : decode cX9_oneLine 156 = .ok (.iconst 0, 1) := by decide +kernel
theorem dX9_oneLine_157 : decode cX9_oneLine 157 = .ok (.iconst (-1), 1) := by decide +kernel
theorem dX9_oneLine_158 : decode cX9_oneLine 158 = .ok (.invokevirtual 305, 3) := by decide +kernel
theorem dX9_oneLine_161 : decode cX9_oneLine 161 = .ok (.goto 236, 3) := by decide +kernel
theorem dX9_oneLine_164 : decode cX9_oneLine 164 = .ok (.aload_n 0, 1) := by decide +kernel
theorem dX9_oneLine_165 : decode cX9_oneLine 165 = .ok (.ldc_w 338, 3) := by decide +kernel
theorem dX9_oneLine_168 : decode cX9_oneLine 168 = .ok (.invokevirtual 330, 3) := by decide +kernel
theorem dX9_oneLine_171 : decode cX9_oneLine 171 = .ok (.ifCond .eq 28, 3) := by decide +kernel
theorem dX9_oneLine_174 : decode cX9_oneLine 174 = .ok (.aload_n 0, 1) := by decide +kernel
theorem dX9_oneLine_175 : decode cX9_oneLine 175 = .ok (.iconst 0, 1) := by decide +kernel
theorem dX9_oneLine_176 : decode cX9_oneLine 176 = .ok (.invokevirtual 301, 3) := by decide +kernel
theorem dX9_oneLine_179 : decode cX9_oneLine 179 = .ok (.istore_n 1, 1) := by decide +kernel
theorem dX9_oneLine_180 : decode cX9_oneLine 180 = .ok (.aload_n 0, 1) := by decide +kernel
theorem dX9_oneLine_181 : decode cX9_oneLine 181 = .ok (.iconst 2, 1) := by decide +kernel
theorem dX9_oneLine_182 : decode cX9_oneLine 182 = .ok (.iload_n 1, 1) := by decide +kernel
theorem dX9_oneLine_183 : decode cX9_oneLine 183 = .ok (.iconst (-1), 1) := by decide +kernel
theorem dX9_oneLine_184 : decode cX9_oneLine 184 = .ok (.aload_n 0, 1) := by decide +kernel
theorem dX9_oneLine_185 : decode cX9_oneLine 185 = .ok (.iconst 0, 1) := by decide +kernel
theorem dX9_oneLine_186 : decode cX9_oneLine 186 = .ok (.sipush 999, 3) := by decide +kernel
theorem dX9_oneLine_189 : decode cX9_oneLine 189 = .ok (.invokevirtual 282, 3) := by decide +kernel
theorem dX9_oneLine_192 : decode cX9_oneLine 192 = .ok (.iconst (-1), 1) := by decide +kernel
theorem dX9_oneLine_193 : decode cX9_oneLine 193 = .ok (.invokevirtual 305, 3) := by decide +kernel
theorem dX9_oneLine_196 : decode cX9_oneLine 196 = .ok (.goto 201, 3) := by decide +kernel
theorem dX9_oneLine_199 : decode cX9_oneLine 199 = .ok (.aload_n 0, 1) := by decide +kernel
theorem dX9_oneLine_200 : decode cX9_oneLine 200 = .ok (.ldc_w 340, 3) := by decide +kernel
theorem dX9_oneLine_203 : decode cX9_oneLine 203 = .ok (.invokevirtual 330, 3) := by decide +kernel
theorem dX9_oneLine_206 : decode cX9_oneLine 206 = .ok (.ifCond .eq 28, 3) := by decide +kernel
theorem dX9_oneLine_209 : decode cX9_oneLine 209 = .ok (.aload_n 0, 1) := by decide +kernel
theorem dX9_oneLine_210 : decode cX9_oneLine 210 = .ok (.iconst 0, 1) := by decide +kernel
theorem dX9_oneLine_211 : decode cX9_oneLine 211 = .ok (.invokevirtual 301, 3) := by decide +kernel
theorem dX9_oneLine_214 : decode cX9_oneLine 214 = .ok (.istore_n 1, 1) := by decide +kernel
theorem dX9_oneLine_215 : decode cX9_oneLine 215 = .ok (.aload_n 0, 1) := by decide +kernel
theorem dX9_oneLine_216 : decode cX9_oneLine 216 = .ok (.iconst 3, 1) := by decide +kernel
theorem dX9_oneLine_217 : decode cX9_oneLine 217 = .ok (.iload_n 1, 1) := by decide +kernel
theorem dX9_oneLine_218 : decode cX9_oneLine 218 = .ok (.iconst (-1), 1) := by decide +kernel
theorem dX9_oneLine_219 : decode cX9_oneLine 219 = .ok (.aload_n 0, 1) := by decide +kernel
theorem dX9_oneLine_220 : decode cX9_oneLine 220 = .ok (.iconst 0, 1) := by decide +kernel
theorem dX9_oneLine_221 : decode cX9_oneLine 221 = .ok (.sipush 999, 3) := by decide +kernel
theorem dX9_oneLine_224 : decode cX9_oneLine 224 = .ok (.invokevirtual 282, 3) := by decide +kernel
theorem dX9_oneLine_227 : decode cX9_oneLine 227 = .ok (.iconst (-1), 1) := by decide +kernel
theorem dX9_oneLine_228 : decode cX9_oneLine 228 = .ok (.invokevirtual 305, 3) := by decide +kernel
theorem dX9_oneLine_231 : decode cX9_oneLine 231 = .ok (.goto 166, 3) := by decide +kernel
theorem dX9_oneLine_234 : decode cX9_oneLine 234 = .ok (.aload_n 0, 1) := by decide +kernel
theorem dX9_oneLine_235 : decode cX9_oneLine 235 = .ok (.ldc_w 342, 3) := by decide +kernel
theorem dX9_oneLine_238 : decode cX9_oneLine 238 = .ok (.invokevirtual 297, 3) := by decide +kernel
theorem dX9_oneLine_241 : decode cX9_oneLine 241 = .ok (.ifCond .eq 10, 3) := by decide +kernel
theorem dX9_oneLine_244 : decode cX9_oneLine 244 = .ok (.aload_n 0, 1) := by decide +kernel
theorem dX9_oneLine_245 : decode cX9_oneLine 245 = .ok (.invokevirtual 344, 3) := by decide +kernel
theorem dX9_oneLine_248 : decode cX9_oneLine 248 = .ok (.goto 149, 3) := by decide +kernel
theorem dX9_oneLine_251 : decode cX9_oneLine 251 = .ok (.aload_n 0, 1) := by decide +kernel
theorem dX9_oneLine_252 : decode cX9_oneLine 252 = .ok (.ldc_w 347, 3) := by decide +kernel
theorem dX9_oneLine_255 : decode cX9_oneLine 255 = .ok (.invokevirtual 330, 3) := by decide +kernel
theorem dX9_oneLine_258 : decode cX9_oneLine 258 = .ok (.ifCond .eq 45, 3) := by decide +kernel
theorem dX9_oneLine_261 : decode cX9_oneLine 261 = .ok (.aload_n 0, 1) := by decide +kernel
theorem dX9_oneLine_262 : decode cX9_oneLine 262 = .ok (.iconst 1, 1) := by decide +kernel
theorem dX9_oneLine_263 : decode cX9_oneLine 263 = .ok (.invokevirtual 301, 3) := by decide +kernel
theorem dX9_oneLine_266 : decode cX9_oneLine 266 = .ok (.istore_n 1, 1) := by decide +kernel
theorem dX9_oneLine_267 : decode cX9_oneLine 267 = .ok (.aload_n 0, 1) := by decide +kernel
theorem dX9_oneLine_268 : decode cX9_oneLine 268 = .ok (.iconst 1, 1) := by decide +kernel
theorem dX9_oneLine_269 : decode cX9_oneLine 269 = .ok (.invokevirtual 301, 3) := by decide +kernel
theorem dX9_oneLine_272 : decode cX9_oneLine 272 = .ok (.istore_n 2, 1) := by decide +kernel
theorem dX9_oneLine_273 : decode cX9_oneLine 273 = .ok (.aload_n 0, 1) := by decide +kernel
theorem dX9_oneLine_274 : decode cX9_oneLine 274 = .ok (.iconst 4, 1) := by decide +kernel
theorem dX9_oneLine_275 : decode cX9_oneLine 275 = .ok (.iload_n 1, 1) := by decide +kernel
theorem dX9_oneLine_276 : decode cX9_oneLine 276 = .ok (.iload_n 2, 1) := by decide +kernel
theorem dX9_oneLine_277 : decode cX9_oneLine 277 = .ok (.aload_n 0, 1) := by decide +kernel
theorem dX9_oneLine_278 : decode cX9_oneLine 278 = .ok (.invokevirtual 247, 3) := by decide +kernel
theorem dX9_oneLine_281 : decode cX9_oneLine 281 = .ok (.ifCond .eq 14, 3) := by decide +kernel
theorem dX9_oneLine_284 : decode cX9_oneLine 284 = .ok (.aload_n 0, 1) := by decide +kernel
theorem dX9_oneLine_285 : decode cX9_oneLine 285 = .ok (.iconst 0, 1) := by decide +kernel
theorem dX9_oneLine_286 : decode cX9_oneLine 286 = .ok (.sipush 999, 3) := by decide +kernel
theorem dX9_oneLine_289 : decode cX9_oneLine 289 = .ok (.invokevirtual 282, 3) := by decide +kernel
theorem dX9_oneLine_292 : decode cX9_oneLine 292 = .ok (.goto 4, 3) := by decide +kernel
theorem dX9_oneLine_295 : decode cX9_oneLine 295 = .ok (.iconst 0, 1) := by decide +kernel
theorem dX9_oneLine_296 : decode cX9_oneLine 296 = .ok (.iconst (-1), 1) := by decide +kernel
theorem dX9_oneLine_297 : decode cX9_oneLine 297 = .ok (.invokevirtual 305, 3) := by decide +kernel
theorem dX9_oneLine_300 : decode cX9_oneLine 300 = .ok (.goto 97, 3) := by decide +kernel
theorem dX9_oneLine_303 : decode cX9_oneLine 303 = .ok (.aload_n 0, 1) := by decide +kernel
theorem dX9_oneLine_304 : decode cX9_oneLine 304 = .ok (.ldc_w 349, 3) := by decide +kernel
theorem dX9_oneLine_307 : decode cX9_oneLine 307 = .ok (.invokevirtual 330, 3) := by decide +kernel
theorem dX9_oneLine_310 : decode cX9_oneLine 310 = .ok (.ifCond .eq 28, 3) := by decide +kernel
theorem dX9_oneLine_313 : decode cX9_oneLine 313 = .ok (.aload_n 0, 1) := by decide +kernel
theorem dX9_oneLine_314 : decode cX9_oneLine 314 = .ok (.iconst 1, 1) := by decide +kernel
theorem dX9_oneLine_315 : decode cX9_oneLine 315 = .ok (.invokevirtual 301, 3) := by decide +kernel
theorem dX9_oneLine_318 : decode cX9_oneLine 318 = .ok (.istore_n 1, 1) := by decide +kernel
theorem dX9_oneLine_319 : decode cX9_oneLine 319 = .ok (.aload_n 0, 1) := by decide +kernel
theorem dX9_oneLine_320 : decode cX9_oneLine 320 = .ok (.iconst 5, 1) := by decide +kernel
theorem dX9_oneLine_321 : decode cX9_oneLine 321 = .ok (.iload_n 1, 1) := by decide +kernel
theorem dX9_oneLine_322 : decode cX9_oneLine 322 = .ok (.iconst (-1), 1) := by decide +kernel
theorem dX9_oneLine_323 : decode cX9_oneLine 323 = .ok (.aload_n 0, 1) := by decide +kernel
theorem dX9_oneLine_324 : decode cX9_oneLine 324 = .ok (.iconst 0, 1) := by decide +kernel
theorem dX9_oneLine_325 : decode cX9_oneLine 325 = .ok (.sipush 999, 3) := by decide +kernel
theorem dX9_oneLine_328 : decode cX9_oneLine 328 = .ok (.invokevirtual 282, 3) := by decide +kernel
theorem dX9_oneLine_331 : decode cX9_oneLine 331 = .ok (.iconst (-1), 1) := by decide +kernel
theorem dX9_oneLine_332 : decode cX9_oneLine 332 = .ok (.invokevirtual 305, 3) := by decide +kernel
theorem dX9_oneLine_335 : decode cX9_oneLine 335 = .ok (.goto 62, 3) := by decide +kernel
theorem dX9_oneLine_338 : decode cX9_oneLine 338 = .ok (.aload_n 0, 1) := by decide +kernel
theorem dX9_oneLine_339 : decode cX9_oneLine 339 = .ok (.ldc_w 351, 3) := by decide +kernel
theorem dX9_oneLine_342 : decode cX9_oneLine 342 = .ok (.iconst 1, 1) := by decide +kernel
theorem dX9_oneLine_343 : decode cX9_oneLine 343 = .ok (.invokevirtual 315, 3) := by decide +kernel
theorem dX9_oneLine_346 : decode cX9_oneLine 346 = .ok (.ifCond .eq 18, 3) := by decide +kernel
theorem dX9_oneLine_349 : decode cX9_oneLine 349 = .ok (.aload_n 0, 1) := by decide +kernel
theorem dX9_oneLine_350 : decode cX9_oneLine 350 = .ok (.getfield 20, 3) := by decide +kernel
theorem dX9_oneLine_353 : decode cX9_oneLine 353 = .ok (.iconst 0, 1) := by decide +kernel
theorem dX9_oneLine_354 : decode cX9_oneLine 354 = .ok (.aload_n 0, 1) := by decide +kernel
theorem dX9_oneLine_355 : decode cX9_oneLine 355 = .ok (.iconst 1, 1) := by decide +kernel
theorem dX9_oneLine_356 : decode cX9_oneLine 356 = .ok (.iconst 3, 1) := by decide +kernel
theorem dX9_oneLine_357 : decode cX9_oneLine 357 = .ok (.invokevirtual 282, 3) := by decide +kernel
theorem dX9_oneLine_360 : decode cX9_oneLine 360 = .ok (.iastore, 1) := by decide +kernel
theorem dX9_oneLine_361 : decode cX9_oneLine 361 = .ok (.goto 36, 3) := by decide +kernel
theorem dX9_oneLine_364 : decode cX9_oneLine 364 = .ok (.aload_n 0, 1) := by decide +kernel
theorem dX9_oneLine_365 : decode cX9_oneLine 365 = .ok (.ldc_w 353, 3) := by decide +kernel
theorem dX9_oneLine_368 : decode cX9_oneLine 368 = .ok (.iconst 2, 1) := by decide +kernel
theorem dX9_oneLine_369 : decode cX9_oneLine 369 = .ok (.invokevirtual 315, 3) := by decide +kernel
theorem dX9_oneLine_372 : decode cX9_oneLine 372 = .ok (.ifCond .eq 16, 3) := by decide +kernel
theorem dX9_oneLine_375 : decode cX9_oneLine 375 = .ok (.aload_n 0, 1) := by decide +kernel
theorem dX9_oneLine_376 : decode cX9_oneLine 376 = .ok (.getfield 20, 3) := by decide +kernel
theorem dX9_oneLine_379 : decode cX9_oneLine 379 = .ok (.iconst 1, 1) := by decide +kernel
theorem dX9_oneLine_380 : decode cX9_oneLine 380 = .ok (.aload_n 0, 1) := by decide +kernel
theorem dX9_oneLine_381 : decode cX9_oneLine 381 = .ok (.invokevirtual 355, 3) := by decide +kernel
theorem dX9_oneLine_384 : decode cX9_oneLine 384 = .ok (.iastore, 1) := by decide +kernel
theorem dX9_oneLine_385 : decode cX9_oneLine 385 = .ok (.goto 12, 3) := by decide +kernel
theorem dX9_oneLine_388 : decode cX9_oneLine 388 = .ok (.aload_n 0, 1) := by decide +kernel
theorem dX9_oneLine_389 : decode cX9_oneLine 389 = .ok (.iconst 1, 1) := by decide +kernel
theorem dX9_oneLine_390 : decode cX9_oneLine 390 = .ok (.aload_n 0, 1) := by decide +kernel
theorem dX9_oneLine_391 : decode cX9_oneLine 391 = .ok (.getfield 209, 3) := by decide +kernel
theorem dX9_oneLine_394 : decode cX9_oneLine 394 = .ok (.invokevirtual 244, 3) := by decide +kernel
theorem dX9_oneLine_397 : decode cX9_oneLine 397 = .ok (.aload_n 0, 1) := by decide +kernel
theorem dX9_oneLine_398 : decode cX9_oneLine 398 = .ok (.bipush 59, 2) := by decide +kernel
theorem dX9_oneLine_400 : decode cX9_oneLine 400 = .ok (.invokevirtual 285, 3) := by decide +kernel
theorem dX9_oneLine_403 : decode cX9_oneLine 403 = .ok (.return_, 1) := by decide +kernel
theorem dX9_text_0 : decode cX9_text 0 = .ok (.aload_n 0, 1) := by decide +kernel
theorem dX9_text_1 : decode cX9_text 1 = .ok (.iconst 0, 1) := by decide +kernel
theorem dX9_text_2 : decode cX9_text 2 = .ok (.putfield 1, 3) := by decide +kernel
theorem dX9_text_5 : decode cX9_text 5 = .ok (.aload_n 0, 1) := by decide +kernel
theorem dX9_text_6 : decode cX9_text 6 = .ok (.iload_n 1, 1) := by decide +kernel
theorem dX9_text_7 : decode cX9_text 7 = .ok (.iconst 0, 1) := by decide +kernel
theorem dX9_text_8 : decode cX9_text 8 = .ok (.aload_n 0, 1) := by decide +kernel
theorem dX9_text_9 : decode cX9_text 9 = .ok (.getfield 197, 3) := by decide +kernel
theorem dX9_text_12 : decode cX9_text 12 = .ok (.invokestatic 251, 3) := by decide +kernel
theorem dX9_text_15 : decode cX9_text 15 = .ok (.iconst 1, 1) := by decide +kernel
theorem dX9_text_16 : decode cX9_text 16 = .ok (.iconst 1, 1) := by decide +kernel
theorem dX9_text_17 : decode cX9_text 17 = .ok (.invokevirtual 358, 3) := by decide +kernel
theorem dX9_text_20 : decode cX9_text 20 = .ok (.ifCond .ne 5, 3) := by decide +kernel
theorem dX9_text_23 : decode cX9_text 23 = .ok (.iconst 0, 1) := by decide +kernel
theorem dX9_text_24 : decode cX9_text 24 = .ok (.ireturn, 1) := by decide +kernel
theorem dX9_text_25 : decode cX9_text 25 = .ok (.iconst 0, 1) := by decide +kernel
theorem dX9_text_26 : decode cX9_text 26 = .ok (.istore_n 2, 1) := by decide +kernel
theorem dX9_text_27 : decode cX9_text 27 = .ok (.iload_n 2, 1) := by decide +kernel
theorem dX9_text_28 : decode cX9_text 28 = .ok (.iload_n 1, 1) := by decide +kernel
theorem dX9_text_29 : decode cX9_text 29 = .ok (.if_icmp .ge 21, 3) := by decide +kernel
theorem dX9_text_32 : decode cX9_text 32 = .ok (.aload_n 0, 1) := by decide +kernel
theorem dX9_text_33 : decode cX9_text 33 = .ok (.getfield 69, 3) := by decide +kernel
theorem dX9_text_36 : decode cX9_text 36 = .ok (.iload_n 2, 1) := by decide +kernel
theorem dX9_text_37 : decode cX9_text 37 = .ok (.aload_n 0, 1) := by decide +kernel
theorem dX9_text_38 : decode cX9_text 38 = .ok (.getfield 65, 3) := by decide +kernel
theorem dX9_text_41 : decode cX9_text 41 = .ok (.iload_n 2, 1) := by decide +kernel
theorem dX9_text_42 : decode cX9_text 42 = .ok (.baload, 1) := by decide +kernel
theorem dX9_text_43 : decode cX9_text 43 = .ok (.bastore, 1) := by decide +kernel
theorem dX9_text_44 : decode cX9_text 44 = .ok (.iinc 2 1, 3) := by decide +kernel
theorem dX9_text_47 : decode cX9_text 47 = .ok (.goto (-20), 3) := by decide +kernel
theorem dX9_text_50 : decode cX9_text 50 = .ok (.aload_n 0, 1) := by decide +kernel
theorem dX9_text_51 : decode cX9_text 51 = .ok (.iconst 0, 1) := by decide +kernel
theorem dX9_text_52 : decode cX9_text 52 = .ok (.putfield 197, 3) := by decide +kernel
theorem dX9_text_55 : decode cX9_text 55 = .ok (.aload_n 0, 1) := by decide +kernel
theorem dX9_text_56 : decode cX9_text 56 = .ok (.iload_n 1, 1) := by decide +kernel
theorem dX9_text_57 : decode cX9_text 57 = .ok (.putfield 212, 3) := by decide +kernel
theorem dX9_text_60 : decode cX9_text 60 = .ok (.aload_n 0, 1) := by decide +kernel
theorem dX9_text_61 : decode cX9_text 61 = .ok (.iconst 0, 1) := by decide +kernel
theorem dX9_text_62 : decode cX9_text 62 = .ok (.putfield 209, 3) := by decide +kernel
theorem dX9_text_65 : decode cX9_text 65 = .ok (.aload_n 0, 1) := by decide +kernel
theorem dX9_text_66 : decode cX9_text 66 = .ok (.iconst 0, 1) := by decide +kernel
theorem dX9_text_67 : decode cX9_text 67 = .ok (.putfield 203, 3) := by decide +kernel
theorem dX9_text_70 : decode cX9_text 70 = .ok (.aload_n 0, 1) := by decide +kernel
theorem dX9_text_71 : decode cX9_text 71 = .ok (.iconst 0, 1) := by decide +kernel
theorem dX9_text_72 : decode cX9_text 72 = .ok (.putfield 308, 3) := by decide +kernel
theorem dX9_text_75 : decode cX9_text 75 = .ok (.aload_n 0, 1) := by decide +kernel
theorem dX9_text_76 : decode cX9_text 76 = .ok (.iconst 0, 1) := by decide +kernel
theorem dX9_text_77 : decode cX9_text 77 = .ok (.putfield 267, 3) := by decide +kernel
theorem dX9_text_80 : decode cX9_text 80 = .ok (.aload_n 0, 1) := by decide +kernel
theorem dX9_text_81 : decode cX9_text 81 = .ok (.iconst 0, 1) := by decide +kernel
theorem dX9_text_82 : decode cX9_text 82 = .ok (.putfield 270, 3) := by decide +kernel
theorem dX9_text_85 : decode cX9_text 85 = .ok (.iconst 0, 1) := by decide +kernel
theorem dX9_text_86 : decode cX9_text 86 = .ok (.istore_n 2, 1) := by decide +kernel
theorem dX9_text_87 : decode cX9_text 87 = .ok (.iload_n 2, 1) := by decide +kernel
theorem dX9_text_88 : decode cX9_text 88 = .ok (.sipush 303, 3) := by decide +kernel
theorem dX9_text_91 : decode cX9_text 91 = .ok (.if_icmp .ge 16, 3) := by decide +kernel
theorem dX9_text_94 : decode cX9_text 94 = .ok (.aload_n 0, 1) := by decide +kernel
theorem dX9_text_95 : decode cX9_text 95 = .ok (.getfield 20, 3) := by decide +kernel
theorem dX9_text_98 : decode cX9_text 98 = .ok (.iload_n 2, 1) := by decide +kernel
theorem dX9_text_99 : decode cX9_text 99 = .ok (.iconst 0, 1) := by decide +kernel
theorem dX9_text_100 : decode cX9_text 100 = .ok (.iastore, 1) := by decide +kernel
theorem dX9_text_101 : decode cX9_text 101 = .ok (.iinc 2 1, 3) := by decide +kernel
theorem dX9_text_104 : decode cX9_text 104 = .ok (.goto (-17), 3) := by decide +kernel
theorem dX9_text_107 : decode cX9_text 107 = .ok (.aload_n 0, 1) := by decide +kernel
theorem dX9_text_108 : decode cX9_text 108 = .ok (.getfield 20, 3) := by decide +kernel
theorem dX9_text_111 : decode cX9_text 111 = .ok (.iconst 0, 1) := by decide +kernel
theorem dX9_text_112 : decode cX9_text 112 = .ok (.iconst 1, 1) := by decide +kernel
theorem dX9_text_113 : decode cX9_text 113 = .ok (.iastore, 1) := by decide +kernel
theorem dX9_text_114 : decode cX9_text 114 = .ok (.aload_n 0, 1) := by decide +kernel
theorem dX9_text_115 : decode cX9_text 115 = .ok (.invokevirtual 362, 3) := by decide +kernel
theorem dX9_text_118 : decode cX9_text 118 = .ok (.aload_n 0, 1) := by decide +kernel
theorem dX9_text_119 : decode cX9_text 119 = .ok (.getfield 203, 3) := by decide +kernel
theorem dX9_text_122 : decode cX9_text 122 = .ok (.ifCond .ne 28, 3) := by decide +kernel
theorem dX9_text_125 : decode cX9_text 125 = .ok (.aload_n 0, 1) := by decide +kernel
theorem dX9_text_126 : decode cX9_text 126 = .ok (.invokevirtual 214, 3) := by decide +kernel
theorem dX9_text_129 : decode cX9_text 129 = .ok (.ifCond .ne 14, 3) := by decide +kernel
theorem dX9_text_132 : decode cX9_text 132 = .ok (.aload_n 0, 1) := by decide +kernel
theorem dX9_text_133 : decode cX9_text 133 = .ok (.getfield 209, 3) := by decide +kernel
theorem dX9_text_136 : decode cX9_text 136 = .ok (.aload_n 0, 1) := by decide +kernel
theorem dX9_text_137 : decode cX9_text 137 = .ok (.getfield 212, 3) := by decide +kernel
theorem dX9_text_140 : decode cX9_text 140 = .ok (.if_icmp .ge 10, 3) := by decide +kernel
theorem dX9_text_143 : decode cX9_text 143 = .ok (.aload_n 0, 1) := by decide +kernel
theorem dX9_text_144 : decode cX9_text 144 = .ok (.invokevirtual 362, 3) := by decide +kernel
theorem dX9_text_147 : decode cX9_text 147 = .ok (.goto (-29), 3) := by decide +kernel
theorem dX9_text_150 : decode cX9_text 150 = .ok (.aload_n 0, 1) := by decide +kernel
theorem dX9_text_151 : decode cX9_text 151 = .ok (.aload_n 0, 1) := by decide +kernel
theorem dX9_text_152 : decode cX9_text 152 = .ok (.getfield 203, 3) := by decide +kernel
theorem dX9_text_155 : decode cX9_text 155 = .ok (.ifCond .le 10, 3) := by decide +kernel
theorem dX9_text_158 : decode cX9_text 158 = .ok (.aload_n 0, 1) := by decide +kernel
theorem dX9_text_159 : decode cX9_text 159 = .ok (.getfield 206, 3) := by decide +kernel
theorem dX9_text_162 : decode cX9_text 162 = .ok (.goto 4, 3) := by decide +kernel
theorem dX9_text_165 : decode cX9_text 165 = .ok (.iconst (-1), 1) := by decide +kernel
theorem dX9_text_166 : decode cX9_text 166 = .ok (.putfield 90, 3) := by decide +kernel
theorem dX9_text_169 : decode cX9_text 169 = .ok (.aload_n 0, 1) := by decide +kernel
theorem dX9_text_170 : decode cX9_text 170 = .ok (.getfield 203, 3) := by decide +kernel
theorem dX9_text_173 : decode cX9_text 173 = .ok (.ifCond .le 11, 3) := by decide +kernel
theorem dX9_text_176 : decode cX9_text 176 = .ok (.aload_n 0, 1) := by decide +kernel
theorem dX9_text_177 : decode cX9_text 177 = .ok (.getfield 203, 3) := by decide +kernel
theorem dX9_text_180 : decode cX9_text 180 = .ok (.bipush 10, 2) := by decide +kernel
theorem dX9_text_182 : decode cX9_text 182 = .ok (.isub, 1) := by decide +kernel
theorem dX9_text_183 : decode cX9_text 183 = .ok (.ireturn, 1) := by decide +kernel
theorem dX9_text_184 : decode cX9_text 184 = .ok (.iconst 0, 1) := by decide +kernel
theorem dX9_text_185 : decode cX9_text 185 = .ok (.istore_n 2, 1) := by decide +kernel
theorem dX9_text_186 : decode cX9_text 186 = .ok (.iload_n 2, 1) := by decide +kernel
theorem dX9_text_187 : decode cX9_text 187 = .ok (.sipush 303, 3) := by decide +kernel
theorem dX9_text_190 : decode cX9_text 190 = .ok (.if_icmp .ge 21, 3) := by decide +kernel
theorem dX9_text_193 : decode cX9_text 193 = .ok (.aload_n 0, 1) := by decide +kernel
theorem dX9_text_194 : decode cX9_text 194 = .ok (.getfield 17, 3) := by decide +kernel
theorem dX9_text_197 : decode cX9_text 197 = .ok (.iload_n 2, 1) := by decide +kernel
theorem dX9_text_198 : decode cX9_text 198 = .ok (.aload_n 0, 1) := by decide +kernel
theorem dX9_text_199 : decode cX9_text 199 = .ok (.getfield 20, 3) := by decide +kernel
theorem dX9_text_202 : decode cX9_text 202 = .ok (.iload_n 2, 1) := by decide +kernel
theorem dX9_text_203 : decode cX9_text 203 = .ok (.iaload, 1) := by decide +kernel
theorem dX9_text_204 : decode cX9_text 204 = .ok (.iastore, 1) := by decide +kernel
theorem dX9_text_205 : decode cX9_text 205 = .ok (.iinc 2 1, 3) := by decide +kernel
theorem dX9_text_208 : decode cX9_text 208 = .ok (.goto (-22), 3) := by decide +kernel
theorem dX9_text_211 : decode cX9_text 211 = .ok (.aload_n 0, 1) := by decide +kernel
theorem dX9_text_212 : decode cX9_text 212 = .ok (.invokevirtual 365, 3) := by decide +kernel
theorem dX9_text_215 : decode cX9_text 215 = .ok (.aload_n 0, 1) := by decide +kernel
theorem dX9_text_216 : decode cX9_text 216 = .ok (.getfield 184, 3) := by decide +kernel
theorem dX9_text_219 : decode cX9_text 219 = .ok (.ireturn, 1) := by decide +kernel
theorem dX9_takesOver_0 : decode cX9_takesOver 0 = .ok (.aload_n 0, 1) := by decide +kernel
theorem dX9_takesOver_1 : decode cX9_takesOver 1 = .ok (.aload_n 0, 1) := by decide +kernel
theorem dX9_takesOver_2 : decode cX9_takesOver 2 = .ok (.getfield 288, 3) := by decide +kernel
theorem dX9_takesOver_5 : decode cX9_takesOver 5 = .ok (.putfield 99, 3) := by decide +kernel
theorem dX9_takesOver_8 : decode cX9_takesOver 8 = .ok (.aload_n 0, 1) := by decide +kernel
theorem dX9_takesOver_9 : decode cX9_takesOver 9 = .ok (.iconst 0, 1) := by decide +kernel
theorem dX9_takesOver_10 : decode cX9_takesOver 10 = .ok (.putfield 178, 3) := by decide +kernel
theorem dX9_takesOver_13 : decode cX9_takesOver 13 = .ok (.aload_n 0, 1) := by decide +kernel
theorem dX9_takesOver_14 : decode cX9_takesOver 14 = .ok (.aload_n 0, 1) := by decide +kernel
theorem dX9_takesOver_15 : decode cX9_takesOver 15 = .ok (.getfield 267, 3) := by decide +kernel
theorem dX9_takesOver_18 : decode cX9_takesOver 18 = .ok (.putfield 184, 3) := by decide +kernel
theorem dX9_takesOver_21 : decode cX9_takesOver 21 = .ok (.aload_n 0, 1) := by decide +kernel
theorem dX9_takesOver_22 : decode cX9_takesOver 22 = .ok (.aload_n 0, 1) := by decide +kernel
theorem dX9_takesOver_23 : decode cX9_takesOver 23 = .ok (.getfield 270, 3) := by decide +kernel
theorem dX9_takesOver_26 : decode cX9_takesOver 26 = .ok (.putfield 368, 3) := by decide +kernel
theorem dX9_takesOver_29 : decode cX9_takesOver 29 = .ok (.aload_n 0, 1) := by decide +kernel
theorem dX9_takesOver_30 : decode cX9_takesOver 30 = .ok (.iconst 0, 1) := by decide +kernel
theorem dX9_takesOver_31 : decode cX9_takesOver 31 = .ok (.putfield 371, 3) := by decide +kernel
theorem dX9_takesOver_34 : decode cX9_takesOver 34 = .ok (.iconst 0, 1) := by decide +kernel
theorem dX9_takesOver_35 : decode cX9_takesOver 35 = .ok (.istore_n 1, 1) := by decide +kernel
theorem dX9_takesOver_36 : decode cX9_takesOver 36 = .ok (.iload_n 1, 1) := by decide +kernel
theorem dX9_takesOver_37 : decode cX9_takesOver 37 = .ok (.bipush 16, 2) := by decide +kernel
theorem dX9_takesOver_39 : decode cX9_takesOver 39 = .ok (.if_icmp .ge 33, 3) := by decide +kernel
theorem dX9_takesOver_42 : decode cX9_takesOver 42 = .ok (.aload_n 0, 1) := by decide +kernel
theorem dX9_takesOver_43 : decode cX9_takesOver 43 = .ok (.getfield 26, 3) := by decide +kernel
theorem dX9_takesOver_46 : decode cX9_takesOver 46 = .ok (.iload_n 1, 1) := by decide +kernel
theorem dX9_takesOver_47 : decode cX9_takesOver 47 = .ok (.aload_n 0, 1) := by decide +kernel
theorem dX9_takesOver_48 : decode cX9_takesOver 48 = .ok (.getfield 75, 3) := by decide +kernel
theorem dX9_takesOver_51 : decode cX9_takesOver 51 = .ok (.iload_n 1, 1) := by decide +kernel
theorem dX9_takesOver_52 : decode cX9_takesOver 52 = .ok (.iaload, 1) := by decide +kernel
theorem dX9_takesOver_53 : decode cX9_takesOver 53 = .ok (.iastore, 1) := by decide +kernel
theorem dX9_takesOver_54 : decode cX9_takesOver 54 = .ok (.aload_n 0, 1) := by decide +kernel
theorem dX9_takesOver_55 : decode cX9_takesOver 55 = .ok (.getfield 29, 3) := by decide +kernel
theorem dX9_takesOver_58 : decode cX9_takesOver 58 = .ok (.iload_n 1, 1) := by decide +kernel
theorem dX9_takesOver_59 : decode cX9_takesOver 59 = .ok (.aload_n 0, 1) := by decide +kernel
theorem dX9_takesOver_60 : decode cX9_takesOver 60 = .ok (.getfield 78, 3) := by decide +kernel
theorem dX9_takesOver_63 : decode cX9_takesOver 63 = .ok (.iload_n 1, 1) := by decide +kernel
theorem dX9_takesOver_64 : decode cX9_takesOver 64 = .ok (.iaload, 1) := by decide +kernel
theorem dX9_takesOver_65 : decode cX9_takesOver 65 = .ok (.iastore, 1) := by decide +kernel
theorem dX9_takesOver_66 : decode cX9_takesOver 66 = .ok (.iinc 1 1, 3) := by decide +kernel
theorem dX9_takesOver_69 : decode cX9_takesOver 69 = .ok (.goto (-33), 3) := by decide +kernel
theorem dX9_takesOver_72 : decode cX9_takesOver 72 = .ok (.iconst 0, 1) := by decide +kernel
theorem dX9_takesOver_73 : decode cX9_takesOver 73 = .ok (.istore_n 1, 1) := by decide +kernel
theorem dX9_takesOver_74 : decode cX9_takesOver 74 = .ok (.iload_n 1, 1) := by decide +kernel
theorem dX9_takesOver_75 : decode cX9_takesOver 75 = .ok (.iconst 4, 1) := by decide +kernel
theorem dX9_takesOver_76 : decode cX9_takesOver 76 = .ok (.if_icmp .ge 21, 3) := by decide +kernel
theorem dX9_takesOver_79 : decode cX9_takesOver 79 = .ok (.aload_n 0, 1) := by decide +kernel
theorem dX9_takesOver_80 : decode cX9_takesOver 80 = .ok (.getfield 32, 3) := by decide +kernel
theorem dX9_takesOver_83 : decode cX9_takesOver 83 = .ok (.iload_n 1, 1) := by decide +kernel
theorem dX9_takesOver_84 : decode cX9_takesOver 84 = .ok (.aload_n 0, 1) := by decide +kernel
theorem dX9_takesOver_85 : decode cX9_takesOver 85 = .ok (.getfield 81, 3) := by decide +kernel
theorem dX9_takesOver_88 : decode cX9_takesOver 88 = .ok (.iload_n 1, 1) := by decide +kernel
theorem dX9_takesOver_89 : decode cX9_takesOver 89 = .ok (.iaload, 1) := by decide +kernel
theorem dX9_takesOver_90 : decode cX9_takesOver 90 = .ok (.iastore, 1) := by decide +kernel
theorem dX9_takesOver_91 : decode cX9_takesOver 91 = .ok (.iinc 1 1, 3) := by decide +kernel
theorem dX9_takesOver_94 : decode cX9_takesOver 94 = .ok (.goto (-20), 3) := by decide +kernel
theorem dX9_takesOver_97 : decode cX9_takesOver 97 = .ok (.iconst 0, 1) := by decide +kernel
theorem dX9_takesOver_98 : decode cX9_takesOver 98 = .ok (.istore_n 1, 1) := by decide +kernel
theorem dX9_takesOver_99 : decode cX9_takesOver 99 = .ok (.iload_n 1, 1) := by decide +kernel
theorem dX9_takesOver_100 : decode cX9_takesOver 100 = .ok (.bipush 24, 2) := by decide +kernel
theorem dX9_takesOver_102 : decode cX9_takesOver 102 = .ok (.if_icmp .ge 21, 3) := by decide +kernel
theorem dX9_takesOver_105 : decode cX9_takesOver 105 = .ok (.aload_n 0, 1) := by decide +kernel
theorem dX9_takesOver_106 : decode cX9_takesOver 106 = .ok (.getfield 35, 3) := by decide +kernel
theorem dX9_takesOver_109 : decode cX9_takesOver 109 = .ok (.iload_n 1, 1) := by decide +kernel
theorem dX9_takesOver_110 : decode cX9_takesOver 110 = .ok (.aload_n 0, 1) := by decide +kernel
theorem dX9_takesOver_111 : decode cX9_takesOver 111 = .ok (.getfield 84, 3) := by decide +kernel
theorem dX9_takesOver_114 : decode cX9_takesOver 114 = .ok (.iload_n 1, 1) := by decide +kernel
theorem dX9_takesOver_115 : decode cX9_takesOver 115 = .ok (.iaload, 1) := by decide +kernel
theorem dX9_takesOver_116 : decode cX9_takesOver 116 = .ok (.iastore, 1) := by decide +kernel
theorem dX9_takesOver_117 : decode cX9_takesOver 117 = .ok (.iinc 1 1, 3) := by decide +kernel
theorem dX9_takesOver_120 : decode cX9_takesOver 120 = .ok (.goto (-21), 3) := by decide +kernel
theorem dX9_takesOver_123 : decode cX9_takesOver 123 = .ok (.return_, 1) := by decide +kernel
theorem dX9_fault_0 : decode cX9_fault 0 = .ok (.aload_n 0, 1) := by decide +kernel
theorem dX9_fault_1 : decode cX9_fault 1 = .ok (.iconst 0, 1) := by decide +kernel
theorem dX9_fault_2 : decode cX9_fault 2 = .ok (.putfield 1, 3) := by decide +kernel
theorem dX9_fault_5 : decode cX9_fault 5 = .ok (.aload_n 0, 1) := by decide +kernel
theorem dX9_fault_6 : decode cX9_fault 6 = .ok (.getfield 90, 3) := by decide +kernel
theorem dX9_fault_9 : decode cX9_fault 9 = .ok (.ireturn, 1) := by decide +kernel
theorem dX9_laysBack_0 : decode cX9_laysBack 0 = .ok (.aload_n 0, 1) := by decide +kernel
theorem dX9_laysBack_1 : decode cX9_laysBack 1 = .ok (.getfield 371, 3) := by decide +kernel
theorem dX9_laysBack_4 : decode cX9_laysBack 4 = .ok (.bipush 12, 2) := by decide +kernel
theorem dX9_laysBack_6 : decode cX9_laysBack 6 = .ok (.if_icmp .ne 44, 3) := by decide +kernel
theorem dX9_laysBack_9 : decode cX9_laysBack 9 = .ok (.iconst 0, 1) := by decide +kernel
theorem dX9_laysBack_10 : decode cX9_laysBack 10 = .ok (.istore_n 1, 1) := by decide +kernel
theorem dX9_laysBack_11 : decode cX9_laysBack 11 = .ok (.iload_n 1, 1) := by decide +kernel
theorem dX9_laysBack_12 : decode cX9_laysBack 12 = .ok (.sipush 3333, 3) := by decide +kernel
theorem dX9_laysBack_15 : decode cX9_laysBack 15 = .ok (.if_icmp .ge 25, 3) := by decide +kernel
theorem dX9_laysBack_18 : decode cX9_laysBack 18 = .ok (.aload_n 0, 1) := by decide +kernel
theorem dX9_laysBack_19 : decode cX9_laysBack 19 = .ok (.getfield 23, 3) := by decide +kernel
theorem dX9_laysBack_22 : decode cX9_laysBack 22 = .ok (.iload_n 1, 1) := by decide +kernel
theorem dX9_laysBack_23 : decode cX9_laysBack 23 = .ok (.aload_n 0, 1) := by decide +kernel
theorem dX9_laysBack_24 : decode cX9_laysBack 24 = .ok (.getfield 23, 3) := by decide +kernel
theorem dX9_laysBack_27 : decode cX9_laysBack 27 = .ok (.iload_n 1, 1) := by decide +kernel
theorem dX9_laysBack_28 : decode cX9_laysBack 28 = .ok (.sipush 303, 3) := by decide +kernel
theorem dX9_laysBack_31 : decode cX9_laysBack 31 = .ok (.iadd, 1) := by decide +kernel
theorem dX9_laysBack_32 : decode cX9_laysBack 32 = .ok (.iaload, 1) := by decide +kernel
theorem dX9_laysBack_33 : decode cX9_laysBack 33 = .ok (.iastore, 1) := by decide +kernel
theorem dX9_laysBack_34 : decode cX9_laysBack 34 = .ok (.iinc 1 1, 3) := by decide +kernel
theorem dX9_laysBack_37 : decode cX9_laysBack 37 = .ok (.goto (-26), 3) := by decide +kernel
theorem dX9_laysBack_40 : decode cX9_laysBack 40 = .ok (.aload_n 0, 1) := by decide +kernel
theorem dX9_laysBack_41 : decode cX9_laysBack 41 = .ok (.dup, 1) := by decide +kernel
theorem dX9_laysBack_42 : decode cX9_laysBack 42 = .ok (.getfield 371, 3) := by decide +kernel
theorem dX9_laysBack_45 : decode cX9_laysBack 45 = .ok (.iconst 1, 1) := by decide +kernel
theorem dX9_laysBack_46 : decode cX9_laysBack 46 = .ok (.isub, 1) := by decide +kernel
theorem dX9_laysBack_47 : decode cX9_laysBack 47 = .ok (.putfield 371, 3) := by decide +kernel
theorem dX9_laysBack_50 : decode cX9_laysBack 50 = .ok (.iconst 0, 1) := by decide +kernel
theorem dX9_laysBack_51 : decode cX9_laysBack 51 = .ok (.istore_n 1, 1) := by decide +kernel
theorem dX9_laysBack_52 : decode cX9_laysBack 52 = .ok (.iload_n 1, 1) := by decide +kernel
theorem dX9_laysBack_53 : decode cX9_laysBack 53 = .ok (.sipush 303, 3) := by decide +kernel
theorem dX9_laysBack_56 : decode cX9_laysBack 56 = .ok (.if_icmp .ge 30, 3) := by decide +kernel
theorem dX9_laysBack_59 : decode cX9_laysBack 59 = .ok (.aload_n 0, 1) := by decide +kernel
theorem dX9_laysBack_60 : decode cX9_laysBack 60 = .ok (.getfield 23, 3) := by decide +kernel
theorem dX9_laysBack_63 : decode cX9_laysBack 63 = .ok (.sipush 303, 3) := by decide +kernel
theorem dX9_laysBack_66 : decode cX9_laysBack 66 = .ok (.aload_n 0, 1) := by decide +kernel
theorem dX9_laysBack_67 : decode cX9_laysBack 67 = .ok (.getfield 371, 3) := by decide +kernel
theorem dX9_laysBack_70 : decode cX9_laysBack 70 = .ok (.imul, 1) := by decide +kernel
theorem dX9_laysBack_71 : decode cX9_laysBack 71 = .ok (.iload_n 1, 1) := by decide +kernel
theorem dX9_laysBack_72 : decode cX9_laysBack 72 = .ok (.iadd, 1) := by decide +kernel
theorem dX9_laysBack_73 : decode cX9_laysBack 73 = .ok (.aload_n 0, 1) := by decide +kernel
theorem dX9_laysBack_74 : decode cX9_laysBack 74 = .ok (.getfield 17, 3) := by decide +kernel
theorem dX9_laysBack_77 : decode cX9_laysBack 77 = .ok (.iload_n 1, 1) := by decide +kernel
theorem dX9_laysBack_78 : decode cX9_laysBack 78 = .ok (.iaload, 1) := by decide +kernel
theorem dX9_laysBack_79 : decode cX9_laysBack 79 = .ok (.iastore, 1) := by decide +kernel
theorem dX9_laysBack_80 : decode cX9_laysBack 80 = .ok (.iinc 1 1, 3) := by decide +kernel
theorem dX9_laysBack_83 : decode cX9_laysBack 83 = .ok (.goto (-31), 3) := by decide +kernel
theorem dX9_laysBack_86 : decode cX9_laysBack 86 = .ok (.aload_n 0, 1) := by decide +kernel
theorem dX9_laysBack_87 : decode cX9_laysBack 87 = .ok (.dup, 1) := by decide +kernel
theorem dX9_laysBack_88 : decode cX9_laysBack 88 = .ok (.getfield 371, 3) := by decide +kernel
theorem dX9_laysBack_91 : decode cX9_laysBack 91 = .ok (.iconst 1, 1) := by decide +kernel
theorem dX9_laysBack_92 : decode cX9_laysBack 92 = .ok (.iadd, 1) := by decide +kernel
theorem dX9_laysBack_93 : decode cX9_laysBack 93 = .ok (.putfield 371, 3) := by decide +kernel
theorem dX9_laysBack_96 : decode cX9_laysBack 96 = .ok (.return_, 1) := by decide +kernel
theorem dX9_isSample_0 : decode cX9_isSample 0 = .ok (.aload_n 0, 1) := by decide +kernel
theorem dX9_isSample_1 : decode cX9_isSample 1 = .ok (.iload_n 1, 1) := by decide +kernel
theorem dX9_isSample_2 : decode cX9_isSample 2 = .ok (.iconst 0, 1) := by decide +kernel
theorem dX9_isSample_3 : decode cX9_isSample 3 = .ok (.aload_n 0, 1) := by decide +kernel
theorem dX9_isSample_4 : decode cX9_isSample 4 = .ok (.getfield 184, 3) := by decide +kernel
theorem dX9_isSample_7 : decode cX9_isSample 7 = .ok (.iconst 1, 1) := by decide +kernel
theorem dX9_isSample_8 : decode cX9_isSample 8 = .ok (.isub, 1) := by decide +kernel
theorem dX9_isSample_9 : decode cX9_isSample 9 = .ok (.invokestatic 251, 3) := by decide +kernel
theorem dX9_isSample_12 : decode cX9_isSample 12 = .ok (.iconst 1, 1) := by decide +kernel
theorem dX9_isSample_13 : decode cX9_isSample 13 = .ok (.iconst 0, 1) := by decide +kernel
theorem dX9_isSample_14 : decode cX9_isSample 14 = .ok (.invokevirtual 358, 3) := by decide +kernel
theorem dX9_isSample_17 : decode cX9_isSample 17 = .ok (.ireturn, 1) := by decide +kernel
theorem dX9_isRule_0 : decode cX9_isRule 0 = .ok (.aload_n 0, 1) := by decide +kernel
theorem dX9_isRule_1 : decode cX9_isRule 1 = .ok (.iload_n 1, 1) := by decide +kernel
theorem dX9_isRule_2 : decode cX9_isRule 2 = .ok (.iconst 0, 1) := by decide +kernel
theorem dX9_isRule_3 : decode cX9_isRule 3 = .ok (.aload_n 0, 1) := by decide +kernel
theorem dX9_isRule_4 : decode cX9_isRule 4 = .ok (.getfield 17, 3) := by decide +kernel
theorem dX9_isRule_7 : decode cX9_isRule 7 = .ok (.iconst 2, 1) := by decide +kernel
theorem dX9_isRule_8 : decode cX9_isRule 8 = .ok (.iaload, 1) := by decide +kernel
theorem dX9_isRule_9 : decode cX9_isRule 9 = .ok (.iconst 1, 1) := by decide +kernel
theorem dX9_isRule_10 : decode cX9_isRule 10 = .ok (.isub, 1) := by decide +kernel
theorem dX9_isRule_11 : decode cX9_isRule 11 = .ok (.invokestatic 251, 3) := by decide +kernel
theorem dX9_isRule_14 : decode cX9_isRule 14 = .ok (.iconst 1, 1) := by decide +kernel
theorem dX9_isRule_15 : decode cX9_isRule 15 = .ok (.iconst 0, 1) := by decide +kernel
theorem dX9_isRule_16 : decode cX9_isRule 16 = .ok (.invokevirtual 358, 3) := by decide +kernel
theorem dX9_isRule_19 : decode cX9_isRule 19 = .ok (.ireturn, 1) := by decide +kernel
theorem dX9_isPhase_0 : decode cX9_isPhase 0 = .ok (.aload_n 0, 1) := by decide +kernel
theorem dX9_isPhase_1 : decode cX9_isPhase 1 = .ok (.iload_n 1, 1) := by decide +kernel
theorem dX9_isPhase_2 : decode cX9_isPhase 2 = .ok (.iconst 0, 1) := by decide +kernel
theorem dX9_isPhase_3 : decode cX9_isPhase 3 = .ok (.aload_n 0, 1) := by decide +kernel
theorem dX9_isPhase_4 : decode cX9_isPhase 4 = .ok (.getfield 368, 3) := by decide +kernel
theorem dX9_isPhase_7 : decode cX9_isPhase 7 = .ok (.iconst 1, 1) := by decide +kernel
theorem dX9_isPhase_8 : decode cX9_isPhase 8 = .ok (.isub, 1) := by decide +kernel
theorem dX9_isPhase_9 : decode cX9_isPhase 9 = .ok (.invokestatic 251, 3) := by decide +kernel
theorem dX9_isPhase_12 : decode cX9_isPhase 12 = .ok (.iconst 1, 1) := by decide +kernel
theorem dX9_isPhase_13 : decode cX9_isPhase 13 = .ok (.iconst 0, 1) := by decide +kernel
theorem dX9_isPhase_14 : decode cX9_isPhase 14 = .ok (.invokevirtual 358, 3) := by decide +kernel
theorem dX9_isPhase_17 : decode cX9_isPhase 17 = .ok (.ireturn, 1) := by decide +kernel
theorem dX9_set_0 : decode cX9_set 0 = .ok (.aload_n 0, 1) := by decide +kernel
theorem dX9_set_1 : decode cX9_set 1 = .ok (.iconst 0, 1) := by decide +kernel
theorem dX9_set_2 : decode cX9_set 2 = .ok (.putfield 1, 3) := by decide +kernel
theorem dX9_set_5 : decode cX9_set 5 = .ok (.aload_n 0, 1) := by decide +kernel
theorem dX9_set_6 : decode cX9_set 6 = .ok (.iload_n 1, 1) := by decide +kernel
theorem dX9_set_7 : decode cX9_set 7 = .ok (.ifCond .ne 12, 3) := by decide +kernel
theorem dX9_set_10 : decode cX9_set 10 = .ok (.iload_n 2, 1) := by decide +kernel
theorem dX9_set_11 : decode cX9_set 11 = .ok (.iconst 1, 1) := by decide +kernel
theorem dX9_set_12 : decode cX9_set 12 = .ok (.iconst 3, 1) := by decide +kernel
theorem dX9_set_13 : decode cX9_set 13 = .ok (.invokestatic 251, 3) := by decide +kernel
theorem dX9_set_16 : decode cX9_set 16 = .ok (.goto 26, 3) := by decide +kernel
theorem dX9_set_19 : decode cX9_set 19 = .ok (.iload_n 1, 1) := by decide +kernel
theorem dX9_set_20 : decode cX9_set 20 = .ok (.iconst 1, 1) := by decide +kernel
theorem dX9_set_21 : decode cX9_set 21 = .ok (.if_icmp .ne 20, 3) := by decide +kernel
theorem dX9_set_24 : decode cX9_set 24 = .ok (.iload_n 2, 1) := by decide +kernel
theorem dX9_set_25 : decode cX9_set 25 = .ok (.sipush (-500), 3) := by decide +kernel
theorem dX9_set_28 : decode cX9_set 28 = .ok (.sipush 500, 3) := by decide +kernel
theorem dX9_set_31 : decode cX9_set 31 = .ok (.invokestatic 251, 3) := by decide +kernel
theorem dX9_set_34 : decode cX9_set 34 = .ok (.ifCond .eq 7, 3) := by decide +kernel
theorem dX9_set_37 : decode cX9_set 37 = .ok (.iconst 1, 1) := by decide +kernel
theorem dX9_set_38 : decode cX9_set 38 = .ok (.goto 4, 3) := by decide +kernel
theorem dX9_set_41 : decode cX9_set 41 = .ok (.iconst 0, 1) := by decide +kernel
theorem dX9_set_42 : decode cX9_set 42 = .ok (.iconst 1, 1) := by decide +kernel
theorem dX9_set_43 : decode cX9_set 43 = .ok (.iconst 1, 1) := by decide +kernel
theorem dX9_set_44 : decode cX9_set 44 = .ok (.invokevirtual 358, 3) := by decide +kernel
theorem dX9_set_47 : decode cX9_set 47 = .ok (.ifCond .ne 5, 3) := by decide +kernel
theorem dX9_set_50 : decode cX9_set 50 = .ok (.iconst 0, 1) := by decide +kernel
theorem dX9_set_51 : decode cX9_set 51 = .ok (.ireturn, 1) := by decide +kernel
theorem dX9_set_52 : decode cX9_set 52 = .ok (.aload_n 0, 1) := by decide +kernel
theorem dX9_set_53 : decode cX9_set 53 = .ok (.invokevirtual 374, 3) := by decide +kernel
theorem dX9_set_56 : decode cX9_set 56 = .ok (.aload_n 0, 1) := by decide +kernel
theorem dX9_set_57 : decode cX9_set 57 = .ok (.getfield 17, 3) := by decide +kernel
theorem dX9_set_60 : decode cX9_set 60 = .ok (.iload_n 1, 1) := by decide +kernel
theorem dX9_set_61 : decode cX9_set 61 = .ok (.iaload, 1) := by decide +kernel
theorem dX9_set_62 : decode cX9_set 62 = .ok (.istore_n 3, 1) := by decide +kernel
theorem dX9_set_63 : decode cX9_set 63 = .ok (.aload_n 0, 1) := by decide +kernel
theorem dX9_set_64 : decode cX9_set 64 = .ok (.getfield 17, 3) := by decide +kernel
theorem dX9_set_67 : decode cX9_set 67 = .ok (.iload_n 1, 1) := by decide +kernel
theorem dX9_set_68 : decode cX9_set 68 = .ok (.iload_n 2, 1) := by decide +kernel
theorem dX9_set_69 : decode cX9_set 69 = .ok (.iastore, 1) := by decide +kernel
theorem dX9_set_70 : decode cX9_set 70 = .ok (.aload_n 0, 1) := by decide +kernel
theorem dX9_set_71 : decode cX9_set 71 = .ok (.iconst 0, 1) := by decide +kernel
theorem dX9_set_72 : decode cX9_set 72 = .ok (.putfield 178, 3) := by decide +kernel
theorem dX9_set_75 : decode cX9_set 75 = .ok (.iload_n 3, 1) := by decide +kernel
theorem dX9_set_76 : decode cX9_set 76 = .ok (.ireturn, 1) := by decide +kernel
theorem dX9_redate_0 : decode cX9_redate 0 = .ok (.aload_n 0, 1) := by decide +kernel
theorem dX9_redate_1 : decode cX9_redate 1 = .ok (.iconst 0, 1) := by decide +kernel
theorem dX9_redate_2 : decode cX9_redate 2 = .ok (.putfield 1, 3) := by decide +kernel
theorem dX9_redate_5 : decode cX9_redate 5 = .ok (.aload_n 0, 1) := by decide +kernel
theorem dX9_redate_6 : decode cX9_redate 6 = .ok (.iload_n 1, 1) := by decide +kernel
theorem dX9_redate_7 : decode cX9_redate 7 = .ok (.invokevirtual 377, 3) := by decide +kernel
theorem dX9_redate_10 : decode cX9_redate 10 = .ok (.ifCond .eq 39, 3) := by decide +kernel
theorem dX9_redate_13 : decode cX9_redate 13 = .ok (.aload_n 0, 1) := by decide +kernel
theorem dX9_redate_14 : decode cX9_redate 14 = .ok (.iload_n 2, 1) := by decide +kernel
theorem dX9_redate_15 : decode cX9_redate 15 = .ok (.iconst 0, 1) := by decide +kernel
theorem dX9_redate_16 : decode cX9_redate 16 = .ok (.sipush 9999, 3) := by decide +kernel
theorem dX9_redate_19 : decode cX9_redate 19 = .ok (.invokestatic 251, 3) := by decide +kernel
theorem dX9_redate_22 : decode cX9_redate 22 = .ok (.ifCond .eq 18, 3) := by decide +kernel
theorem dX9_redate_25 : decode cX9_redate 25 = .ok (.iload_n 3, 1) := by decide +kernel
theorem dX9_redate_26 : decode cX9_redate 26 = .ok (.iconst 0, 1) := by decide +kernel
theorem dX9_redate_27 : decode cX9_redate 27 = .ok (.sipush 999, 3) := by decide +kernel
theorem dX9_redate_30 : decode cX9_redate 30 = .ok (.invokestatic 251, 3) := by decide +kernel
theorem dX9_redate_33 : decode cX9_redate 33 = .ok (.ifCond .eq 7, 3) := by decide +kernel
theorem dX9_redate_36 : decode cX9_redate 36 = .ok (.iconst 1, 1) := by decide +kernel
theorem dX9_redate_37 : decode cX9_redate 37 = .ok (.goto 4, 3) := by decide +kernel
theorem dX9_redate_40 : decode cX9_redate 40 = .ok (.iconst 0, 1) := by decide +kernel
theorem dX9_redate_41 : decode cX9_redate 41 = .ok (.iconst 2, 1) := by decide +kernel
theorem dX9_redate_42 : decode cX9_redate 42 = .ok (.iconst 1, 1) := by decide +kernel
theorem dX9_redate_43 : decode cX9_redate 43 = .ok (.invokevirtual 358, 3) := by decide +kernel
theorem dX9_redate_46 : decode cX9_redate 46 = .ok (.ifCond .ne 5, 3) := by decide +kernel
theorem dX9_redate_49 : decode cX9_redate 49 = .ok (.iconst 0, 1) := by decide +kernel
theorem dX9_redate_50 : decode cX9_redate 50 = .ok (.ireturn, 1) := by decide +kernel
theorem dX9_redate_51 : decode cX9_redate 51 = .ok (.aload_n 0, 1) := by decide +kernel
theorem dX9_redate_52 : decode cX9_redate 52 = .ok (.invokevirtual 374, 3) := by decide +kernel
theorem dX9_redate_55 : decode cX9_redate 55 = .ok (.aload_n 0, 1) := by decide +kernel
theorem dX9_redate_56 : decode cX9_redate 56 = .ok (.iconst 0, 1) := by decide +kernel
theorem dX9_redate_57 : decode cX9_redate 57 = .ok (.putfield 178, 3) := by decide +kernel
theorem dX9_redate_60 : decode cX9_redate 60 = .ok (.aload_n 0, 1) := by decide +kernel
theorem dX9_redate_61 : decode cX9_redate 61 = .ok (.iload_n 1, 1) := by decide +kernel
theorem dX9_redate_62 : decode cX9_redate 62 = .ok (.iconst 0, 1) := by decide +kernel
theorem dX9_redate_63 : decode cX9_redate 63 = .ok (.invokevirtual 102, 3) := by decide +kernel
theorem dX9_redate_66 : decode cX9_redate 66 = .ok (.istore 4, 2) := by decide +kernel
theorem dX9_redate_68 : decode cX9_redate 68 = .ok (.iconst 0, 1) := by decide +kernel
theorem dX9_redate_69 : decode cX9_redate 69 = .ok (.istore 5, 2) := by decide +kernel
theorem dX9_redate_71 : decode cX9_redate 71 = .ok (.iload 5, 2) := by decide +kernel
theorem dX9_redate_73 : decode cX9_redate 73 = .ok (.bipush 15, 2) := by decide +kernel
theorem dX9_redate_75 : decode cX9_redate 75 = .ok (.if_icmp .ge 25, 3) := by decide +kernel
theorem dX9_redate_78 : decode cX9_redate 78 = .ok (.aload_n 0, 1) := by decide +kernel
theorem dX9_redate_79 : decode cX9_redate 79 = .ok (.getfield 17, 3) := by decide +kernel
theorem dX9_redate_82 : decode cX9_redate 82 = .ok (.bipush 123, 2) := by decide +kernel
theorem dX9_redate_84 : decode cX9_redate 84 = .ok (.bipush 15, 2) := by decide +kernel
theorem dX9_redate_86 : decode cX9_redate 86 = .ok (.iload_n 1, 1) := by decide +kernel
theorem dX9_redate_87 : decode cX9_redate 87 = .ok (.imul, 1) := by decide +kernel
theorem dX9_redate_88 : decode cX9_redate 88 = .ok (.iadd, 1) := by decide +kernel
theorem dX9_redate_89 : decode cX9_redate 89 = .ok (.iload 5, 2) := by decide +kernel
theorem dX9_redate_91 : decode cX9_redate 91 = .ok (.iadd, 1) := by decide +kernel
theorem dX9_redate_92 : decode cX9_redate 92 = .ok (.iconst 0, 1) := by decide +kernel
theorem dX9_redate_93 : decode cX9_redate 93 = .ok (.iastore, 1) := by decide +kernel
theorem dX9_redate_94 : decode cX9_redate 94 = .ok (.iinc 5 1, 3) := by decide +kernel
theorem dX9_redate_97 : decode cX9_redate 97 = .ok (.goto (-26), 3) := by decide +kernel
theorem dX9_redate_100 : decode cX9_redate 100 = .ok (.aload_n 0, 1) := by decide +kernel
theorem dX9_redate_101 : decode cX9_redate 101 = .ok (.getfield 17, 3) := by decide +kernel
theorem dX9_redate_104 : decode cX9_redate 104 = .ok (.bipush 123, 2) := by decide +kernel
theorem dX9_redate_106 : decode cX9_redate 106 = .ok (.bipush 15, 2) := by decide +kernel
theorem dX9_redate_108 : decode cX9_redate 108 = .ok (.iload_n 1, 1) := by decide +kernel
theorem dX9_redate_109 : decode cX9_redate 109 = .ok (.imul, 1) := by decide +kernel
theorem dX9_redate_110 : decode cX9_redate 110 = .ok (.iadd, 1) := by decide +kernel
theorem dX9_redate_111 : decode cX9_redate 111 = .ok (.iconst 1, 1) := by decide +kernel
theorem dX9_redate_112 : decode cX9_redate 112 = .ok (.iadd, 1) := by decide +kernel
theorem dX9_redate_113 : decode cX9_redate 113 = .ok (.iload_n 2, 1) := by decide +kernel
theorem dX9_redate_114 : decode cX9_redate 114 = .ok (.iastore, 1) := by decide +kernel
theorem dX9_redate_115 : decode cX9_redate 115 = .ok (.aload_n 0, 1) := by decide +kernel
theorem dX9_redate_116 : decode cX9_redate 116 = .ok (.getfield 17, 3) := by decide +kernel
theorem dX9_redate_119 : decode cX9_redate 119 = .ok (.bipush 123, 2) := by decide +kernel
theorem dX9_redate_121 : decode cX9_redate 121 = .ok (.bipush 15, 2) := by decide +kernel
theorem dX9_redate_123 : decode cX9_redate 123 = .ok (.iload_n 1, 1) := by decide +kernel
theorem dX9_redate_124 : decode cX9_redate 124 = .ok (.imul, 1) := by decide +kernel
theorem dX9_redate_125 : decode cX9_redate 125 = .ok (.iadd, 1) := by decide +kernel
theorem dX9_redate_126 : decode cX9_redate 126 = .ok (.iconst 2, 1) := by decide +kernel
theorem dX9_redate_127 : decode cX9_redate 127 = .ok (.iadd, 1) := by decide +kernel
theorem dX9_redate_128 : decode cX9_redate 128 = .ok (.iload_n 3, 1) := by decide +kernel
theorem dX9_redate_129 : decode cX9_redate 129 = .ok (.iastore, 1) := by decide +kernel
theorem dX9_redate_130 : decode cX9_redate 130 = .ok (.iload 4, 2) := by decide +kernel
theorem dX9_redate_132 : decode cX9_redate 132 = .ok (.ireturn, 1) := by decide +kernel
theorem dX9_addsRule_0 : decode cX9_addsRule 0 = .ok (.aload_n 0, 1) := by decide +kernel
theorem dX9_addsRule_1 : decode cX9_addsRule 1 = .ok (.invokevirtual 374, 3) := by decide +kernel
theorem dX9_addsRule_4 : decode cX9_addsRule 4 = .ok (.aload_n 0, 1) := by decide +kernel
theorem dX9_addsRule_5 : decode cX9_addsRule 5 = .ok (.iconst 0, 1) := by decide +kernel
theorem dX9_addsRule_6 : decode cX9_addsRule 6 = .ok (.putfield 175, 3) := by decide +kernel
theorem dX9_addsRule_9 : decode cX9_addsRule 9 = .ok (.iconst 3, 1) := by decide +kernel
theorem dX9_addsRule_10 : decode cX9_addsRule 10 = .ok (.iconst 5, 1) := by decide +kernel
theorem dX9_addsRule_11 : decode cX9_addsRule 11 = .ok (.aload_n 0, 1) := by decide +kernel
theorem dX9_addsRule_12 : decode cX9_addsRule 12 = .ok (.getfield 17, 3) := by decide +kernel
theorem dX9_addsRule_15 : decode cX9_addsRule 15 = .ok (.iconst 2, 1) := by decide +kernel
theorem dX9_addsRule_16 : decode cX9_addsRule 16 = .ok (.iaload, 1) := by decide +kernel
theorem dX9_addsRule_17 : decode cX9_addsRule 17 = .ok (.imul, 1) := by decide +kernel
theorem dX9_addsRule_18 : decode cX9_addsRule 18 = .ok (.iadd, 1) := by decide +kernel
theorem dX9_addsRule_19 : decode cX9_addsRule 19 = .ok (.istore 6, 2) := by decide +kernel
theorem dX9_addsRule_21 : decode cX9_addsRule 21 = .ok (.aload_n 0, 1) := by decide +kernel
theorem dX9_addsRule_22 : decode cX9_addsRule 22 = .ok (.getfield 17, 3) := by decide +kernel
theorem dX9_addsRule_25 : decode cX9_addsRule 25 = .ok (.iload 6, 2) := by decide +kernel
theorem dX9_addsRule_27 : decode cX9_addsRule 27 = .ok (.iload_n 1, 1) := by decide +kernel
theorem dX9_addsRule_28 : decode cX9_addsRule 28 = .ok (.iastore, 1) := by decide +kernel
theorem dX9_addsRule_29 : decode cX9_addsRule 29 = .ok (.aload_n 0, 1) := by decide +kernel
theorem dX9_addsRule_30 : decode cX9_addsRule 30 = .ok (.getfield 17, 3) := by decide +kernel
theorem dX9_addsRule_33 : decode cX9_addsRule 33 = .ok (.iload 6, 2) := by decide +kernel
theorem dX9_addsRule_35 : decode cX9_addsRule 35 = .ok (.iconst 1, 1) := by decide +kernel
theorem dX9_addsRule_36 : decode cX9_addsRule 36 = .ok (.iadd, 1) := by decide +kernel
theorem dX9_addsRule_37 : decode cX9_addsRule 37 = .ok (.iload_n 2, 1) := by decide +kernel
theorem dX9_addsRule_38 : decode cX9_addsRule 38 = .ok (.iastore, 1) := by decide +kernel
theorem dX9_addsRule_39 : decode cX9_addsRule 39 = .ok (.aload_n 0, 1) := by decide +kernel
theorem dX9_addsRule_40 : decode cX9_addsRule 40 = .ok (.getfield 17, 3) := by decide +kernel
theorem dX9_addsRule_43 : decode cX9_addsRule 43 = .ok (.iload 6, 2) := by decide +kernel
theorem dX9_addsRule_45 : decode cX9_addsRule 45 = .ok (.iconst 2, 1) := by decide +kernel
theorem dX9_addsRule_46 : decode cX9_addsRule 46 = .ok (.iadd, 1) := by decide +kernel
theorem dX9_addsRule_47 : decode cX9_addsRule 47 = .ok (.iload_n 3, 1) := by decide +kernel
theorem dX9_addsRule_48 : decode cX9_addsRule 48 = .ok (.iastore, 1) := by decide +kernel
theorem dX9_addsRule_49 : decode cX9_addsRule 49 = .ok (.aload_n 0, 1) := by decide +kernel
theorem dX9_addsRule_50 : decode cX9_addsRule 50 = .ok (.getfield 17, 3) := by decide +kernel
theorem dX9_addsRule_53 : decode cX9_addsRule 53 = .ok (.iload 6, 2) := by decide +kernel
theorem dX9_addsRule_55 : decode cX9_addsRule 55 = .ok (.iconst 3, 1) := by decide +kernel
theorem dX9_addsRule_56 : decode cX9_addsRule 56 = .ok (.iadd, 1) := by decide +kernel
theorem dX9_addsRule_57 : decode cX9_addsRule 57 = .ok (.iload 4, 2) := by decide +kernel
theorem dX9_addsRule_59 : decode cX9_addsRule 59 = .ok (.iastore, 1) := by decide +kernel
theorem dX9_addsRule_60 : decode cX9_addsRule 60 = .ok (.aload_n 0, 1) := by decide +kernel
theorem dX9_addsRule_61 : decode cX9_addsRule 61 = .ok (.getfield 17, 3) := by decide +kernel
theorem dX9_addsRule_64 : decode cX9_addsRule 64 = .ok (.iload 6, 2) := by decide +kernel
theorem dX9_addsRule_66 : decode cX9_addsRule 66 = .ok (.iconst 4, 1) := by decide +kernel
theorem dX9_addsRule_67 : decode cX9_addsRule 67 = .ok (.iadd, 1) := by decide +kernel
theorem dX9_addsRule_68 : decode cX9_addsRule 68 = .ok (.iload 5, 2) := by decide +kernel
theorem dX9_addsRule_70 : decode cX9_addsRule 70 = .ok (.iastore, 1) := by decide +kernel
theorem dX9_addsRule_71 : decode cX9_addsRule 71 = .ok (.aload_n 0, 1) := by decide +kernel
theorem dX9_addsRule_72 : decode cX9_addsRule 72 = .ok (.getfield 17, 3) := by decide +kernel
theorem dX9_addsRule_75 : decode cX9_addsRule 75 = .ok (.iconst 2, 1) := by decide +kernel
theorem dX9_addsRule_76 : decode cX9_addsRule 76 = .ok (.dup2, 1) := by decide +kernel
theorem dX9_addsRule_77 : decode cX9_addsRule 77 = .ok (.iaload, 1) := by decide +kernel
theorem dX9_addsRule_78 : decode cX9_addsRule 78 = .ok (.iconst 1, 1) := by decide +kernel
theorem dX9_addsRule_79 : decode cX9_addsRule 79 = .ok (.iadd, 1) := by decide +kernel
theorem dX9_addsRule_80 : decode cX9_addsRule 80 = .ok (.iastore, 1) := by decide +kernel
theorem dX9_addsRule_81 : decode cX9_addsRule 81 = .ok (.aload_n 0, 1) := by decide +kernel
theorem dX9_addsRule_82 : decode cX9_addsRule 82 = .ok (.getfield 17, 3) := by decide +kernel
theorem dX9_addsRule_85 : decode cX9_addsRule 85 = .ok (.iconst 2, 1) := by decide +kernel
theorem dX9_addsRule_86 : decode cX9_addsRule 86 = .ok (.iaload, 1) := by decide +kernel
theorem dX9_addsRule_87 : decode cX9_addsRule 87 = .ok (.iconst 1, 1) := by decide +kernel
theorem dX9_addsRule_88 : decode cX9_addsRule 88 = .ok (.isub, 1) := by decide +kernel
theorem dX9_addsRule_89 : decode cX9_addsRule 89 = .ok (.ireturn, 1) := by decide +kernel
theorem dX9_before_0 : decode cX9_before 0 = .ok (.aload_n 0, 1) := by decide +kernel
theorem dX9_before_1 : decode cX9_before 1 = .ok (.iconst 0, 1) := by decide +kernel
theorem dX9_before_2 : decode cX9_before 2 = .ok (.putfield 1, 3) := by decide +kernel
theorem dX9_before_5 : decode cX9_before 5 = .ok (.aload_n 0, 1) := by decide +kernel
theorem dX9_before_6 : decode cX9_before 6 = .ok (.iload_n 1, 1) := by decide +kernel
theorem dX9_before_7 : decode cX9_before 7 = .ok (.iconst 0, 1) := by decide +kernel
theorem dX9_before_8 : decode cX9_before 8 = .ok (.aload_n 0, 1) := by decide +kernel
theorem dX9_before_9 : decode cX9_before 9 = .ok (.getfield 184, 3) := by decide +kernel
theorem dX9_before_12 : decode cX9_before 12 = .ok (.iconst 1, 1) := by decide +kernel
theorem dX9_before_13 : decode cX9_before 13 = .ok (.isub, 1) := by decide +kernel
theorem dX9_before_14 : decode cX9_before 14 = .ok (.invokestatic 251, 3) := by decide +kernel
theorem dX9_before_17 : decode cX9_before 17 = .ok (.ifCond .eq 21, 3) := by decide +kernel
theorem dX9_before_20 : decode cX9_before 20 = .ok (.iload_n 2, 1) := by decide +kernel
theorem dX9_before_21 : decode cX9_before 21 = .ok (.iconst 0, 1) := by decide +kernel
theorem dX9_before_22 : decode cX9_before 22 = .ok (.aload_n 0, 1) := by decide +kernel
theorem dX9_before_23 : decode cX9_before 23 = .ok (.getfield 184, 3) := by decide +kernel
theorem dX9_before_26 : decode cX9_before 26 = .ok (.iconst 1, 1) := by decide +kernel
theorem dX9_before_27 : decode cX9_before 27 = .ok (.isub, 1) := by decide +kernel
theorem dX9_before_28 : decode cX9_before 28 = .ok (.invokestatic 251, 3) := by decide +kernel
theorem dX9_before_31 : decode cX9_before 31 = .ok (.ifCond .eq 7, 3) := by decide +kernel
theorem dX9_before_34 : decode cX9_before 34 = .ok (.iconst 1, 1) := by decide +kernel
theorem dX9_before_35 : decode cX9_before 35 = .ok (.goto 4, 3) := by decide +kernel
theorem dX9_before_38 : decode cX9_before 38 = .ok (.iconst 0, 1) := by decide +kernel
theorem dX9_before_39 : decode cX9_before 39 = .ok (.iconst 1, 1) := by decide +kernel
theorem dX9_before_40 : decode cX9_before 40 = .ok (.iconst 0, 1) := by decide +kernel
theorem dX9_before_41 : decode cX9_before 41 = .ok (.invokevirtual 358, 3) := by decide +kernel
theorem dX9_before_44 : decode cX9_before 44 = .ok (.ifCond .ne 5, 3) := by decide +kernel
theorem dX9_before_47 : decode cX9_before 47 = .ok (.iconst 0, 1) := by decide +kernel
theorem dX9_before_48 : decode cX9_before 48 = .ok (.ireturn, 1) := by decide +kernel
theorem dX9_before_49 : decode cX9_before 49 = .ok (.aload_n 0, 1) := by decide +kernel
theorem dX9_before_50 : decode cX9_before 50 = .ok (.iload_n 1, 1) := by decide +kernel
theorem dX9_before_51 : decode cX9_before 51 = .ok (.iload_n 2, 1) := by decide +kernel
theorem dX9_before_52 : decode cX9_before 52 = .ok (.if_icmp .eq 30, 3) := by decide +kernel
theorem dX9_before_55 : decode cX9_before 55 = .ok (.iload_n 3, 1) := by decide +kernel
theorem dX9_before_56 : decode cX9_before 56 = .ok (.iconst 0, 1) := by decide +kernel
theorem dX9_before_57 : decode cX9_before 57 = .ok (.sipush 999, 3) := by decide +kernel
theorem dX9_before_60 : decode cX9_before 60 = .ok (.invokestatic 251, 3) := by decide +kernel
theorem dX9_before_63 : decode cX9_before 63 = .ok (.ifCond .eq 19, 3) := by decide +kernel
theorem dX9_before_66 : decode cX9_before 66 = .ok (.iload 4, 2) := by decide +kernel
theorem dX9_before_68 : decode cX9_before 68 = .ok (.iload_n 3, 1) := by decide +kernel
theorem dX9_before_69 : decode cX9_before 69 = .ok (.sipush 999, 3) := by decide +kernel
theorem dX9_before_72 : decode cX9_before 72 = .ok (.invokestatic 251, 3) := by decide +kernel
theorem dX9_before_75 : decode cX9_before 75 = .ok (.ifCond .eq 7, 3) := by decide +kernel
theorem dX9_before_78 : decode cX9_before 78 = .ok (.iconst 1, 1) := by decide +kernel
theorem dX9_before_79 : decode cX9_before 79 = .ok (.goto 4, 3) := by decide +kernel
theorem dX9_before_82 : decode cX9_before 82 = .ok (.iconst 0, 1) := by decide +kernel
theorem dX9_before_83 : decode cX9_before 83 = .ok (.iconst 2, 1) := by decide +kernel
theorem dX9_before_84 : decode cX9_before 84 = .ok (.iconst 1, 1) := by decide +kernel
theorem dX9_before_85 : decode cX9_before 85 = .ok (.invokevirtual 358, 3) := by decide +kernel
theorem dX9_before_88 : decode cX9_before 88 = .ok (.ifCond .eq 28, 3) := by decide +kernel
theorem dX9_before_91 : decode cX9_before 91 = .ok (.aload_n 0, 1) := by decide +kernel
theorem dX9_before_92 : decode cX9_before 92 = .ok (.aload_n 0, 1) := by decide +kernel
theorem dX9_before_93 : decode cX9_before 93 = .ok (.getfield 17, 3) := by decide +kernel
theorem dX9_before_96 : decode cX9_before 96 = .ok (.iconst 2, 1) := by decide +kernel
theorem dX9_before_97 : decode cX9_before 97 = .ok (.iaload, 1) := by decide +kernel
theorem dX9_before_98 : decode cX9_before 98 = .ok (.bipush 24, 2) := by decide +kernel
theorem dX9_before_100 : decode cX9_before 100 = .ok (.if_icmp .ge 7, 3) := by decide +kernel
theorem dX9_before_103 : decode cX9_before 103 = .ok (.iconst 1, 1) := by decide +kernel
theorem dX9_before_104 : decode cX9_before 104 = .ok (.goto 4, 3) := by decide +kernel
theorem dX9_before_107 : decode cX9_before 107 = .ok (.iconst 0, 1) := by decide +kernel
theorem dX9_before_108 : decode cX9_before 108 = .ok (.iconst 3, 1) := by decide +kernel
theorem dX9_before_109 : decode cX9_before 109 = .ok (.iconst 2, 1) := by decide +kernel
theorem dX9_before_110 : decode cX9_before 110 = .ok (.invokevirtual 358, 3) := by decide +kernel
theorem dX9_before_113 : decode cX9_before 113 = .ok (.ifCond .ne 5, 3) := by decide +kernel
theorem dX9_before_116 : decode cX9_before 116 = .ok (.iconst 0, 1) := by decide +kernel
theorem dX9_before_117 : decode cX9_before 117 = .ok (.ireturn, 1) := by decide +kernel
theorem dX9_before_118 : decode cX9_before 118 = .ok (.aload_n 0, 1) := by decide +kernel
theorem dX9_before_119 : decode cX9_before 119 = .ok (.iconst 0, 1) := by decide +kernel
theorem dX9_before_120 : decode cX9_before 120 = .ok (.iload_n 1, 1) := by decide +kernel
theorem dX9_before_121 : decode cX9_before 121 = .ok (.iload_n 2, 1) := by decide +kernel
theorem dX9_before_122 : decode cX9_before 122 = .ok (.iload_n 3, 1) := by decide +kernel
theorem dX9_before_123 : decode cX9_before 123 = .ok (.iload 4, 2) := by decide +kernel
theorem dX9_before_125 : decode cX9_before 125 = .ok (.invokevirtual 380, 3) := by decide +kernel
theorem dX9_before_128 : decode cX9_before 128 = .ok (.ireturn, 1) := by decide +kernel
theorem dX9_bounds_0 : decode cX9_bounds 0 = .ok (.aload_n 0, 1) := by decide +kernel
theorem dX9_bounds_1 : decode cX9_bounds 1 = .ok (.iconst 0, 1) := by decide +kernel
theorem dX9_bounds_2 : decode cX9_bounds 2 = .ok (.putfield 1, 3) := by decide +kernel
theorem dX9_bounds_5 : decode cX9_bounds 5 = .ok (.aload_n 0, 1) := by decide +kernel
theorem dX9_bounds_6 : decode cX9_bounds 6 = .ok (.iload_n 1, 1) := by decide +kernel
theorem dX9_bounds_7 : decode cX9_bounds 7 = .ok (.invokevirtual 377, 3) := by decide +kernel
theorem dX9_bounds_10 : decode cX9_bounds 10 = .ok (.ifCond .eq 62, 3) := by decide +kernel
theorem dX9_bounds_13 : decode cX9_bounds 13 = .ok (.aload_n 0, 1) := by decide +kernel
theorem dX9_bounds_14 : decode cX9_bounds 14 = .ok (.iload_n 2, 1) := by decide +kernel
theorem dX9_bounds_15 : decode cX9_bounds 15 = .ok (.iconst 2, 1) := by decide +kernel
theorem dX9_bounds_16 : decode cX9_bounds 16 = .ok (.iconst 3, 1) := by decide +kernel
theorem dX9_bounds_17 : decode cX9_bounds 17 = .ok (.invokestatic 251, 3) := by decide +kernel
theorem dX9_bounds_20 : decode cX9_bounds 20 = .ok (.ifCond .eq 18, 3) := by decide +kernel
theorem dX9_bounds_23 : decode cX9_bounds 23 = .ok (.iload_n 3, 1) := by decide +kernel
theorem dX9_bounds_24 : decode cX9_bounds 24 = .ok (.iconst 0, 1) := by decide +kernel
theorem dX9_bounds_25 : decode cX9_bounds 25 = .ok (.sipush 999, 3) := by decide +kernel
theorem dX9_bounds_28 : decode cX9_bounds 28 = .ok (.invokestatic 251, 3) := by decide +kernel
theorem dX9_bounds_31 : decode cX9_bounds 31 = .ok (.ifCond .eq 7, 3) := by decide +kernel
theorem dX9_bounds_34 : decode cX9_bounds 34 = .ok (.iconst 1, 1) := by decide +kernel
theorem dX9_bounds_35 : decode cX9_bounds 35 = .ok (.goto 4, 3) := by decide +kernel
theorem dX9_bounds_38 : decode cX9_bounds 38 = .ok (.iconst 0, 1) := by decide +kernel
theorem dX9_bounds_39 : decode cX9_bounds 39 = .ok (.iconst 2, 1) := by decide +kernel
theorem dX9_bounds_40 : decode cX9_bounds 40 = .ok (.iconst 1, 1) := by decide +kernel
theorem dX9_bounds_41 : decode cX9_bounds 41 = .ok (.invokevirtual 358, 3) := by decide +kernel
theorem dX9_bounds_44 : decode cX9_bounds 44 = .ok (.ifCond .eq 28, 3) := by decide +kernel
theorem dX9_bounds_47 : decode cX9_bounds 47 = .ok (.aload_n 0, 1) := by decide +kernel
theorem dX9_bounds_48 : decode cX9_bounds 48 = .ok (.aload_n 0, 1) := by decide +kernel
theorem dX9_bounds_49 : decode cX9_bounds 49 = .ok (.getfield 17, 3) := by decide +kernel
theorem dX9_bounds_52 : decode cX9_bounds 52 = .ok (.iconst 2, 1) := by decide +kernel
theorem dX9_bounds_53 : decode cX9_bounds 53 = .ok (.iaload, 1) := by decide +kernel
theorem dX9_bounds_54 : decode cX9_bounds 54 = .ok (.bipush 24, 2) := by decide +kernel
theorem dX9_bounds_56 : decode cX9_bounds 56 = .ok (.if_icmp .ge 7, 3) := by decide +kernel
theorem dX9_bounds_59 : decode cX9_bounds 59 = .ok (.iconst 1, 1) := by decide +kernel
theorem dX9_bounds_60 : decode cX9_bounds 60 = .ok (.goto 4, 3) := by decide +kernel
theorem dX9_bounds_63 : decode cX9_bounds 63 = .ok (.iconst 0, 1) := by decide +kernel
theorem dX9_bounds_64 : decode cX9_bounds 64 = .ok (.iconst 3, 1) := by decide +kernel
theorem dX9_bounds_65 : decode cX9_bounds 65 = .ok (.iconst 2, 1) := by decide +kernel
theorem dX9_bounds_66 : decode cX9_bounds 66 = .ok (.invokevirtual 358, 3) := by decide +kernel
theorem dX9_bounds_69 : decode cX9_bounds 69 = .ok (.ifCond .ne 5, 3) := by decide +kernel
theorem dX9_bounds_72 : decode cX9_bounds 72 = .ok (.iconst 0, 1) := by decide +kernel
theorem dX9_bounds_73 : decode cX9_bounds 73 = .ok (.ireturn, 1) := by decide +kernel
theorem dX9_bounds_74 : decode cX9_bounds 74 = .ok (.aload_n 0, 1) := by decide +kernel
theorem dX9_bounds_75 : decode cX9_bounds 75 = .ok (.iload_n 2, 1) := by decide +kernel
theorem dX9_bounds_76 : decode cX9_bounds 76 = .ok (.iload_n 1, 1) := by decide +kernel
theorem dX9_bounds_77 : decode cX9_bounds 77 = .ok (.iconst (-1), 1) := by decide +kernel
theorem dX9_bounds_78 : decode cX9_bounds 78 = .ok (.iload_n 3, 1) := by decide +kernel
theorem dX9_bounds_79 : decode cX9_bounds 79 = .ok (.iconst (-1), 1) := by decide +kernel
theorem dX9_bounds_80 : decode cX9_bounds 80 = .ok (.invokevirtual 380, 3) := by decide +kernel
theorem dX9_bounds_83 : decode cX9_bounds 83 = .ok (.ireturn, 1) := by decide +kernel
theorem dX9_drop_0 : decode cX9_drop 0 = .ok (.aload_n 0, 1) := by decide +kernel
theorem dX9_drop_1 : decode cX9_drop 1 = .ok (.iconst 0, 1) := by decide +kernel
theorem dX9_drop_2 : decode cX9_drop 2 = .ok (.putfield 1, 3) := by decide +kernel
theorem dX9_drop_5 : decode cX9_drop 5 = .ok (.aload_n 0, 1) := by decide +kernel
theorem dX9_drop_6 : decode cX9_drop 6 = .ok (.iload_n 1, 1) := by decide +kernel
theorem dX9_drop_7 : decode cX9_drop 7 = .ok (.invokevirtual 384, 3) := by decide +kernel
theorem dX9_drop_10 : decode cX9_drop 10 = .ok (.ifCond .ne 5, 3) := by decide +kernel
theorem dX9_drop_13 : decode cX9_drop 13 = .ok (.iconst 0, 1) := by decide +kernel
theorem dX9_drop_14 : decode cX9_drop 14 = .ok (.ireturn, 1) := by decide +kernel
theorem dX9_drop_15 : decode cX9_drop 15 = .ok (.aload_n 0, 1) := by decide +kernel
theorem dX9_drop_16 : decode cX9_drop 16 = .ok (.invokevirtual 387, 3) := by decide +kernel
theorem dX9_drop_19 : decode cX9_drop 19 = .ok (.aload_n 0, 1) := by decide +kernel
theorem dX9_drop_20 : decode cX9_drop 20 = .ok (.getfield 55, 3) := by decide +kernel
theorem dX9_drop_23 : decode cX9_drop 23 = .ok (.iload_n 1, 1) := by decide +kernel
theorem dX9_drop_24 : decode cX9_drop 24 = .ok (.iaload, 1) := by decide +kernel
theorem dX9_drop_25 : decode cX9_drop 25 = .ok (.istore_n 2, 1) := by decide +kernel
theorem dX9_drop_26 : decode cX9_drop 26 = .ok (.aload_n 0, 1) := by decide +kernel
theorem dX9_drop_27 : decode cX9_drop 27 = .ok (.invokevirtual 374, 3) := by decide +kernel
theorem dX9_drop_30 : decode cX9_drop 30 = .ok (.aload_n 0, 1) := by decide +kernel
theorem dX9_drop_31 : decode cX9_drop 31 = .ok (.iconst 0, 1) := by decide +kernel
theorem dX9_drop_32 : decode cX9_drop 32 = .ok (.putfield 175, 3) := by decide +kernel
theorem dX9_drop_35 : decode cX9_drop 35 = .ok (.iconst 3, 1) := by decide +kernel
theorem dX9_drop_36 : decode cX9_drop 36 = .ok (.iconst 5, 1) := by decide +kernel
theorem dX9_drop_37 : decode cX9_drop 37 = .ok (.iload_n 1, 1) := by decide +kernel
theorem dX9_drop_38 : decode cX9_drop 38 = .ok (.imul, 1) := by decide +kernel
theorem dX9_drop_39 : decode cX9_drop 39 = .ok (.iadd, 1) := by decide +kernel
theorem dX9_drop_40 : decode cX9_drop 40 = .ok (.istore_n 3, 1) := by decide +kernel
theorem dX9_drop_41 : decode cX9_drop 41 = .ok (.iload_n 3, 1) := by decide +kernel
theorem dX9_drop_42 : decode cX9_drop 42 = .ok (.iconst 3, 1) := by decide +kernel
theorem dX9_drop_43 : decode cX9_drop 43 = .ok (.iconst 5, 1) := by decide +kernel
theorem dX9_drop_44 : decode cX9_drop 44 = .ok (.aload_n 0, 1) := by decide +kernel
theorem dX9_drop_45 : decode cX9_drop 45 = .ok (.getfield 17, 3) := by decide +kernel
theorem dX9_drop_48 : decode cX9_drop 48 = .ok (.iconst 2, 1) := by decide +kernel
theorem dX9_drop_49 : decode cX9_drop 49 = .ok (.iaload, 1) := by decide +kernel
theorem dX9_drop_50 : decode cX9_drop 50 = .ok (.iconst 1, 1) := by decide +kernel
theorem dX9_drop_51 : decode cX9_drop 51 = .ok (.isub, 1) := by decide +kernel
theorem dX9_drop_52 : decode cX9_drop 52 = .ok (.imul, 1) := by decide +kernel
theorem dX9_drop_53 : decode cX9_drop 53 = .ok (.iadd, 1) := by decide +kernel
theorem dX9_drop_54 : decode cX9_drop 54 = .ok (.if_icmp .ge 23, 3) := by decide +kernel
theorem dX9_drop_57 : decode cX9_drop 57 = .ok (.aload_n 0, 1) := by decide +kernel
theorem dX9_drop_58 : decode cX9_drop 58 = .ok (.getfield 17, 3) := by decide +kernel
theorem dX9_drop_61 : decode cX9_drop 61 = .ok (.iload_n 3, 1) := by decide +kernel
theorem dX9_drop_62 : decode cX9_drop 62 = .ok (.aload_n 0, 1) := by decide +kernel
theorem dX9_drop_63 : decode cX9_drop 63 = .ok (.getfield 17, 3) := by decide +kernel
theorem dX9_drop_66 : decode cX9_drop 66 = .ok (.iload_n 3, 1) := by decide +kernel
theorem dX9_drop_67 : decode cX9_drop 67 = .ok (.iconst 5, 1) := by decide +kernel
theorem dX9_drop_68 : decode cX9_drop 68 = .ok (.iadd, 1) := by decide +kernel
theorem dX9_drop_69 : decode cX9_drop 69 = .ok (.iaload, 1) := by decide +kernel
theorem dX9_drop_70 : decode cX9_drop 70 = .ok (.iastore, 1) := by decide +kernel
theorem dX9_drop_71 : decode cX9_drop 71 = .ok (.iinc 3 1, 3) := by decide +kernel
theorem dX9_drop_74 : decode cX9_drop 74 = .ok (.goto (-33), 3) := by decide +kernel
theorem dX9_drop_77 : decode cX9_drop 77 = .ok (.aload_n 0, 1) := by decide +kernel
theorem dX9_drop_78 : decode cX9_drop 78 = .ok (.getfield 17, 3) := by decide +kernel
theorem dX9_drop_81 : decode cX9_drop 81 = .ok (.iconst 2, 1) := by decide +kernel
theorem dX9_drop_82 : decode cX9_drop 82 = .ok (.dup2, 1) := by decide +kernel
theorem dX9_drop_83 : decode cX9_drop 83 = .ok (.iaload, 1) := by decide +kernel
theorem dX9_drop_84 : decode cX9_drop 84 = .ok (.iconst 1, 1) := by decide +kernel
theorem dX9_drop_85 : decode cX9_drop 85 = .ok (.isub, 1) := by decide +kernel
theorem dX9_drop_86 : decode cX9_drop 86 = .ok (.iastore, 1) := by decide +kernel
theorem dX9_drop_87 : decode cX9_drop 87 = .ok (.iload_n 2, 1) := by decide +kernel
theorem dX9_drop_88 : decode cX9_drop 88 = .ok (.ireturn, 1) := by decide +kernel
theorem dX9_undo_0 : decode cX9_undo 0 = .ok (.aload_n 0, 1) := by decide +kernel
theorem dX9_undo_1 : decode cX9_undo 1 = .ok (.iconst 0, 1) := by decide +kernel
theorem dX9_undo_2 : decode cX9_undo 2 = .ok (.putfield 1, 3) := by decide +kernel
theorem dX9_undo_5 : decode cX9_undo 5 = .ok (.aload_n 0, 1) := by decide +kernel
theorem dX9_undo_6 : decode cX9_undo 6 = .ok (.getfield 371, 3) := by decide +kernel
theorem dX9_undo_9 : decode cX9_undo 9 = .ok (.ifCond .ne 5, 3) := by decide +kernel
theorem dX9_undo_12 : decode cX9_undo 12 = .ok (.iconst (-1), 1) := by decide +kernel
theorem dX9_undo_13 : decode cX9_undo 13 = .ok (.ireturn, 1) := by decide +kernel
theorem dX9_undo_14 : decode cX9_undo 14 = .ok (.aload_n 0, 1) := by decide +kernel
theorem dX9_undo_15 : decode cX9_undo 15 = .ok (.dup, 1) := by decide +kernel
theorem dX9_undo_16 : decode cX9_undo 16 = .ok (.getfield 371, 3) := by decide +kernel
theorem dX9_undo_19 : decode cX9_undo 19 = .ok (.iconst 1, 1) := by decide +kernel
theorem dX9_undo_20 : decode cX9_undo 20 = .ok (.isub, 1) := by decide +kernel
theorem dX9_undo_21 : decode cX9_undo 21 = .ok (.putfield 371, 3) := by decide +kernel
theorem dX9_undo_24 : decode cX9_undo 24 = .ok (.iconst 0, 1) := by decide +kernel
theorem dX9_undo_25 : decode cX9_undo 25 = .ok (.istore_n 1, 1) := by decide +kernel
theorem dX9_undo_26 : decode cX9_undo 26 = .ok (.iload_n 1, 1) := by decide +kernel
theorem dX9_undo_27 : decode cX9_undo 27 = .ok (.sipush 303, 3) := by decide +kernel
theorem dX9_undo_30 : decode cX9_undo 30 = .ok (.if_icmp .ge 30, 3) := by decide +kernel
theorem dX9_undo_33 : decode cX9_undo 33 = .ok (.aload_n 0, 1) := by decide +kernel
theorem dX9_undo_34 : decode cX9_undo 34 = .ok (.getfield 17, 3) := by decide +kernel
theorem dX9_undo_37 : decode cX9_undo 37 = .ok (.iload_n 1, 1) := by decide +kernel
theorem dX9_undo_38 : decode cX9_undo 38 = .ok (.aload_n 0, 1) := by decide +kernel
theorem dX9_undo_39 : decode cX9_undo 39 = .ok (.getfield 23, 3) := by decide +kernel
theorem dX9_undo_42 : decode cX9_undo 42 = .ok (.sipush 303, 3) := by decide +kernel
theorem dX9_undo_45 : decode cX9_undo 45 = .ok (.aload_n 0, 1) := by decide +kernel
theorem dX9_undo_46 : decode cX9_undo 46 = .ok (.getfield 371, 3) := by decide +kernel
theorem dX9_undo_49 : decode cX9_undo 49 = .ok (.imul, 1) := by decide +kernel
theorem dX9_undo_50 : decode cX9_undo 50 = .ok (.iload_n 1, 1) := by decide +kernel
theorem dX9_undo_51 : decode cX9_undo 51 = .ok (.iadd, 1) := by decide +kernel
theorem dX9_undo_52 : decode cX9_undo 52 = .ok (.iaload, 1) := by decide +kernel
theorem dX9_undo_53 : decode cX9_undo 53 = .ok (.iastore, 1) := by decide +kernel
theorem dX9_undo_54 : decode cX9_undo 54 = .ok (.iinc 1 1, 3) := by decide +kernel
theorem dX9_undo_57 : decode cX9_undo 57 = .ok (.goto (-31), 3) := by decide +kernel
theorem dX9_undo_60 : decode cX9_undo 60 = .ok (.aload_n 0, 1) := by decide +kernel
theorem dX9_undo_61 : decode cX9_undo 61 = .ok (.iconst 0, 1) := by decide +kernel
theorem dX9_undo_62 : decode cX9_undo 62 = .ok (.putfield 178, 3) := by decide +kernel
theorem dX9_undo_65 : decode cX9_undo 65 = .ok (.aload_n 0, 1) := by decide +kernel
theorem dX9_undo_66 : decode cX9_undo 66 = .ok (.getfield 371, 3) := by decide +kernel
theorem dX9_undo_69 : decode cX9_undo 69 = .ok (.ireturn, 1) := by decide +kernel
theorem dX9_goneAll_0 : decode cX9_goneAll 0 = .ok (.iconst 0, 1) := by decide +kernel
theorem dX9_goneAll_1 : decode cX9_goneAll 1 = .ok (.istore_n 1, 1) := by decide +kernel
theorem dX9_goneAll_2 : decode cX9_goneAll 2 = .ok (.iconst 0, 1) := by decide +kernel
theorem dX9_goneAll_3 : decode cX9_goneAll 3 = .ok (.istore_n 2, 1) := by decide +kernel
theorem dX9_goneAll_4 : decode cX9_goneAll 4 = .ok (.iload_n 2, 1) := by decide +kernel
theorem dX9_goneAll_5 : decode cX9_goneAll 5 = .ok (.aload_n 0, 1) := by decide +kernel
theorem dX9_goneAll_6 : decode cX9_goneAll 6 = .ok (.getfield 17, 3) := by decide +kernel
theorem dX9_goneAll_9 : decode cX9_goneAll 9 = .ok (.iconst 2, 1) := by decide +kernel
theorem dX9_goneAll_10 : decode cX9_goneAll 10 = .ok (.iaload, 1) := by decide +kernel
theorem dX9_goneAll_11 : decode cX9_goneAll 11 = .ok (.if_icmp .ge 18, 3) := by decide +kernel
theorem dX9_goneAll_14 : decode cX9_goneAll 14 = .ok (.iload_n 1, 1) := by decide +kernel
theorem dX9_goneAll_15 : decode cX9_goneAll 15 = .ok (.aload_n 0, 1) := by decide +kernel
theorem dX9_goneAll_16 : decode cX9_goneAll 16 = .ok (.getfield 55, 3) := by decide +kernel
theorem dX9_goneAll_19 : decode cX9_goneAll 19 = .ok (.iload_n 2, 1) := by decide +kernel
theorem dX9_goneAll_20 : decode cX9_goneAll 20 = .ok (.iaload, 1) := by decide +kernel
theorem dX9_goneAll_21 : decode cX9_goneAll 21 = .ok (.iadd, 1) := by decide +kernel
theorem dX9_goneAll_22 : decode cX9_goneAll 22 = .ok (.istore_n 1, 1) := by decide +kernel
theorem dX9_goneAll_23 : decode cX9_goneAll 23 = .ok (.iinc 2 1, 3) := by decide +kernel
theorem dX9_goneAll_26 : decode cX9_goneAll 26 = .ok (.goto (-22), 3) := by decide +kernel
theorem dX9_goneAll_29 : decode cX9_goneAll 29 = .ok (.iload_n 1, 1) := by decide +kernel
theorem dX9_goneAll_30 : decode cX9_goneAll 30 = .ok (.ireturn, 1) := by decide +kernel
theorem dX9_told_0 : decode cX9_told 0 = .ok (.aload_n 0, 1) := by decide +kernel
theorem dX9_told_1 : decode cX9_told 1 = .ok (.iconst 0, 1) := by decide +kernel
theorem dX9_told_2 : decode cX9_told 2 = .ok (.putfield 1, 3) := by decide +kernel
theorem dX9_told_5 : decode cX9_told 5 = .ok (.aload_n 0, 1) := by decide +kernel
theorem dX9_told_6 : decode cX9_told 6 = .ok (.iload_n 1, 1) := by decide +kernel
theorem dX9_told_7 : decode cX9_told 7 = .ok (.iconst 0, 1) := by decide +kernel
theorem dX9_told_8 : decode cX9_told 8 = .ok (.bipush 11, 2) := by decide +kernel
theorem dX9_told_10 : decode cX9_told 10 = .ok (.invokestatic 251, 3) := by decide +kernel
theorem dX9_told_13 : decode cX9_told 13 = .ok (.iconst 1, 1) := by decide +kernel
theorem dX9_told_14 : decode cX9_told 14 = .ok (.iconst 1, 1) := by decide +kernel
theorem dX9_told_15 : decode cX9_told 15 = .ok (.invokevirtual 358, 3) := by decide +kernel
theorem dX9_told_18 : decode cX9_told 18 = .ok (.ifCond .ne 5, 3) := by decide +kernel
theorem dX9_told_21 : decode cX9_told 21 = .ok (.iconst 0, 1) := by decide +kernel
theorem dX9_told_22 : decode cX9_told 22 = .ok (.ireturn, 1) := by decide +kernel
theorem dX9_told_23 : decode cX9_told 23 = .ok (.aload_n 0, 1) := by decide +kernel
theorem dX9_told_24 : decode cX9_told 24 = .ok (.invokevirtual 387, 3) := by decide +kernel
theorem dX9_told_27 : decode cX9_told 27 = .ok (.iload_n 1, 1) := by decide +kernel
theorem dX9_told_28 : decode cX9_told 28 = .ok (.tableswitch 121 0 10 #[60, 65, 70, 75, 82, 89, 96, 101, 106, 111, 116], 60) := by decide +kernel
theorem dX9_told_88 : decode cX9_told 88 = .ok (.aload_n 0, 1) := by decide +kernel
theorem dX9_told_89 : decode cX9_told 89 = .ok (.getfield 99, 3) := by decide +kernel
theorem dX9_told_92 : decode cX9_told 92 = .ok (.ireturn, 1) := by decide +kernel
theorem dX9_told_93 : decode cX9_told 93 = .ok (.aload_n 0, 1) := by decide +kernel
theorem dX9_told_94 : decode cX9_told 94 = .ok (.getfield 184, 3) := by decide +kernel
theorem dX9_told_97 : decode cX9_told 97 = .ok (.ireturn, 1) := by decide +kernel
theorem dX9_told_98 : decode cX9_told 98 = .ok (.aload_n 0, 1) := by decide +kernel
theorem dX9_told_99 : decode cX9_told 99 = .ok (.getfield 368, 3) := by decide +kernel
theorem dX9_told_102 : decode cX9_told 102 = .ok (.ireturn, 1) := by decide +kernel
theorem dX9_told_103 : decode cX9_told 103 = .ok (.aload_n 0, 1) := by decide +kernel
theorem dX9_told_104 : decode cX9_told 104 = .ok (.getfield 17, 3) := by decide +kernel
theorem dX9_told_107 : decode cX9_told 107 = .ok (.iconst 2, 1) := by decide +kernel
theorem dX9_told_108 : decode cX9_told 108 = .ok (.iaload, 1) := by decide +kernel
theorem dX9_told_109 : decode cX9_told 109 = .ok (.ireturn, 1) := by decide +kernel
theorem dX9_told_110 : decode cX9_told 110 = .ok (.aload_n 0, 1) := by decide +kernel
theorem dX9_told_111 : decode cX9_told 111 = .ok (.getfield 17, 3) := by decide +kernel
theorem dX9_told_114 : decode cX9_told 114 = .ok (.iconst 0, 1) := by decide +kernel
theorem dX9_told_115 : decode cX9_told 115 = .ok (.iaload, 1) := by decide +kernel
theorem dX9_told_116 : decode cX9_told 116 = .ok (.ireturn, 1) := by decide +kernel
theorem dX9_told_117 : decode cX9_told 117 = .ok (.aload_n 0, 1) := by decide +kernel
theorem dX9_told_118 : decode cX9_told 118 = .ok (.getfield 17, 3) := by decide +kernel
theorem dX9_told_121 : decode cX9_told 121 = .ok (.iconst 1, 1) := by decide +kernel
theorem dX9_told_122 : decode cX9_told 122 = .ok (.iaload, 1) := by decide +kernel
theorem dX9_told_123 : decode cX9_told 123 = .ok (.ireturn, 1) := by decide +kernel
theorem dX9_told_124 : decode cX9_told 124 = .ok (.aload_n 0, 1) := by decide +kernel
theorem dX9_told_125 : decode cX9_told 125 = .ok (.getfield 181, 3) := by decide +kernel
theorem dX9_told_128 : decode cX9_told 128 = .ok (.ireturn, 1) := by decide +kernel
theorem dX9_told_129 : decode cX9_told 129 = .ok (.aload_n 0, 1) := by decide +kernel
theorem dX9_told_130 : decode cX9_told 130 = .ok (.invokevirtual 389, 3) := by decide +kernel
theorem dX9_told_133 : decode cX9_told 133 = .ok (.ireturn, 1) := by decide +kernel
theorem dX9_told_134 : decode cX9_told 134 = .ok (.aload_n 0, 1) := by decide +kernel
theorem dX9_told_135 : decode cX9_told 135 = .ok (.invokevirtual 392, 3) := by decide +kernel
theorem dX9_told_138 : decode cX9_told 138 = .ok (.ireturn, 1) := by decide +kernel
theorem dX9_told_139 : decode cX9_told 139 = .ok (.aload_n 0, 1) := by decide +kernel
theorem dX9_told_140 : decode cX9_told 140 = .ok (.invokevirtual 395, 3) := by decide +kernel
theorem dX9_told_143 : decode cX9_told 143 = .ok (.ireturn, 1) := by decide +kernel
theorem dX9_told_144 : decode cX9_told 144 = .ok (.aload_n 0, 1) := by decide +kernel
theorem dX9_told_145 : decode cX9_told 145 = .ok (.getfield 371, 3) := by decide +kernel
theorem dX9_told_148 : decode cX9_told 148 = .ok (.ireturn, 1) := by decide +kernel
theorem dX9_told_149 : decode cX9_told 149 = .ok (.aload_n 0, 1) := by decide +kernel
theorem dX9_told_150 : decode cX9_told 150 = .ok (.getfield 197, 3) := by decide +kernel
theorem dX9_told_153 : decode cX9_told 153 = .ok (.ireturn, 1) := by decide +kernel
theorem dX9_isYear_0 : decode cX9_isYear 0 = .ok (.aload_n 0, 1) := by decide +kernel
theorem dX9_isYear_1 : decode cX9_isYear 1 = .ok (.iload_n 1, 1) := by decide +kernel
theorem dX9_isYear_2 : decode cX9_isYear 2 = .ok (.iconst 0, 1) := by decide +kernel
theorem dX9_isYear_3 : decode cX9_isYear 3 = .ok (.sipush 999, 3) := by decide +kernel
theorem dX9_isYear_6 : decode cX9_isYear 6 = .ok (.invokestatic 251, 3) := by decide +kernel
theorem dX9_isYear_9 : decode cX9_isYear 9 = .ok (.iconst 1, 1) := by decide +kernel
theorem dX9_isYear_10 : decode cX9_isYear 10 = .ok (.iconst 0, 1) := by decide +kernel
theorem dX9_isYear_11 : decode cX9_isYear 11 = .ok (.invokevirtual 358, 3) := by decide +kernel
theorem dX9_isYear_14 : decode cX9_isYear 14 = .ok (.ireturn, 1) := by decide +kernel
theorem dX9_age_0 : decode cX9_age 0 = .ok (.aload_n 0, 1) := by decide +kernel
theorem dX9_age_1 : decode cX9_age 1 = .ok (.iconst 0, 1) := by decide +kernel
theorem dX9_age_2 : decode cX9_age 2 = .ok (.putfield 1, 3) := by decide +kernel
theorem dX9_age_5 : decode cX9_age 5 = .ok (.aload_n 0, 1) := by decide +kernel
theorem dX9_age_6 : decode cX9_age 6 = .ok (.iload_n 1, 1) := by decide +kernel
theorem dX9_age_7 : decode cX9_age 7 = .ok (.invokevirtual 398, 3) := by decide +kernel
theorem dX9_age_10 : decode cX9_age 10 = .ok (.ifCond .eq 11, 3) := by decide +kernel
theorem dX9_age_13 : decode cX9_age 13 = .ok (.aload_n 0, 1) := by decide +kernel
theorem dX9_age_14 : decode cX9_age 14 = .ok (.iload_n 1, 1) := by decide +kernel
theorem dX9_age_15 : decode cX9_age 15 = .ok (.invokevirtual 106, 3) := by decide +kernel
theorem dX9_age_18 : decode cX9_age 18 = .ok (.goto 4, 3) := by decide +kernel
theorem dX9_age_21 : decode cX9_age 21 = .ok (.iconst 0, 1) := by decide +kernel
theorem dX9_age_22 : decode cX9_age 22 = .ok (.ireturn, 1) := by decide +kernel
theorem dX9_years_0 : decode cX9_years 0 = .ok (.aload_n 0, 1) := by decide +kernel
theorem dX9_years_1 : decode cX9_years 1 = .ok (.iconst 0, 1) := by decide +kernel
theorem dX9_years_2 : decode cX9_years 2 = .ok (.putfield 1, 3) := by decide +kernel
theorem dX9_years_5 : decode cX9_years 5 = .ok (.aload_n 0, 1) := by decide +kernel
theorem dX9_years_6 : decode cX9_years 6 = .ok (.iload_n 1, 1) := by decide +kernel
theorem dX9_years_7 : decode cX9_years 7 = .ok (.iconst 0, 1) := by decide +kernel
theorem dX9_years_8 : decode cX9_years 8 = .ok (.sipush 9999, 3) := by decide +kernel
theorem dX9_years_11 : decode cX9_years 11 = .ok (.invokestatic 251, 3) := by decide +kernel
theorem dX9_years_14 : decode cX9_years 14 = .ok (.ifCond .eq 16, 3) := by decide +kernel
theorem dX9_years_17 : decode cX9_years 17 = .ok (.iload_n 2, 1) := by decide +kernel
theorem dX9_years_18 : decode cX9_years 18 = .ok (.iconst 0, 1) := by decide +kernel
theorem dX9_years_19 : decode cX9_years 19 = .ok (.iconst 2, 1) := by decide +kernel
theorem dX9_years_20 : decode cX9_years 20 = .ok (.invokestatic 251, 3) := by decide +kernel
theorem dX9_years_23 : decode cX9_years 23 = .ok (.ifCond .eq 7, 3) := by decide +kernel
theorem dX9_years_26 : decode cX9_years 26 = .ok (.iconst 1, 1) := by decide +kernel
theorem dX9_years_27 : decode cX9_years 27 = .ok (.goto 4, 3) := by decide +kernel
theorem dX9_years_30 : decode cX9_years 30 = .ok (.iconst 0, 1) := by decide +kernel
theorem dX9_years_31 : decode cX9_years 31 = .ok (.iconst 1, 1) := by decide +kernel
theorem dX9_years_32 : decode cX9_years 32 = .ok (.iconst 1, 1) := by decide +kernel
theorem dX9_years_33 : decode cX9_years 33 = .ok (.invokevirtual 358, 3) := by decide +kernel
theorem dX9_years_36 : decode cX9_years 36 = .ok (.ifCond .ne 5, 3) := by decide +kernel
theorem dX9_years_39 : decode cX9_years 39 = .ok (.iconst 0, 1) := by decide +kernel
theorem dX9_years_40 : decode cX9_years 40 = .ok (.ireturn, 1) := by decide +kernel
theorem dX9_years_41 : decode cX9_years 41 = .ok (.iconst 0, 1) := by decide +kernel
theorem dX9_years_42 : decode cX9_years 42 = .ok (.istore_n 3, 1) := by decide +kernel
theorem dX9_years_43 : decode cX9_years 43 = .ok (.iconst (-1), 1) := by decide +kernel
theorem dX9_years_44 : decode cX9_years 44 = .ok (.istore 4, 2) := by decide +kernel
theorem dX9_years_46 : decode cX9_years 46 = .ok (.iconst (-1), 1) := by decide +kernel
theorem dX9_years_47 : decode cX9_years 47 = .ok (.istore 5, 2) := by decide +kernel
theorem dX9_years_49 : decode cX9_years 49 = .ok (.iconst 0, 1) := by decide +kernel
theorem dX9_years_50 : decode cX9_years 50 = .ok (.istore 6, 2) := by decide +kernel
theorem dX9_years_52 : decode cX9_years 52 = .ok (.iload 6, 2) := by decide +kernel
theorem dX9_years_54 : decode cX9_years 54 = .ok (.sipush 1000, 3) := by decide +kernel
theorem dX9_years_57 : decode cX9_years 57 = .ok (.if_icmp .ge 42, 3) := by decide +kernel
theorem dX9_years_60 : decode cX9_years 60 = .ok (.aload_n 0, 1) := by decide +kernel
theorem dX9_years_61 : decode cX9_years 61 = .ok (.iload 6, 2) := by decide +kernel
theorem dX9_years_63 : decode cX9_years 63 = .ok (.invokevirtual 106, 3) := by decide +kernel
theorem dX9_years_66 : decode cX9_years 66 = .ok (.iload_n 1, 1) := by decide +kernel
theorem dX9_years_67 : decode cX9_years 67 = .ok (.if_icmp .eq 6, 3) := by decide +kernel
theorem dX9_years_70 : decode cX9_years 70 = .ok (.goto 23, 3) := by decide +kernel
theorem dX9_years_73 : decode cX9_years 73 = .ok (.iload_n 3, 1) := by decide +kernel
theorem dX9_years_74 : decode cX9_years 74 = .ok (.ifCond .ne 8, 3) := by decide +kernel
theorem dX9_years_77 : decode cX9_years 77 = .ok (.iload 6, 2) := by decide +kernel
theorem dX9_years_79 : decode cX9_years 79 = .ok (.goto 5, 3) := by decide +kernel
theorem dX9_years_82 : decode cX9_years 82 = .ok (.iload 4, 2) := by decide +kernel
theorem dX9_years_84 : decode cX9_years 84 = .ok (.istore 4, 2) := by decide +kernel
theorem dX9_years_86 : decode cX9_years 86 = .ok (.iload 6, 2) := by decide +kernel
theorem dX9_years_88 : decode cX9_years 88 = .ok (.istore 5, 2) := by decide +kernel
theorem dX9_years_90 : decode cX9_years 90 = .ok (.iinc 3 1, 3) := by decide +kernel
theorem dX9_years_93 : decode cX9_years 93 = .ok (.iinc 6 1, 3) := by decide +kernel
theorem dX9_years_96 : decode cX9_years 96 = .ok (.goto (-44), 3) := by decide +kernel
theorem dX9_years_99 : decode cX9_years 99 = .ok (.iload_n 2, 1) := by decide +kernel
theorem dX9_years_100 : decode cX9_years 100 = .ok (.ifCond .ne 7, 3) := by decide +kernel
theorem dX9_years_103 : decode cX9_years 103 = .ok (.iload_n 3, 1) := by decide +kernel
theorem dX9_years_104 : decode cX9_years 104 = .ok (.goto 15, 3) := by decide +kernel
theorem dX9_years_107 : decode cX9_years 107 = .ok (.iload_n 2, 1) := by decide +kernel
theorem dX9_years_108 : decode cX9_years 108 = .ok (.iconst 1, 1) := by decide +kernel
theorem dX9_years_109 : decode cX9_years 109 = .ok (.if_icmp .ne 8, 3) := by decide +kernel
theorem dX9_years_112 : decode cX9_years 112 = .ok (.iload 4, 2) := by decide +kernel
theorem dX9_years_114 : decode cX9_years 114 = .ok (.goto 5, 3) := by decide +kernel
theorem dX9_years_117 : decode cX9_years 117 = .ok (.iload 5, 2) := by decide +kernel
theorem dX9_years_119 : decode cX9_years 119 = .ok (.ireturn, 1) := by decide +kernel
theorem dX9_knot_0 : decode cX9_knot 0 = .ok (.aload_n 0, 1) := by decide +kernel
theorem dX9_knot_1 : decode cX9_knot 1 = .ok (.iconst 0, 1) := by decide +kernel
theorem dX9_knot_2 : decode cX9_knot 2 = .ok (.putfield 1, 3) := by decide +kernel
theorem dX9_knot_5 : decode cX9_knot 5 = .ok (.aload_n 0, 1) := by decide +kernel
theorem dX9_knot_6 : decode cX9_knot 6 = .ok (.iload_n 1, 1) := by decide +kernel
theorem dX9_knot_7 : decode cX9_knot 7 = .ok (.iconst 0, 1) := by decide +kernel
theorem dX9_knot_8 : decode cX9_knot 8 = .ok (.aload_n 0, 1) := by decide +kernel
theorem dX9_knot_9 : decode cX9_knot 9 = .ok (.getfield 99, 3) := by decide +kernel
theorem dX9_knot_12 : decode cX9_knot 12 = .ok (.iconst 1, 1) := by decide +kernel
theorem dX9_knot_13 : decode cX9_knot 13 = .ok (.isub, 1) := by decide +kernel
theorem dX9_knot_14 : decode cX9_knot 14 = .ok (.invokestatic 251, 3) := by decide +kernel
theorem dX9_knot_17 : decode cX9_knot 17 = .ok (.iconst 1, 1) := by decide +kernel
theorem dX9_knot_18 : decode cX9_knot 18 = .ok (.iconst 0, 1) := by decide +kernel
theorem dX9_knot_19 : decode cX9_knot 19 = .ok (.invokevirtual 358, 3) := by decide +kernel
theorem dX9_knot_22 : decode cX9_knot 22 = .ok (.ifCond .eq 18, 3) := by decide +kernel
theorem dX9_knot_25 : decode cX9_knot 25 = .ok (.aload_n 0, 1) := by decide +kernel
theorem dX9_knot_26 : decode cX9_knot 26 = .ok (.iload_n 2, 1) := by decide +kernel
theorem dX9_knot_27 : decode cX9_knot 27 = .ok (.iconst 0, 1) := by decide +kernel
theorem dX9_knot_28 : decode cX9_knot 28 = .ok (.iconst 1, 1) := by decide +kernel
theorem dX9_knot_29 : decode cX9_knot 29 = .ok (.invokestatic 251, 3) := by decide +kernel
theorem dX9_knot_32 : decode cX9_knot 32 = .ok (.iconst 2, 1) := by decide +kernel
theorem dX9_knot_33 : decode cX9_knot 33 = .ok (.iconst 1, 1) := by decide +kernel
theorem dX9_knot_34 : decode cX9_knot 34 = .ok (.invokevirtual 358, 3) := by decide +kernel
theorem dX9_knot_37 : decode cX9_knot 37 = .ok (.ifCond .ne 5, 3) := by decide +kernel
theorem dX9_knot_40 : decode cX9_knot 40 = .ok (.iconst 0, 1) := by decide +kernel
theorem dX9_knot_41 : decode cX9_knot 41 = .ok (.ireturn, 1) := by decide +kernel
theorem dX9_knot_42 : decode cX9_knot 42 = .ok (.iload_n 2, 1) := by decide +kernel
theorem dX9_knot_43 : decode cX9_knot 43 = .ok (.ifCond .ne 12, 3) := by decide +kernel
theorem dX9_knot_46 : decode cX9_knot 46 = .ok (.aload_n 0, 1) := by decide +kernel
theorem dX9_knot_47 : decode cX9_knot 47 = .ok (.getfield 26, 3) := by decide +kernel
theorem dX9_knot_50 : decode cX9_knot 50 = .ok (.iload_n 1, 1) := by decide +kernel
theorem dX9_knot_51 : decode cX9_knot 51 = .ok (.iaload, 1) := by decide +kernel
theorem dX9_knot_52 : decode cX9_knot 52 = .ok (.goto 9, 3) := by decide +kernel
theorem dX9_knot_55 : decode cX9_knot 55 = .ok (.aload_n 0, 1) := by decide +kernel
theorem dX9_knot_56 : decode cX9_knot 56 = .ok (.getfield 29, 3) := by decide +kernel
theorem dX9_knot_59 : decode cX9_knot 59 = .ok (.iload_n 1, 1) := by decide +kernel
theorem dX9_knot_60 : decode cX9_knot 60 = .ok (.iaload, 1) := by decide +kernel
theorem dX9_knot_61 : decode cX9_knot 61 = .ok (.ireturn, 1) := by decide +kernel
theorem dX9_begins_0 : decode cX9_begins 0 = .ok (.aload_n 1, 1) := by decide +kernel
theorem dX9_begins_1 : decode cX9_begins 1 = .ok (.iload_n 2, 1) := by decide +kernel
theorem dX9_begins_2 : decode cX9_begins 2 = .ok (.baload, 1) := by decide +kernel
theorem dX9_begins_3 : decode cX9_begins 3 = .ok (.ifCond .eq 19, 3) := by decide +kernel
theorem dX9_begins_6 : decode cX9_begins 6 = .ok (.iload_n 2, 1) := by decide +kernel
theorem dX9_begins_7 : decode cX9_begins 7 = .ok (.ifCond .eq 11, 3) := by decide +kernel
theorem dX9_begins_10 : decode cX9_begins 10 = .ok (.aload_n 1, 1) := by decide +kernel
theorem dX9_begins_11 : decode cX9_begins 11 = .ok (.iload_n 2, 1) := by decide +kernel
theorem dX9_begins_12 : decode cX9_begins 12 = .ok (.iconst 1, 1) := by decide +kernel
theorem dX9_begins_13 : decode cX9_begins 13 = .ok (.isub, 1) := by decide +kernel
theorem dX9_begins_14 : decode cX9_begins 14 = .ok (.baload, 1) := by decide +kernel
theorem dX9_begins_15 : decode cX9_begins 15 = .ok (.ifCond .ne 7, 3) := by decide +kernel
theorem dX9_begins_18 : decode cX9_begins 18 = .ok (.iconst 1, 1) := by decide +kernel
theorem dX9_begins_19 : decode cX9_begins 19 = .ok (.goto 4, 3) := by decide +kernel
theorem dX9_begins_22 : decode cX9_begins 22 = .ok (.iconst 0, 1) := by decide +kernel
theorem dX9_begins_23 : decode cX9_begins 23 = .ok (.ireturn, 1) := by decide +kernel
theorem dX9_intervals_0 : decode cX9_intervals 0 = .ok (.iconst 0, 1) := by decide +kernel
theorem dX9_intervals_1 : decode cX9_intervals 1 = .ok (.istore_n 2, 1) := by decide +kernel
theorem dX9_intervals_2 : decode cX9_intervals 2 = .ok (.iconst 0, 1) := by decide +kernel
theorem dX9_intervals_3 : decode cX9_intervals 3 = .ok (.istore_n 3, 1) := by decide +kernel
theorem dX9_intervals_4 : decode cX9_intervals 4 = .ok (.iload_n 3, 1) := by decide +kernel
theorem dX9_intervals_5 : decode cX9_intervals 5 = .ok (.sipush 1000, 3) := by decide +kernel
theorem dX9_intervals_8 : decode cX9_intervals 8 = .ok (.if_icmp .ge 26, 3) := by decide +kernel
theorem dX9_intervals_11 : decode cX9_intervals 11 = .ok (.iload_n 2, 1) := by decide +kernel
theorem dX9_intervals_12 : decode cX9_intervals 12 = .ok (.aload_n 0, 1) := by decide +kernel
theorem dX9_intervals_13 : decode cX9_intervals 13 = .ok (.aload_n 1, 1) := by decide +kernel
theorem dX9_intervals_14 : decode cX9_intervals 14 = .ok (.iload_n 3, 1) := by decide +kernel
theorem dX9_intervals_15 : decode cX9_intervals 15 = .ok (.invokevirtual 401, 3) := by decide +kernel
theorem dX9_intervals_18 : decode cX9_intervals 18 = .ok (.ifCond .eq 7, 3) := by decide +kernel
theorem dX9_intervals_21 : decode cX9_intervals 21 = .ok (.iconst 1, 1) := by decide +kernel
theorem dX9_intervals_22 : decode cX9_intervals 22 = .ok (.goto 4, 3) := by decide +kernel
theorem dX9_intervals_25 : decode cX9_intervals 25 = .ok (.iconst 0, 1) := by decide +kernel
theorem dX9_intervals_26 : decode cX9_intervals 26 = .ok (.iadd, 1) := by decide +kernel
theorem dX9_intervals_27 : decode cX9_intervals 27 = .ok (.istore_n 2, 1) := by decide +kernel
theorem dX9_intervals_28 : decode cX9_intervals 28 = .ok (.iinc 3 1, 3) := by decide +kernel
theorem dX9_intervals_31 : decode cX9_intervals 31 = .ok (.goto (-27), 3) := by decide +kernel
theorem dX9_intervals_34 : decode cX9_intervals 34 = .ok (.iload_n 2, 1) := by decide +kernel
theorem dX9_intervals_35 : decode cX9_intervals 35 = .ok (.ireturn, 1) := by decide +kernel
theorem dX9_earliest_0 : decode cX9_earliest 0 = .ok (.iconst 0, 1) := by decide +kernel
theorem dX9_earliest_1 : decode cX9_earliest 1 = .ok (.istore_n 2, 1) := by decide +kernel
theorem dX9_earliest_2 : decode cX9_earliest 2 = .ok (.iload_n 2, 1) := by decide +kernel
theorem dX9_earliest_3 : decode cX9_earliest 3 = .ok (.sipush 1000, 3) := by decide +kernel
theorem dX9_earliest_6 : decode cX9_earliest 6 = .ok (.if_icmp .ge 22, 3) := by decide +kernel
theorem dX9_earliest_9 : decode cX9_earliest 9 = .ok (.aload_n 0, 1) := by decide +kernel
theorem dX9_earliest_10 : decode cX9_earliest 10 = .ok (.getfield 43, 3) := by decide +kernel
theorem dX9_earliest_13 : decode cX9_earliest 13 = .ok (.iload_n 1, 1) := by decide +kernel
theorem dX9_earliest_14 : decode cX9_earliest 14 = .ok (.aaload, 1) := by decide +kernel
theorem dX9_earliest_15 : decode cX9_earliest 15 = .ok (.iload_n 2, 1) := by decide +kernel
theorem dX9_earliest_16 : decode cX9_earliest 16 = .ok (.baload, 1) := by decide +kernel
theorem dX9_earliest_17 : decode cX9_earliest 17 = .ok (.ifCond .eq 5, 3) := by decide +kernel
theorem dX9_earliest_20 : decode cX9_earliest 20 = .ok (.iload_n 2, 1) := by decide +kernel
theorem dX9_earliest_21 : decode cX9_earliest 21 = .ok (.ireturn, 1) := by decide +kernel
theorem dX9_earliest_22 : decode cX9_earliest 22 = .ok (.iinc 2 1, 3) := by decide +kernel
theorem dX9_earliest_25 : decode cX9_earliest 25 = .ok (.goto (-23), 3) := by decide +kernel
theorem dX9_earliest_28 : decode cX9_earliest 28 = .ok (.iconst (-1), 1) := by decide +kernel
theorem dX9_earliest_29 : decode cX9_earliest 29 = .ok (.ireturn, 1) := by decide +kernel
theorem dX9_latest_0 : decode cX9_latest 0 = .ok (.sipush 999, 3) := by decide +kernel
theorem dX9_latest_3 : decode cX9_latest 3 = .ok (.istore_n 2, 1) := by decide +kernel
theorem dX9_latest_4 : decode cX9_latest 4 = .ok (.iload_n 2, 1) := by decide +kernel
theorem dX9_latest_5 : decode cX9_latest 5 = .ok (.ifCond .lt 22, 3) := by decide +kernel
theorem dX9_latest_8 : decode cX9_latest 8 = .ok (.aload_n 0, 1) := by decide +kernel
theorem dX9_latest_9 : decode cX9_latest 9 = .ok (.getfield 43, 3) := by decide +kernel
theorem dX9_latest_12 : decode cX9_latest 12 = .ok (.iload_n 1, 1) := by decide +kernel
theorem dX9_latest_13 : decode cX9_latest 13 = .ok (.aaload, 1) := by decide +kernel
theorem dX9_latest_14 : decode cX9_latest 14 = .ok (.iload_n 2, 1) := by decide +kernel
theorem dX9_latest_15 : decode cX9_latest 15 = .ok (.baload, 1) := by decide +kernel
theorem dX9_latest_16 : decode cX9_latest 16 = .ok (.ifCond .eq 5, 3) := by decide +kernel
theorem dX9_latest_19 : decode cX9_latest 19 = .ok (.iload_n 2, 1) := by decide +kernel
theorem dX9_latest_20 : decode cX9_latest 20 = .ok (.ireturn, 1) := by decide +kernel
theorem dX9_latest_21 : decode cX9_latest 21 = .ok (.iinc 2 (-1), 3) := by decide +kernel
theorem dX9_latest_24 : decode cX9_latest 24 = .ok (.goto (-20), 3) := by decide +kernel
theorem dX9_latest_27 : decode cX9_latest 27 = .ok (.iconst (-1), 1) := by decide +kernel
theorem dX9_latest_28 : decode cX9_latest 28 = .ok (.ireturn, 1) := by decide +kernel
theorem dX9_bestYear_0 : decode cX9_bestYear 0 = .ok (.iconst (-1), 1) := by decide +kernel
theorem dX9_bestYear_1 : decode cX9_bestYear 1 = .ok (.istore_n 2, 1) := by decide +kernel
theorem dX9_bestYear_2 : decode cX9_bestYear 2 = .ok (.iconst (-1), 1) := by decide +kernel
theorem dX9_bestYear_3 : decode cX9_bestYear 3 = .ok (.istore_n 3, 1) := by decide +kernel
theorem dX9_bestYear_4 : decode cX9_bestYear 4 = .ok (.iconst 0, 1) := by decide +kernel
theorem dX9_bestYear_5 : decode cX9_bestYear 5 = .ok (.istore 4, 2) := by decide +kernel
theorem dX9_bestYear_7 : decode cX9_bestYear 7 = .ok (.iload 4, 2) := by decide +kernel
theorem dX9_bestYear_9 : decode cX9_bestYear 9 = .ok (.sipush 1000, 3) := by decide +kernel
theorem dX9_bestYear_12 : decode cX9_bestYear 12 = .ok (.if_icmp .ge 53, 3) := by decide +kernel
theorem dX9_bestYear_15 : decode cX9_bestYear 15 = .ok (.aload_n 0, 1) := by decide +kernel
theorem dX9_bestYear_16 : decode cX9_bestYear 16 = .ok (.getfield 43, 3) := by decide +kernel
theorem dX9_bestYear_19 : decode cX9_bestYear 19 = .ok (.iload_n 1, 1) := by decide +kernel
theorem dX9_bestYear_20 : decode cX9_bestYear 20 = .ok (.aaload, 1) := by decide +kernel
theorem dX9_bestYear_21 : decode cX9_bestYear 21 = .ok (.iload 4, 2) := by decide +kernel
theorem dX9_bestYear_23 : decode cX9_bestYear 23 = .ok (.baload, 1) := by decide +kernel
theorem dX9_bestYear_24 : decode cX9_bestYear 24 = .ok (.ifCond .ne 6, 3) := by decide +kernel
theorem dX9_bestYear_27 : decode cX9_bestYear 27 = .ok (.goto 32, 3) := by decide +kernel
theorem dX9_bestYear_30 : decode cX9_bestYear 30 = .ok (.aload_n 0, 1) := by decide +kernel
theorem dX9_bestYear_31 : decode cX9_bestYear 31 = .ok (.iload_n 1, 1) := by decide +kernel
theorem dX9_bestYear_32 : decode cX9_bestYear 32 = .ok (.iload 4, 2) := by decide +kernel
theorem dX9_bestYear_34 : decode cX9_bestYear 34 = .ok (.invokevirtual 115, 3) := by decide +kernel
theorem dX9_bestYear_37 : decode cX9_bestYear 37 = .ok (.istore 5, 2) := by decide +kernel
theorem dX9_bestYear_39 : decode cX9_bestYear 39 = .ok (.iload_n 2, 1) := by decide +kernel
theorem dX9_bestYear_40 : decode cX9_bestYear 40 = .ok (.iconst (-1), 1) := by decide +kernel
theorem dX9_bestYear_41 : decode cX9_bestYear 41 = .ok (.if_icmp .eq 12, 3) := by decide +kernel
theorem dX9_bestYear_44 : decode cX9_bestYear 44 = .ok (.iload 5, 2) := by decide +kernel
theorem dX9_bestYear_46 : decode cX9_bestYear 46 = .ok (.iload_n 3, 1) := by decide +kernel
theorem dX9_bestYear_47 : decode cX9_bestYear 47 = .ok (.if_icmp .lt 6, 3) := by decide +kernel
theorem dX9_bestYear_50 : decode cX9_bestYear 50 = .ok (.goto 9, 3) := by decide +kernel
theorem dX9_bestYear_53 : decode cX9_bestYear 53 = .ok (.iload 4, 2) := by decide +kernel
theorem dX9_bestYear_55 : decode cX9_bestYear 55 = .ok (.istore_n 2, 1) := by decide +kernel
theorem dX9_bestYear_56 : decode cX9_bestYear 56 = .ok (.iload 5, 2) := by decide +kernel
theorem dX9_bestYear_58 : decode cX9_bestYear 58 = .ok (.istore_n 3, 1) := by decide +kernel
theorem dX9_bestYear_59 : decode cX9_bestYear 59 = .ok (.iinc 4 1, 3) := by decide +kernel
theorem dX9_bestYear_62 : decode cX9_bestYear 62 = .ok (.goto (-55), 3) := by decide +kernel
theorem dX9_bestYear_65 : decode cX9_bestYear 65 = .ok (.iload_n 2, 1) := by decide +kernel
theorem dX9_bestYear_66 : decode cX9_bestYear 66 = .ok (.ireturn, 1) := by decide +kernel
theorem dX9_sample_0 : decode cX9_sample 0 = .ok (.aload_n 0, 1) := by decide +kernel
theorem dX9_sample_1 : decode cX9_sample 1 = .ok (.iconst 0, 1) := by decide +kernel
theorem dX9_sample_2 : decode cX9_sample 2 = .ok (.putfield 1, 3) := by decide +kernel
theorem dX9_sample_5 : decode cX9_sample 5 = .ok (.aload_n 0, 1) := by decide +kernel
theorem dX9_sample_6 : decode cX9_sample 6 = .ok (.iload_n 1, 1) := by decide +kernel
theorem dX9_sample_7 : decode cX9_sample 7 = .ok (.invokevirtual 377, 3) := by decide +kernel
theorem dX9_sample_10 : decode cX9_sample 10 = .ok (.ifCond .eq 19, 3) := by decide +kernel
theorem dX9_sample_13 : decode cX9_sample 13 = .ok (.aload_n 0, 1) := by decide +kernel
theorem dX9_sample_14 : decode cX9_sample 14 = .ok (.iload_n 2, 1) := by decide +kernel
theorem dX9_sample_15 : decode cX9_sample 15 = .ok (.iconst 0, 1) := by decide +kernel
theorem dX9_sample_16 : decode cX9_sample 16 = .ok (.bipush 9, 2) := by decide +kernel
theorem dX9_sample_18 : decode cX9_sample 18 = .ok (.invokestatic 251, 3) := by decide +kernel
theorem dX9_sample_21 : decode cX9_sample 21 = .ok (.iconst 2, 1) := by decide +kernel
theorem dX9_sample_22 : decode cX9_sample 22 = .ok (.iconst 1, 1) := by decide +kernel
theorem dX9_sample_23 : decode cX9_sample 23 = .ok (.invokevirtual 358, 3) := by decide +kernel
theorem dX9_sample_26 : decode cX9_sample 26 = .ok (.ifCond .ne 5, 3) := by decide +kernel
theorem dX9_sample_29 : decode cX9_sample 29 = .ok (.iconst 0, 1) := by decide +kernel
theorem dX9_sample_30 : decode cX9_sample 30 = .ok (.ireturn, 1) := by decide +kernel
theorem dX9_sample_31 : decode cX9_sample 31 = .ok (.aload_n 0, 1) := by decide +kernel
theorem dX9_sample_32 : decode cX9_sample 32 = .ok (.invokevirtual 387, 3) := by decide +kernel
theorem dX9_sample_35 : decode cX9_sample 35 = .ok (.iload_n 2, 1) := by decide +kernel
theorem dX9_sample_36 : decode cX9_sample 36 = .ok (.tableswitch 110 0 8 #[52, 52, 52, 59, 70, 81, 87, 93, 104], 52) := by decide +kernel
theorem dX9_sample_88 : decode cX9_sample 88 = .ok (.aload_n 0, 1) := by decide +kernel
theorem dX9_sample_89 : decode cX9_sample 89 = .ok (.iload_n 1, 1) := by decide +kernel
theorem dX9_sample_90 : decode cX9_sample 90 = .ok (.iload_n 2, 1) := by decide +kernel
theorem dX9_sample_91 : decode cX9_sample 91 = .ok (.invokevirtual 102, 3) := by decide +kernel
theorem dX9_sample_94 : decode cX9_sample 94 = .ok (.ireturn, 1) := by decide +kernel
theorem dX9_sample_95 : decode cX9_sample 95 = .ok (.aload_n 0, 1) := by decide +kernel
theorem dX9_sample_96 : decode cX9_sample 96 = .ok (.aload_n 0, 1) := by decide +kernel
theorem dX9_sample_97 : decode cX9_sample 97 = .ok (.getfield 40, 3) := by decide +kernel
theorem dX9_sample_100 : decode cX9_sample 100 = .ok (.iload_n 1, 1) := by decide +kernel
theorem dX9_sample_101 : decode cX9_sample 101 = .ok (.aaload, 1) := by decide +kernel
theorem dX9_sample_102 : decode cX9_sample 102 = .ok (.invokevirtual 128, 3) := by decide +kernel
theorem dX9_sample_105 : decode cX9_sample 105 = .ok (.ireturn, 1) := by decide +kernel
theorem dX9_sample_106 : decode cX9_sample 106 = .ok (.aload_n 0, 1) := by decide +kernel
theorem dX9_sample_107 : decode cX9_sample 107 = .ok (.aload_n 0, 1) := by decide +kernel
theorem dX9_sample_108 : decode cX9_sample 108 = .ok (.getfield 43, 3) := by decide +kernel
theorem dX9_sample_111 : decode cX9_sample 111 = .ok (.iload_n 1, 1) := by decide +kernel
theorem dX9_sample_112 : decode cX9_sample 112 = .ok (.aaload, 1) := by decide +kernel
theorem dX9_sample_113 : decode cX9_sample 113 = .ok (.invokevirtual 128, 3) := by decide +kernel
theorem dX9_sample_116 : decode cX9_sample 116 = .ok (.ireturn, 1) := by decide +kernel
theorem dX9_sample_117 : decode cX9_sample 117 = .ok (.aload_n 0, 1) := by decide +kernel
theorem dX9_sample_118 : decode cX9_sample 118 = .ok (.iload_n 1, 1) := by decide +kernel
theorem dX9_sample_119 : decode cX9_sample 119 = .ok (.invokevirtual 405, 3) := by decide +kernel
theorem dX9_sample_122 : decode cX9_sample 122 = .ok (.ireturn, 1) := by decide +kernel
theorem dX9_sample_123 : decode cX9_sample 123 = .ok (.aload_n 0, 1) := by decide +kernel
theorem dX9_sample_124 : decode cX9_sample 124 = .ok (.iload_n 1, 1) := by decide +kernel
theorem dX9_sample_125 : decode cX9_sample 125 = .ok (.invokevirtual 408, 3) := by decide +kernel
theorem dX9_sample_128 : decode cX9_sample 128 = .ok (.ireturn, 1) := by decide +kernel
theorem dX9_sample_129 : decode cX9_sample 129 = .ok (.aload_n 0, 1) := by decide +kernel
theorem dX9_sample_130 : decode cX9_sample 130 = .ok (.aload_n 0, 1) := by decide +kernel
theorem dX9_sample_131 : decode cX9_sample 131 = .ok (.getfield 43, 3) := by decide +kernel
theorem dX9_sample_134 : decode cX9_sample 134 = .ok (.iload_n 1, 1) := by decide +kernel
theorem dX9_sample_135 : decode cX9_sample 135 = .ok (.aaload, 1) := by decide +kernel
theorem dX9_sample_136 : decode cX9_sample 136 = .ok (.invokevirtual 411, 3) := by decide +kernel
theorem dX9_sample_139 : decode cX9_sample 139 = .ok (.ireturn, 1) := by decide +kernel
theorem dX9_sample_140 : decode cX9_sample 140 = .ok (.aload_n 0, 1) := by decide +kernel
theorem dX9_sample_141 : decode cX9_sample 141 = .ok (.iload_n 1, 1) := by decide +kernel
theorem dX9_sample_142 : decode cX9_sample 142 = .ok (.invokevirtual 414, 3) := by decide +kernel
theorem dX9_sample_145 : decode cX9_sample 145 = .ok (.ireturn, 1) := by decide +kernel
theorem dX9_sample_146 : decode cX9_sample 146 = .ok (.aload_n 0, 1) := by decide +kernel
theorem dX9_sample_147 : decode cX9_sample 147 = .ok (.iload_n 1, 1) := by decide +kernel
theorem dX9_sample_148 : decode cX9_sample 148 = .ok (.invokevirtual 414, 3) := by decide +kernel
theorem dX9_sample_151 : decode cX9_sample 151 = .ok (.iconst (-1), 1) := by decide +kernel
theorem dX9_sample_152 : decode cX9_sample 152 = .ok (.if_icmp .ne 7, 3) := by decide +kernel
theorem dX9_sample_155 : decode cX9_sample 155 = .ok (.iconst (-1), 1) := by decide +kernel
theorem dX9_sample_156 : decode cX9_sample 156 = .ok (.goto 13, 3) := by decide +kernel
theorem dX9_sample_159 : decode cX9_sample 159 = .ok (.aload_n 0, 1) := by decide +kernel
theorem dX9_sample_160 : decode cX9_sample 160 = .ok (.iload_n 1, 1) := by decide +kernel
theorem dX9_sample_161 : decode cX9_sample 161 = .ok (.aload_n 0, 1) := by decide +kernel
theorem dX9_sample_162 : decode cX9_sample 162 = .ok (.iload_n 1, 1) := by decide +kernel
theorem dX9_sample_163 : decode cX9_sample 163 = .ok (.invokevirtual 414, 3) := by decide +kernel
theorem dX9_sample_166 : decode cX9_sample 166 = .ok (.invokevirtual 115, 3) := by decide +kernel
theorem dX9_sample_169 : decode cX9_sample 169 = .ok (.ireturn, 1) := by decide +kernel
theorem dX9_intervalFrom_0 : decode cX9_intervalFrom 0 = .ok (.iconst 0, 1) := by decide +kernel
theorem dX9_intervalFrom_1 : decode cX9_intervalFrom 1 = .ok (.istore_n 3, 1) := by decide +kernel
theorem dX9_intervalFrom_2 : decode cX9_intervalFrom 2 = .ok (.iconst 0, 1) := by decide +kernel
theorem dX9_intervalFrom_3 : decode cX9_intervalFrom 3 = .ok (.istore 4, 2) := by decide +kernel
theorem dX9_intervalFrom_5 : decode cX9_intervalFrom 5 = .ok (.iload 4, 2) := by decide +kernel
theorem dX9_intervalFrom_7 : decode cX9_intervalFrom 7 = .ok (.sipush 1000, 3) := by decide +kernel
theorem dX9_intervalFrom_10 : decode cX9_intervalFrom 10 = .ok (.if_icmp .ge 38, 3) := by decide +kernel
theorem dX9_intervalFrom_13 : decode cX9_intervalFrom 13 = .ok (.aload_n 0, 1) := by decide +kernel
theorem dX9_intervalFrom_14 : decode cX9_intervalFrom 14 = .ok (.aload_n 0, 1) := by decide +kernel
theorem dX9_intervalFrom_15 : decode cX9_intervalFrom 15 = .ok (.getfield 43, 3) := by decide +kernel
theorem dX9_intervalFrom_18 : decode cX9_intervalFrom 18 = .ok (.iload_n 1, 1) := by decide +kernel
theorem dX9_intervalFrom_19 : decode cX9_intervalFrom 19 = .ok (.aaload, 1) := by decide +kernel
theorem dX9_intervalFrom_20 : decode cX9_intervalFrom 20 = .ok (.iload 4, 2) := by decide +kernel
theorem dX9_intervalFrom_22 : decode cX9_intervalFrom 22 = .ok (.invokevirtual 401, 3) := by decide +kernel
theorem dX9_intervalFrom_25 : decode cX9_intervalFrom 25 = .ok (.ifCond .ne 6, 3) := by decide +kernel
theorem dX9_intervalFrom_28 : decode cX9_intervalFrom 28 = .ok (.goto 14, 3) := by decide +kernel
theorem dX9_intervalFrom_31 : decode cX9_intervalFrom 31 = .ok (.iload_n 3, 1) := by decide +kernel
theorem dX9_intervalFrom_32 : decode cX9_intervalFrom 32 = .ok (.iload_n 2, 1) := by decide +kernel
theorem dX9_intervalFrom_33 : decode cX9_intervalFrom 33 = .ok (.if_icmp .ne 6, 3) := by decide +kernel
theorem dX9_intervalFrom_36 : decode cX9_intervalFrom 36 = .ok (.iload 4, 2) := by decide +kernel
theorem dX9_intervalFrom_38 : decode cX9_intervalFrom 38 = .ok (.ireturn, 1) := by decide +kernel
theorem dX9_intervalFrom_39 : decode cX9_intervalFrom 39 = .ok (.iinc 3 1, 3) := by decide +kernel
theorem dX9_intervalFrom_42 : decode cX9_intervalFrom 42 = .ok (.iinc 4 1, 3) := by decide +kernel
theorem dX9_intervalFrom_45 : decode cX9_intervalFrom 45 = .ok (.goto (-40), 3) := by decide +kernel
theorem dX9_intervalFrom_48 : decode cX9_intervalFrom 48 = .ok (.iconst (-1), 1) := by decide +kernel
theorem dX9_intervalFrom_49 : decode cX9_intervalFrom 49 = .ok (.ireturn, 1) := by decide +kernel
theorem dX9_intervalTo_0 : decode cX9_intervalTo 0 = .ok (.iload_n 2, 1) := by decide +kernel
theorem dX9_intervalTo_1 : decode cX9_intervalTo 1 = .ok (.istore_n 3, 1) := by decide +kernel
theorem dX9_intervalTo_2 : decode cX9_intervalTo 2 = .ok (.iload_n 3, 1) := by decide +kernel
theorem dX9_intervalTo_3 : decode cX9_intervalTo 3 = .ok (.sipush 999, 3) := by decide +kernel
theorem dX9_intervalTo_6 : decode cX9_intervalTo 6 = .ok (.if_icmp .ge 22, 3) := by decide +kernel
theorem dX9_intervalTo_9 : decode cX9_intervalTo 9 = .ok (.aload_n 0, 1) := by decide +kernel
theorem dX9_intervalTo_10 : decode cX9_intervalTo 10 = .ok (.getfield 43, 3) := by decide +kernel
theorem dX9_intervalTo_13 : decode cX9_intervalTo 13 = .ok (.iload_n 1, 1) := by decide +kernel
theorem dX9_intervalTo_14 : decode cX9_intervalTo 14 = .ok (.aaload, 1) := by decide +kernel
theorem dX9_intervalTo_15 : decode cX9_intervalTo 15 = .ok (.iload_n 3, 1) := by decide +kernel
theorem dX9_intervalTo_16 : decode cX9_intervalTo 16 = .ok (.iconst 1, 1) := by decide +kernel
theorem dX9_intervalTo_17 : decode cX9_intervalTo 17 = .ok (.iadd, 1) := by decide +kernel
theorem dX9_intervalTo_18 : decode cX9_intervalTo 18 = .ok (.baload, 1) := by decide +kernel
theorem dX9_intervalTo_19 : decode cX9_intervalTo 19 = .ok (.ifCond .eq 9, 3) := by decide +kernel
theorem dX9_intervalTo_22 : decode cX9_intervalTo 22 = .ok (.iinc 3 1, 3) := by decide +kernel
theorem dX9_intervalTo_25 : decode cX9_intervalTo 25 = .ok (.goto (-23), 3) := by decide +kernel
theorem dX9_intervalTo_28 : decode cX9_intervalTo 28 = .ok (.iload_n 3, 1) := by decide +kernel
theorem dX9_intervalTo_29 : decode cX9_intervalTo 29 = .ok (.ireturn, 1) := by decide +kernel
theorem dX9_interval_0 : decode cX9_interval 0 = .ok (.aload_n 0, 1) := by decide +kernel
theorem dX9_interval_1 : decode cX9_interval 1 = .ok (.iconst 0, 1) := by decide +kernel
theorem dX9_interval_2 : decode cX9_interval 2 = .ok (.putfield 1, 3) := by decide +kernel
theorem dX9_interval_5 : decode cX9_interval 5 = .ok (.aload_n 0, 1) := by decide +kernel
theorem dX9_interval_6 : decode cX9_interval 6 = .ok (.iload_n 1, 1) := by decide +kernel
theorem dX9_interval_7 : decode cX9_interval 7 = .ok (.invokevirtual 377, 3) := by decide +kernel
theorem dX9_interval_10 : decode cX9_interval 10 = .ok (.ifCond .ne 5, 3) := by decide +kernel
theorem dX9_interval_13 : decode cX9_interval 13 = .ok (.iconst 0, 1) := by decide +kernel
theorem dX9_interval_14 : decode cX9_interval 14 = .ok (.ireturn, 1) := by decide +kernel
theorem dX9_interval_15 : decode cX9_interval 15 = .ok (.aload_n 0, 1) := by decide +kernel
theorem dX9_interval_16 : decode cX9_interval 16 = .ok (.invokevirtual 387, 3) := by decide +kernel
theorem dX9_interval_19 : decode cX9_interval 19 = .ok (.iload_n 2, 1) := by decide +kernel
theorem dX9_interval_20 : decode cX9_interval 20 = .ok (.ifCond .ge 7, 3) := by decide +kernel
theorem dX9_interval_23 : decode cX9_interval 23 = .ok (.iconst (-1), 1) := by decide +kernel
theorem dX9_interval_24 : decode cX9_interval 24 = .ok (.goto 9, 3) := by decide +kernel
theorem dX9_interval_27 : decode cX9_interval 27 = .ok (.aload_n 0, 1) := by decide +kernel
theorem dX9_interval_28 : decode cX9_interval 28 = .ok (.iload_n 1, 1) := by decide +kernel
theorem dX9_interval_29 : decode cX9_interval 29 = .ok (.iload_n 2, 1) := by decide +kernel
theorem dX9_interval_30 : decode cX9_interval 30 = .ok (.invokevirtual 417, 3) := by decide +kernel
theorem dX9_interval_33 : decode cX9_interval 33 = .ok (.istore 4, 2) := by decide +kernel
theorem dX9_interval_35 : decode cX9_interval 35 = .ok (.aload_n 0, 1) := by decide +kernel
theorem dX9_interval_36 : decode cX9_interval 36 = .ok (.iload 4, 2) := by decide +kernel
theorem dX9_interval_38 : decode cX9_interval 38 = .ok (.iconst (-1), 1) := by decide +kernel
theorem dX9_interval_39 : decode cX9_interval 39 = .ok (.if_icmp .eq 7, 3) := by decide +kernel
theorem dX9_interval_42 : decode cX9_interval 42 = .ok (.iconst 1, 1) := by decide +kernel
theorem dX9_interval_43 : decode cX9_interval 43 = .ok (.goto 4, 3) := by decide +kernel
theorem dX9_interval_46 : decode cX9_interval 46 = .ok (.iconst 0, 1) := by decide +kernel
theorem dX9_interval_47 : decode cX9_interval 47 = .ok (.iconst 1, 1) := by decide +kernel
theorem dX9_interval_48 : decode cX9_interval 48 = .ok (.iconst 0, 1) := by decide +kernel
theorem dX9_interval_49 : decode cX9_interval 49 = .ok (.invokevirtual 358, 3) := by decide +kernel
theorem dX9_interval_52 : decode cX9_interval 52 = .ok (.ifCond .eq 18, 3) := by decide +kernel
theorem dX9_interval_55 : decode cX9_interval 55 = .ok (.aload_n 0, 1) := by decide +kernel
theorem dX9_interval_56 : decode cX9_interval 56 = .ok (.iload_n 3, 1) := by decide +kernel
theorem dX9_interval_57 : decode cX9_interval 57 = .ok (.iconst 0, 1) := by decide +kernel
theorem dX9_interval_58 : decode cX9_interval 58 = .ok (.iconst 1, 1) := by decide +kernel
theorem dX9_interval_59 : decode cX9_interval 59 = .ok (.invokestatic 251, 3) := by decide +kernel
theorem dX9_interval_62 : decode cX9_interval 62 = .ok (.iconst 2, 1) := by decide +kernel
theorem dX9_interval_63 : decode cX9_interval 63 = .ok (.iconst 1, 1) := by decide +kernel
theorem dX9_interval_64 : decode cX9_interval 64 = .ok (.invokevirtual 358, 3) := by decide +kernel
theorem dX9_interval_67 : decode cX9_interval 67 = .ok (.ifCond .ne 5, 3) := by decide +kernel
theorem dX9_interval_70 : decode cX9_interval 70 = .ok (.iconst 0, 1) := by decide +kernel
theorem dX9_interval_71 : decode cX9_interval 71 = .ok (.ireturn, 1) := by decide +kernel
theorem dX9_interval_72 : decode cX9_interval 72 = .ok (.iload_n 3, 1) := by decide +kernel
theorem dX9_interval_73 : decode cX9_interval 73 = .ok (.ifCond .ne 8, 3) := by decide +kernel
theorem dX9_interval_76 : decode cX9_interval 76 = .ok (.iload 4, 2) := by decide +kernel
theorem dX9_interval_78 : decode cX9_interval 78 = .ok (.goto 10, 3) := by decide +kernel
theorem dX9_interval_81 : decode cX9_interval 81 = .ok (.aload_n 0, 1) := by decide +kernel
theorem dX9_interval_82 : decode cX9_interval 82 = .ok (.iload_n 1, 1) := by decide +kernel
theorem dX9_interval_83 : decode cX9_interval 83 = .ok (.iload 4, 2) := by decide +kernel
theorem dX9_interval_85 : decode cX9_interval 85 = .ok (.invokevirtual 420, 3) := by decide +kernel
theorem dX9_interval_88 : decode cX9_interval 88 = .ok (.ireturn, 1) := by decide +kernel
theorem dX9_misfit_0 : decode cX9_misfit 0 = .ok (.aload_n 0, 1) := by decide +kernel
theorem dX9_misfit_1 : decode cX9_misfit 1 = .ok (.iconst 0, 1) := by decide +kernel
theorem dX9_misfit_2 : decode cX9_misfit 2 = .ok (.putfield 1, 3) := by decide +kernel
theorem dX9_misfit_5 : decode cX9_misfit 5 = .ok (.aload_n 0, 1) := by decide +kernel
theorem dX9_misfit_6 : decode cX9_misfit 6 = .ok (.iload_n 1, 1) := by decide +kernel
theorem dX9_misfit_7 : decode cX9_misfit 7 = .ok (.invokevirtual 377, 3) := by decide +kernel
theorem dX9_misfit_10 : decode cX9_misfit 10 = .ok (.ifCond .eq 20, 3) := by decide +kernel
theorem dX9_misfit_13 : decode cX9_misfit 13 = .ok (.aload_n 0, 1) := by decide +kernel
theorem dX9_misfit_14 : decode cX9_misfit 14 = .ok (.iload_n 2, 1) := by decide +kernel
theorem dX9_misfit_15 : decode cX9_misfit 15 = .ok (.invokevirtual 398, 3) := by decide +kernel
theorem dX9_misfit_18 : decode cX9_misfit 18 = .ok (.ifCond .eq 12, 3) := by decide +kernel
theorem dX9_misfit_21 : decode cX9_misfit 21 = .ok (.aload_n 0, 1) := by decide +kernel
theorem dX9_misfit_22 : decode cX9_misfit 22 = .ok (.iload_n 1, 1) := by decide +kernel
theorem dX9_misfit_23 : decode cX9_misfit 23 = .ok (.iload_n 2, 1) := by decide +kernel
theorem dX9_misfit_24 : decode cX9_misfit 24 = .ok (.invokevirtual 115, 3) := by decide +kernel
theorem dX9_misfit_27 : decode cX9_misfit 27 = .ok (.goto 4, 3) := by decide +kernel
theorem dX9_misfit_30 : decode cX9_misfit 30 = .ok (.iconst 0, 1) := by decide +kernel
theorem dX9_misfit_31 : decode cX9_misfit 31 = .ok (.ireturn, 1) := by decide +kernel
theorem dX9_place_0 : decode cX9_place 0 = .ok (.aload_n 0, 1) := by decide +kernel
theorem dX9_place_1 : decode cX9_place 1 = .ok (.iconst 0, 1) := by decide +kernel
theorem dX9_place_2 : decode cX9_place 2 = .ok (.putfield 1, 3) := by decide +kernel
theorem dX9_place_5 : decode cX9_place 5 = .ok (.aload_n 0, 1) := by decide +kernel
theorem dX9_place_6 : decode cX9_place 6 = .ok (.iload_n 1, 1) := by decide +kernel
theorem dX9_place_7 : decode cX9_place 7 = .ok (.invokevirtual 377, 3) := by decide +kernel
theorem dX9_place_10 : decode cX9_place 10 = .ok (.ifCond .eq 11, 3) := by decide +kernel
theorem dX9_place_13 : decode cX9_place 13 = .ok (.aload_n 0, 1) := by decide +kernel
theorem dX9_place_14 : decode cX9_place 14 = .ok (.iload_n 2, 1) := by decide +kernel
theorem dX9_place_15 : decode cX9_place 15 = .ok (.invokevirtual 398, 3) := by decide +kernel
theorem dX9_place_18 : decode cX9_place 18 = .ok (.ifCond .ne 5, 3) := by decide +kernel
theorem dX9_place_21 : decode cX9_place 21 = .ok (.iconst 0, 1) := by decide +kernel
theorem dX9_place_22 : decode cX9_place 22 = .ok (.ireturn, 1) := by decide +kernel
theorem dX9_place_23 : decode cX9_place 23 = .ok (.aload_n 0, 1) := by decide +kernel
theorem dX9_place_24 : decode cX9_place 24 = .ok (.invokevirtual 387, 3) := by decide +kernel
theorem dX9_place_27 : decode cX9_place 27 = .ok (.aload_n 0, 1) := by decide +kernel
theorem dX9_place_28 : decode cX9_place 28 = .ok (.getfield 43, 3) := by decide +kernel
theorem dX9_place_31 : decode cX9_place 31 = .ok (.iload_n 1, 1) := by decide +kernel
theorem dX9_place_32 : decode cX9_place 32 = .ok (.aaload, 1) := by decide +kernel
theorem dX9_place_33 : decode cX9_place 33 = .ok (.iload_n 2, 1) := by decide +kernel
theorem dX9_place_34 : decode cX9_place 34 = .ok (.baload, 1) := by decide +kernel
theorem dX9_place_35 : decode cX9_place 35 = .ok (.ifCond .eq 7, 3) := by decide +kernel
theorem dX9_place_38 : decode cX9_place 38 = .ok (.iconst 3, 1) := by decide +kernel
theorem dX9_place_39 : decode cX9_place 39 = .ok (.goto 19, 3) := by decide +kernel
theorem dX9_place_42 : decode cX9_place 42 = .ok (.aload_n 0, 1) := by decide +kernel
theorem dX9_place_43 : decode cX9_place 43 = .ok (.getfield 40, 3) := by decide +kernel
theorem dX9_place_46 : decode cX9_place 46 = .ok (.iload_n 1, 1) := by decide +kernel
theorem dX9_place_47 : decode cX9_place 47 = .ok (.aaload, 1) := by decide +kernel
theorem dX9_place_48 : decode cX9_place 48 = .ok (.iload_n 2, 1) := by decide +kernel
theorem dX9_place_49 : decode cX9_place 49 = .ok (.baload, 1) := by decide +kernel
theorem dX9_place_50 : decode cX9_place 50 = .ok (.ifCond .eq 7, 3) := by decide +kernel
theorem dX9_place_53 : decode cX9_place 53 = .ok (.iconst 1, 1) := by decide +kernel
theorem dX9_place_54 : decode cX9_place 54 = .ok (.goto 4, 3) := by decide +kernel
theorem dX9_place_57 : decode cX9_place 57 = .ok (.iconst 0, 1) := by decide +kernel
theorem dX9_place_58 : decode cX9_place 58 = .ok (.ireturn, 1) := by decide +kernel
theorem dX9_rule_0 : decode cX9_rule 0 = .ok (.aload_n 0, 1) := by decide +kernel
theorem dX9_rule_1 : decode cX9_rule 1 = .ok (.iconst 0, 1) := by decide +kernel
theorem dX9_rule_2 : decode cX9_rule 2 = .ok (.putfield 1, 3) := by decide +kernel
theorem dX9_rule_5 : decode cX9_rule 5 = .ok (.aload_n 0, 1) := by decide +kernel
theorem dX9_rule_6 : decode cX9_rule 6 = .ok (.iload_n 1, 1) := by decide +kernel
theorem dX9_rule_7 : decode cX9_rule 7 = .ok (.invokevirtual 384, 3) := by decide +kernel
theorem dX9_rule_10 : decode cX9_rule 10 = .ok (.ifCond .eq 18, 3) := by decide +kernel
theorem dX9_rule_13 : decode cX9_rule 13 = .ok (.aload_n 0, 1) := by decide +kernel
theorem dX9_rule_14 : decode cX9_rule 14 = .ok (.iload_n 2, 1) := by decide +kernel
theorem dX9_rule_15 : decode cX9_rule 15 = .ok (.iconst 0, 1) := by decide +kernel
theorem dX9_rule_16 : decode cX9_rule 16 = .ok (.iconst 5, 1) := by decide +kernel
theorem dX9_rule_17 : decode cX9_rule 17 = .ok (.invokestatic 251, 3) := by decide +kernel
theorem dX9_rule_20 : decode cX9_rule 20 = .ok (.iconst 2, 1) := by decide +kernel
theorem dX9_rule_21 : decode cX9_rule 21 = .ok (.iconst 1, 1) := by decide +kernel
theorem dX9_rule_22 : decode cX9_rule 22 = .ok (.invokevirtual 358, 3) := by decide +kernel
theorem dX9_rule_25 : decode cX9_rule 25 = .ok (.ifCond .ne 5, 3) := by decide +kernel
theorem dX9_rule_28 : decode cX9_rule 28 = .ok (.iconst 0, 1) := by decide +kernel
theorem dX9_rule_29 : decode cX9_rule 29 = .ok (.ireturn, 1) := by decide +kernel
theorem dX9_rule_30 : decode cX9_rule 30 = .ok (.iload_n 2, 1) := by decide +kernel
theorem dX9_rule_31 : decode cX9_rule 31 = .ok (.iconst 5, 1) := by decide +kernel
theorem dX9_rule_32 : decode cX9_rule 32 = .ok (.if_icmp .ge 10, 3) := by decide +kernel
theorem dX9_rule_35 : decode cX9_rule 35 = .ok (.aload_n 0, 1) := by decide +kernel
theorem dX9_rule_36 : decode cX9_rule 36 = .ok (.iload_n 1, 1) := by decide +kernel
theorem dX9_rule_37 : decode cX9_rule 37 = .ok (.iload_n 2, 1) := by decide +kernel
theorem dX9_rule_38 : decode cX9_rule 38 = .ok (.invokevirtual 166, 3) := by decide +kernel
theorem dX9_rule_41 : decode cX9_rule 41 = .ok (.ireturn, 1) := by decide +kernel
theorem dX9_rule_42 : decode cX9_rule 42 = .ok (.aload_n 0, 1) := by decide +kernel
theorem dX9_rule_43 : decode cX9_rule 43 = .ok (.invokevirtual 387, 3) := by decide +kernel
theorem dX9_rule_46 : decode cX9_rule 46 = .ok (.aload_n 0, 1) := by decide +kernel
theorem dX9_rule_47 : decode cX9_rule 47 = .ok (.getfield 55, 3) := by decide +kernel
theorem dX9_rule_50 : decode cX9_rule 50 = .ok (.iload_n 1, 1) := by decide +kernel
theorem dX9_rule_51 : decode cX9_rule 51 = .ok (.iaload, 1) := by decide +kernel
theorem dX9_rule_52 : decode cX9_rule 52 = .ok (.ireturn, 1) := by decide +kernel
theorem dX9_clash_0 : decode cX9_clash 0 = .ok (.aload_n 0, 1) := by decide +kernel
theorem dX9_clash_1 : decode cX9_clash 1 = .ok (.iconst 0, 1) := by decide +kernel
theorem dX9_clash_2 : decode cX9_clash 2 = .ok (.putfield 1, 3) := by decide +kernel
theorem dX9_clash_5 : decode cX9_clash 5 = .ok (.aload_n 0, 1) := by decide +kernel
theorem dX9_clash_6 : decode cX9_clash 6 = .ok (.iload_n 1, 1) := by decide +kernel
theorem dX9_clash_7 : decode cX9_clash 7 = .ok (.iconst 0, 1) := by decide +kernel
theorem dX9_clash_8 : decode cX9_clash 8 = .ok (.iconst 1, 1) := by decide +kernel
theorem dX9_clash_9 : decode cX9_clash 9 = .ok (.invokestatic 251, 3) := by decide +kernel
theorem dX9_clash_12 : decode cX9_clash 12 = .ok (.iconst 1, 1) := by decide +kernel
theorem dX9_clash_13 : decode cX9_clash 13 = .ok (.iconst 1, 1) := by decide +kernel
theorem dX9_clash_14 : decode cX9_clash 14 = .ok (.invokevirtual 358, 3) := by decide +kernel
theorem dX9_clash_17 : decode cX9_clash 17 = .ok (.ifCond .ne 5, 3) := by decide +kernel
theorem dX9_clash_20 : decode cX9_clash 20 = .ok (.iconst 0, 1) := by decide +kernel
theorem dX9_clash_21 : decode cX9_clash 21 = .ok (.ireturn, 1) := by decide +kernel
theorem dX9_clash_22 : decode cX9_clash 22 = .ok (.aload_n 0, 1) := by decide +kernel
theorem dX9_clash_23 : decode cX9_clash 23 = .ok (.invokevirtual 387, 3) := by decide +kernel
theorem dX9_clash_26 : decode cX9_clash 26 = .ok (.aload_n 0, 1) := by decide +kernel
theorem dX9_clash_27 : decode cX9_clash 27 = .ok (.getfield 124, 3) := by decide +kernel
theorem dX9_clash_30 : decode cX9_clash 30 = .ok (.ifCond .ne 8, 3) := by decide +kernel
theorem dX9_clash_33 : decode cX9_clash 33 = .ok (.bipush (-2), 2) := by decide +kernel
theorem dX9_clash_35 : decode cX9_clash 35 = .ok (.goto 18, 3) := by decide +kernel
theorem dX9_clash_38 : decode cX9_clash 38 = .ok (.iload_n 1, 1) := by decide +kernel
theorem dX9_clash_39 : decode cX9_clash 39 = .ok (.ifCond .ne 10, 3) := by decide +kernel
theorem dX9_clash_42 : decode cX9_clash 42 = .ok (.aload_n 0, 1) := by decide +kernel
theorem dX9_clash_43 : decode cX9_clash 43 = .ok (.getfield 132, 3) := by decide +kernel
theorem dX9_clash_46 : decode cX9_clash 46 = .ok (.goto 7, 3) := by decide +kernel
theorem dX9_clash_49 : decode cX9_clash 49 = .ok (.aload_n 0, 1) := by decide +kernel
theorem dX9_clash_50 : decode cX9_clash 50 = .ok (.getfield 135, 3) := by decide +kernel
theorem dX9_clash_53 : decode cX9_clash 53 = .ok (.ireturn, 1) := by decide +kernel
theorem dX9_laysWere_0 : decode cX9_laysWere 0 = .ok (.iconst 0, 1) := by decide +kernel
theorem dX9_laysWere_1 : decode cX9_laysWere 1 = .ok (.istore_n 1, 1) := by decide +kernel
theorem dX9_laysWere_2 : decode cX9_laysWere 2 = .ok (.iload_n 1, 1) := by decide +kernel
theorem dX9_laysWere_3 : decode cX9_laysWere 3 = .ok (.aload_n 0, 1) := by decide +kernel
theorem dX9_laysWere_4 : decode cX9_laysWere 4 = .ok (.getfield 184, 3) := by decide +kernel
theorem dX9_laysWere_7 : decode cX9_laysWere 7 = .ok (.if_icmp .ge 40, 3) := by decide +kernel
theorem dX9_laysWere_10 : decode cX9_laysWere 10 = .ok (.iconst 0, 1) := by decide +kernel
theorem dX9_laysWere_11 : decode cX9_laysWere 11 = .ok (.istore_n 2, 1) := by decide +kernel
theorem dX9_laysWere_12 : decode cX9_laysWere 12 = .ok (.iload_n 2, 1) := by decide +kernel
theorem dX9_laysWere_13 : decode cX9_laysWere 13 = .ok (.sipush 1000, 3) := by decide +kernel
theorem dX9_laysWere_16 : decode cX9_laysWere 16 = .ok (.if_icmp .ge 25, 3) := by decide +kernel
theorem dX9_laysWere_19 : decode cX9_laysWere 19 = .ok (.aload_n 0, 1) := by decide +kernel
theorem dX9_laysWere_20 : decode cX9_laysWere 20 = .ok (.getfield 93, 3) := by decide +kernel
theorem dX9_laysWere_23 : decode cX9_laysWere 23 = .ok (.iload_n 1, 1) := by decide +kernel
theorem dX9_laysWere_24 : decode cX9_laysWere 24 = .ok (.aaload, 1) := by decide +kernel
theorem dX9_laysWere_25 : decode cX9_laysWere 25 = .ok (.iload_n 2, 1) := by decide +kernel
theorem dX9_laysWere_26 : decode cX9_laysWere 26 = .ok (.aload_n 0, 1) := by decide +kernel
theorem dX9_laysWere_27 : decode cX9_laysWere 27 = .ok (.getfield 43, 3) := by decide +kernel
theorem dX9_laysWere_30 : decode cX9_laysWere 30 = .ok (.iload_n 1, 1) := by decide +kernel
theorem dX9_laysWere_31 : decode cX9_laysWere 31 = .ok (.aaload, 1) := by decide +kernel
theorem dX9_laysWere_32 : decode cX9_laysWere 32 = .ok (.iload_n 2, 1) := by decide +kernel
theorem dX9_laysWere_33 : decode cX9_laysWere 33 = .ok (.baload, 1) := by decide +kernel
theorem dX9_laysWere_34 : decode cX9_laysWere 34 = .ok (.bastore, 1) := by decide +kernel
theorem dX9_laysWere_35 : decode cX9_laysWere 35 = .ok (.iinc 2 1, 3) := by decide +kernel
theorem dX9_laysWere_38 : decode cX9_laysWere 38 = .ok (.goto (-26), 3) := by decide +kernel
theorem dX9_laysWere_41 : decode cX9_laysWere 41 = .ok (.iinc 1 1, 3) := by decide +kernel
theorem dX9_laysWere_44 : decode cX9_laysWere 44 = .ok (.goto (-42), 3) := by decide +kernel
theorem dX9_laysWere_47 : decode cX9_laysWere 47 = .ok (.return_, 1) := by decide +kernel
theorem dX9_areAsWere_0 : decode cX9_areAsWere 0 = .ok (.iconst 0, 1) := by decide +kernel
theorem dX9_areAsWere_1 : decode cX9_areAsWere 1 = .ok (.istore_n 1, 1) := by decide +kernel
theorem dX9_areAsWere_2 : decode cX9_areAsWere 2 = .ok (.iload_n 1, 1) := by decide +kernel
theorem dX9_areAsWere_3 : decode cX9_areAsWere 3 = .ok (.aload_n 0, 1) := by decide +kernel
theorem dX9_areAsWere_4 : decode cX9_areAsWere 4 = .ok (.getfield 184, 3) := by decide +kernel
theorem dX9_areAsWere_7 : decode cX9_areAsWere 7 = .ok (.if_icmp .ge 45, 3) := by decide +kernel
theorem dX9_areAsWere_10 : decode cX9_areAsWere 10 = .ok (.iconst 0, 1) := by decide +kernel
theorem dX9_areAsWere_11 : decode cX9_areAsWere 11 = .ok (.istore_n 2, 1) := by decide +kernel
theorem dX9_areAsWere_12 : decode cX9_areAsWere 12 = .ok (.iload_n 2, 1) := by decide +kernel
theorem dX9_areAsWere_13 : decode cX9_areAsWere 13 = .ok (.sipush 1000, 3) := by decide +kernel
theorem dX9_areAsWere_16 : decode cX9_areAsWere 16 = .ok (.if_icmp .ge 30, 3) := by decide +kernel
theorem dX9_areAsWere_19 : decode cX9_areAsWere 19 = .ok (.aload_n 0, 1) := by decide +kernel
theorem dX9_areAsWere_20 : decode cX9_areAsWere 20 = .ok (.getfield 93, 3) := by decide +kernel
theorem dX9_areAsWere_23 : decode cX9_areAsWere 23 = .ok (.iload_n 1, 1) := by decide +kernel
theorem dX9_areAsWere_24 : decode cX9_areAsWere 24 = .ok (.aaload, 1) := by decide +kernel
theorem dX9_areAsWere_25 : decode cX9_areAsWere 25 = .ok (.iload_n 2, 1) := by decide +kernel
theorem dX9_areAsWere_26 : decode cX9_areAsWere 26 = .ok (.baload, 1) := by decide +kernel
theorem dX9_areAsWere_27 : decode cX9_areAsWere 27 = .ok (.aload_n 0, 1) := by decide +kernel
theorem dX9_areAsWere_28 : decode cX9_areAsWere 28 = .ok (.getfield 43, 3) := by decide +kernel
theorem dX9_areAsWere_31 : decode cX9_areAsWere 31 = .ok (.iload_n 1, 1) := by decide +kernel
theorem dX9_areAsWere_32 : decode cX9_areAsWere 32 = .ok (.aaload, 1) := by decide +kernel
theorem dX9_areAsWere_33 : decode cX9_areAsWere 33 = .ok (.iload_n 2, 1) := by decide +kernel
theorem dX9_areAsWere_34 : decode cX9_areAsWere 34 = .ok (.baload, 1) := by decide +kernel
theorem dX9_areAsWere_35 : decode cX9_areAsWere 35 = .ok (.if_icmp .eq 5, 3) := by decide +kernel
theorem dX9_areAsWere_38 : decode cX9_areAsWere 38 = .ok (.iconst 0, 1) := by decide +kernel
theorem dX9_areAsWere_39 : decode cX9_areAsWere 39 = .ok (.ireturn, 1) := by decide +kernel
theorem dX9_areAsWere_40 : decode cX9_areAsWere 40 = .ok (.iinc 2 1, 3) := by decide +kernel
theorem dX9_areAsWere_43 : decode cX9_areAsWere 43 = .ok (.goto (-31), 3) := by decide +kernel
theorem dX9_areAsWere_46 : decode cX9_areAsWere 46 = .ok (.iinc 1 1, 3) := by decide +kernel
theorem dX9_areAsWere_49 : decode cX9_areAsWere 49 = .ok (.goto (-47), 3) := by decide +kernel
theorem dX9_areAsWere_52 : decode cX9_areAsWere 52 = .ok (.iconst 1, 1) := by decide +kernel
theorem dX9_areAsWere_53 : decode cX9_areAsWere 53 = .ok (.ireturn, 1) := by decide +kernel
theorem dX9_laysWithout_0 : decode cX9_laysWithout 0 = .ok (.aload_n 0, 1) := by decide +kernel
theorem dX9_laysWithout_1 : decode cX9_laysWithout 1 = .ok (.iload_n 1, 1) := by decide +kernel
theorem dX9_laysWithout_2 : decode cX9_laysWithout 2 = .ok (.putfield 52, 3) := by decide +kernel
theorem dX9_laysWithout_5 : decode cX9_laysWithout 5 = .ok (.aload_n 0, 1) := by decide +kernel
theorem dX9_laysWithout_6 : decode cX9_laysWithout 6 = .ok (.invokevirtual 387, 3) := by decide +kernel
theorem dX9_laysWithout_9 : decode cX9_laysWithout 9 = .ok (.aload_n 0, 1) := by decide +kernel
theorem dX9_laysWithout_10 : decode cX9_laysWithout 10 = .ok (.iconst (-1), 1) := by decide +kernel
theorem dX9_laysWithout_11 : decode cX9_laysWithout 11 = .ok (.putfield 52, 3) := by decide +kernel
theorem dX9_laysWithout_14 : decode cX9_laysWithout 14 = .ok (.return_, 1) := by decide +kernel
theorem dX9_blame_0 : decode cX9_blame 0 = .ok (.aload_n 0, 1) := by decide +kernel
theorem dX9_blame_1 : decode cX9_blame 1 = .ok (.iconst 0, 1) := by decide +kernel
theorem dX9_blame_2 : decode cX9_blame 2 = .ok (.putfield 1, 3) := by decide +kernel
theorem dX9_blame_5 : decode cX9_blame 5 = .ok (.aload_n 0, 1) := by decide +kernel
theorem dX9_blame_6 : decode cX9_blame 6 = .ok (.invokevirtual 387, 3) := by decide +kernel
theorem dX9_blame_9 : decode cX9_blame 9 = .ok (.aload_n 0, 1) := by decide +kernel
theorem dX9_blame_10 : decode cX9_blame 10 = .ok (.getfield 124, 3) := by decide +kernel
theorem dX9_blame_13 : decode cX9_blame 13 = .ok (.ifCond .ne 5, 3) := by decide +kernel
theorem dX9_blame_16 : decode cX9_blame 16 = .ok (.iconst 0, 1) := by decide +kernel
theorem dX9_blame_17 : decode cX9_blame 17 = .ok (.ireturn, 1) := by decide +kernel
theorem dX9_blame_18 : decode cX9_blame 18 = .ok (.iconst 0, 1) := by decide +kernel
theorem dX9_blame_19 : decode cX9_blame 19 = .ok (.istore_n 1, 1) := by decide +kernel
theorem dX9_blame_20 : decode cX9_blame 20 = .ok (.iconst 0, 1) := by decide +kernel
theorem dX9_blame_21 : decode cX9_blame 21 = .ok (.istore_n 2, 1) := by decide +kernel
theorem dX9_blame_22 : decode cX9_blame 22 = .ok (.iload_n 2, 1) := by decide +kernel
theorem dX9_blame_23 : decode cX9_blame 23 = .ok (.aload_n 0, 1) := by decide +kernel
theorem dX9_blame_24 : decode cX9_blame 24 = .ok (.getfield 17, 3) := by decide +kernel
theorem dX9_blame_27 : decode cX9_blame 27 = .ok (.iconst 2, 1) := by decide +kernel
theorem dX9_blame_28 : decode cX9_blame 28 = .ok (.iaload, 1) := by decide +kernel
theorem dX9_blame_29 : decode cX9_blame 29 = .ok (.if_icmp .ge 31, 3) := by decide +kernel
theorem dX9_blame_32 : decode cX9_blame 32 = .ok (.aload_n 0, 1) := by decide +kernel
theorem dX9_blame_33 : decode cX9_blame 33 = .ok (.iload_n 2, 1) := by decide +kernel
theorem dX9_blame_34 : decode cX9_blame 34 = .ok (.invokevirtual 423, 3) := by decide +kernel
theorem dX9_blame_37 : decode cX9_blame 37 = .ok (.iload_n 1, 1) := by decide +kernel
theorem dX9_blame_38 : decode cX9_blame 38 = .ok (.aload_n 0, 1) := by decide +kernel
theorem dX9_blame_39 : decode cX9_blame 39 = .ok (.getfield 124, 3) := by decide +kernel
theorem dX9_blame_42 : decode cX9_blame 42 = .ok (.ifCond .eq 7, 3) := by decide +kernel
theorem dX9_blame_45 : decode cX9_blame 45 = .ok (.iconst 0, 1) := by decide +kernel
theorem dX9_blame_46 : decode cX9_blame 46 = .ok (.goto 6, 3) := by decide +kernel
theorem dX9_blame_49 : decode cX9_blame 49 = .ok (.iconst 1, 1) := by decide +kernel
theorem dX9_blame_50 : decode cX9_blame 50 = .ok (.iload_n 2, 1) := by decide +kernel
theorem dX9_blame_51 : decode cX9_blame 51 = .ok (.ishl, 1) := by decide +kernel
theorem dX9_blame_52 : decode cX9_blame 52 = .ok (.ior, 1) := by decide +kernel
theorem dX9_blame_53 : decode cX9_blame 53 = .ok (.istore_n 1, 1) := by decide +kernel
theorem dX9_blame_54 : decode cX9_blame 54 = .ok (.iinc 2 1, 3) := by decide +kernel
theorem dX9_blame_57 : decode cX9_blame 57 = .ok (.goto (-35), 3) := by decide +kernel
theorem dX9_blame_60 : decode cX9_blame 60 = .ok (.iload_n 1, 1) := by decide +kernel
theorem dX9_blame_61 : decode cX9_blame 61 = .ok (.ireturn, 1) := by decide +kernel
theorem dX9_needless_0 : decode cX9_needless 0 = .ok (.aload_n 0, 1) := by decide +kernel
theorem dX9_needless_1 : decode cX9_needless 1 = .ok (.iconst 0, 1) := by decide +kernel
theorem dX9_needless_2 : decode cX9_needless 2 = .ok (.putfield 1, 3) := by decide +kernel
theorem dX9_needless_5 : decode cX9_needless 5 = .ok (.aload_n 0, 1) := by decide +kernel
theorem dX9_needless_6 : decode cX9_needless 6 = .ok (.invokevirtual 387, 3) := by decide +kernel
theorem dX9_needless_9 : decode cX9_needless 9 = .ok (.aload_n 0, 1) := by decide +kernel
theorem dX9_needless_10 : decode cX9_needless 10 = .ok (.invokevirtual 426, 3) := by decide +kernel
theorem dX9_needless_13 : decode cX9_needless 13 = .ok (.iconst 0, 1) := by decide +kernel
theorem dX9_needless_14 : decode cX9_needless 14 = .ok (.istore_n 1, 1) := by decide +kernel
theorem dX9_needless_15 : decode cX9_needless 15 = .ok (.iconst 0, 1) := by decide +kernel
theorem dX9_needless_16 : decode cX9_needless 16 = .ok (.istore_n 2, 1) := by decide +kernel
theorem dX9_needless_17 : decode cX9_needless 17 = .ok (.iload_n 2, 1) := by decide +kernel
theorem dX9_needless_18 : decode cX9_needless 18 = .ok (.aload_n 0, 1) := by decide +kernel
theorem dX9_needless_19 : decode cX9_needless 19 = .ok (.getfield 17, 3) := by decide +kernel
theorem dX9_needless_22 : decode cX9_needless 22 = .ok (.iconst 2, 1) := by decide +kernel
theorem dX9_needless_23 : decode cX9_needless 23 = .ok (.iaload, 1) := by decide +kernel
theorem dX9_needless_24 : decode cX9_needless 24 = .ok (.if_icmp .ge 31, 3) := by decide +kernel
theorem dX9_needless_27 : decode cX9_needless 27 = .ok (.aload_n 0, 1) := by decide +kernel
theorem dX9_needless_28 : decode cX9_needless 28 = .ok (.iload_n 2, 1) := by decide +kernel
theorem dX9_needless_29 : decode cX9_needless 29 = .ok (.invokevirtual 423, 3) := by decide +kernel
theorem dX9_needless_32 : decode cX9_needless 32 = .ok (.iload_n 1, 1) := by decide +kernel
theorem dX9_needless_33 : decode cX9_needless 33 = .ok (.aload_n 0, 1) := by decide +kernel
theorem dX9_needless_34 : decode cX9_needless 34 = .ok (.invokevirtual 429, 3) := by decide +kernel
theorem dX9_needless_37 : decode cX9_needless 37 = .ok (.ifCond .eq 9, 3) := by decide +kernel
theorem dX9_needless_40 : decode cX9_needless 40 = .ok (.iconst 1, 1) := by decide +kernel
theorem dX9_needless_41 : decode cX9_needless 41 = .ok (.iload_n 2, 1) := by decide +kernel
theorem dX9_needless_42 : decode cX9_needless 42 = .ok (.ishl, 1) := by decide +kernel
theorem dX9_needless_43 : decode cX9_needless 43 = .ok (.goto 4, 3) := by decide +kernel
theorem dX9_needless_46 : decode cX9_needless 46 = .ok (.iconst 0, 1) := by decide +kernel
theorem dX9_needless_47 : decode cX9_needless 47 = .ok (.ior, 1) := by decide +kernel
theorem dX9_needless_48 : decode cX9_needless 48 = .ok (.istore_n 1, 1) := by decide +kernel
theorem dX9_needless_49 : decode cX9_needless 49 = .ok (.iinc 2 1, 3) := by decide +kernel
theorem dX9_needless_52 : decode cX9_needless 52 = .ok (.goto (-35), 3) := by decide +kernel
theorem dX9_needless_55 : decode cX9_needless 55 = .ok (.iload_n 1, 1) := by decide +kernel
theorem dX9_needless_56 : decode cX9_needless 56 = .ok (.ireturn, 1) := by decide +kernel
theorem dX9_toldBy_0 : decode cX9_toldBy 0 = .ok (.iload_n 1, 1) := by decide +kernel
theorem dX9_toldBy_1 : decode cX9_toldBy 1 = .ok (.ifCond .ne 10, 3) := by decide +kernel
theorem dX9_toldBy_4 : decode cX9_toldBy 4 = .ok (.aload_n 0, 1) := by decide +kernel
theorem dX9_toldBy_5 : decode cX9_toldBy 5 = .ok (.invokevirtual 389, 3) := by decide +kernel
theorem dX9_toldBy_8 : decode cX9_toldBy 8 = .ok (.goto 19, 3) := by decide +kernel
theorem dX9_toldBy_11 : decode cX9_toldBy 11 = .ok (.iload_n 1, 1) := by decide +kernel
theorem dX9_toldBy_12 : decode cX9_toldBy 12 = .ok (.iconst 1, 1) := by decide +kernel
theorem dX9_toldBy_13 : decode cX9_toldBy 13 = .ok (.if_icmp .ne 10, 3) := by decide +kernel
theorem dX9_toldBy_16 : decode cX9_toldBy 16 = .ok (.aload_n 0, 1) := by decide +kernel
theorem dX9_toldBy_17 : decode cX9_toldBy 17 = .ok (.invokevirtual 392, 3) := by decide +kernel
theorem dX9_toldBy_20 : decode cX9_toldBy 20 = .ok (.goto 7, 3) := by decide +kernel
theorem dX9_toldBy_23 : decode cX9_toldBy 23 = .ok (.aload_n 0, 1) := by decide +kernel
theorem dX9_toldBy_24 : decode cX9_toldBy 24 = .ok (.getfield 181, 3) := by decide +kernel
theorem dX9_toldBy_27 : decode cX9_toldBy 27 = .ok (.ireturn, 1) := by decide +kernel
theorem dX9_without_0 : decode cX9_without 0 = .ok (.aload_n 0, 1) := by decide +kernel
theorem dX9_without_1 : decode cX9_without 1 = .ok (.iconst 0, 1) := by decide +kernel
theorem dX9_without_2 : decode cX9_without 2 = .ok (.putfield 1, 3) := by decide +kernel
theorem dX9_without_5 : decode cX9_without 5 = .ok (.aload_n 0, 1) := by decide +kernel
theorem dX9_without_6 : decode cX9_without 6 = .ok (.iload_n 1, 1) := by decide +kernel
theorem dX9_without_7 : decode cX9_without 7 = .ok (.invokevirtual 384, 3) := by decide +kernel
theorem dX9_without_10 : decode cX9_without 10 = .ok (.ifCond .eq 18, 3) := by decide +kernel
theorem dX9_without_13 : decode cX9_without 13 = .ok (.aload_n 0, 1) := by decide +kernel
theorem dX9_without_14 : decode cX9_without 14 = .ok (.iload_n 2, 1) := by decide +kernel
theorem dX9_without_15 : decode cX9_without 15 = .ok (.iconst 0, 1) := by decide +kernel
theorem dX9_without_16 : decode cX9_without 16 = .ok (.iconst 2, 1) := by decide +kernel
theorem dX9_without_17 : decode cX9_without 17 = .ok (.invokestatic 251, 3) := by decide +kernel
theorem dX9_without_20 : decode cX9_without 20 = .ok (.iconst 2, 1) := by decide +kernel
theorem dX9_without_21 : decode cX9_without 21 = .ok (.iconst 1, 1) := by decide +kernel
theorem dX9_without_22 : decode cX9_without 22 = .ok (.invokevirtual 358, 3) := by decide +kernel
theorem dX9_without_25 : decode cX9_without 25 = .ok (.ifCond .ne 5, 3) := by decide +kernel
theorem dX9_without_28 : decode cX9_without 28 = .ok (.iconst 0, 1) := by decide +kernel
theorem dX9_without_29 : decode cX9_without 29 = .ok (.ireturn, 1) := by decide +kernel
theorem dX9_without_30 : decode cX9_without 30 = .ok (.aload_n 0, 1) := by decide +kernel
theorem dX9_without_31 : decode cX9_without 31 = .ok (.iload_n 1, 1) := by decide +kernel
theorem dX9_without_32 : decode cX9_without 32 = .ok (.invokevirtual 423, 3) := by decide +kernel
theorem dX9_without_35 : decode cX9_without 35 = .ok (.aload_n 0, 1) := by decide +kernel
theorem dX9_without_36 : decode cX9_without 36 = .ok (.iload_n 2, 1) := by decide +kernel
theorem dX9_without_37 : decode cX9_without 37 = .ok (.invokevirtual 432, 3) := by decide +kernel
theorem dX9_without_40 : decode cX9_without 40 = .ok (.ireturn, 1) := by decide +kernel
theorem dX9_laysPinned_0 : decode cX9_laysPinned 0 = .ok (.aload_n 0, 1) := by decide +kernel
theorem dX9_laysPinned_1 : decode cX9_laysPinned 1 = .ok (.iload_n 1, 1) := by decide +kernel
theorem dX9_laysPinned_2 : decode cX9_laysPinned 2 = .ok (.putfield 49, 3) := by decide +kernel
theorem dX9_laysPinned_5 : decode cX9_laysPinned 5 = .ok (.aload_n 0, 1) := by decide +kernel
theorem dX9_laysPinned_6 : decode cX9_laysPinned 6 = .ok (.iload_n 2, 1) := by decide +kernel
theorem dX9_laysPinned_7 : decode cX9_laysPinned 7 = .ok (.putfield 121, 3) := by decide +kernel
theorem dX9_laysPinned_10 : decode cX9_laysPinned 10 = .ok (.aload_n 0, 1) := by decide +kernel
theorem dX9_laysPinned_11 : decode cX9_laysPinned 11 = .ok (.invokevirtual 387, 3) := by decide +kernel
theorem dX9_laysPinned_14 : decode cX9_laysPinned 14 = .ok (.aload_n 0, 1) := by decide +kernel
theorem dX9_laysPinned_15 : decode cX9_laysPinned 15 = .ok (.iconst (-1), 1) := by decide +kernel
theorem dX9_laysPinned_16 : decode cX9_laysPinned 16 = .ok (.putfield 49, 3) := by decide +kernel
theorem dX9_laysPinned_19 : decode cX9_laysPinned 19 = .ok (.return_, 1) := by decide +kernel
theorem dX9_pinned_0 : decode cX9_pinned 0 = .ok (.aload_n 0, 1) := by decide +kernel
theorem dX9_pinned_1 : decode cX9_pinned 1 = .ok (.iconst 0, 1) := by decide +kernel
theorem dX9_pinned_2 : decode cX9_pinned 2 = .ok (.putfield 1, 3) := by decide +kernel
theorem dX9_pinned_5 : decode cX9_pinned 5 = .ok (.aload_n 0, 1) := by decide +kernel
theorem dX9_pinned_6 : decode cX9_pinned 6 = .ok (.iload_n 1, 1) := by decide +kernel
theorem dX9_pinned_7 : decode cX9_pinned 7 = .ok (.invokevirtual 377, 3) := by decide +kernel
theorem dX9_pinned_10 : decode cX9_pinned 10 = .ok (.ifCond .eq 26, 3) := by decide +kernel
theorem dX9_pinned_13 : decode cX9_pinned 13 = .ok (.aload_n 0, 1) := by decide +kernel
theorem dX9_pinned_14 : decode cX9_pinned 14 = .ok (.iload_n 2, 1) := by decide +kernel
theorem dX9_pinned_15 : decode cX9_pinned 15 = .ok (.invokevirtual 398, 3) := by decide +kernel
theorem dX9_pinned_18 : decode cX9_pinned 18 = .ok (.ifCond .eq 18, 3) := by decide +kernel
theorem dX9_pinned_21 : decode cX9_pinned 21 = .ok (.aload_n 0, 1) := by decide +kernel
theorem dX9_pinned_22 : decode cX9_pinned 22 = .ok (.iload_n 3, 1) := by decide +kernel
theorem dX9_pinned_23 : decode cX9_pinned 23 = .ok (.iconst 0, 1) := by decide +kernel
theorem dX9_pinned_24 : decode cX9_pinned 24 = .ok (.iconst 2, 1) := by decide +kernel
theorem dX9_pinned_25 : decode cX9_pinned 25 = .ok (.invokestatic 251, 3) := by decide +kernel
theorem dX9_pinned_28 : decode cX9_pinned 28 = .ok (.iconst 2, 1) := by decide +kernel
theorem dX9_pinned_29 : decode cX9_pinned 29 = .ok (.iconst 1, 1) := by decide +kernel
theorem dX9_pinned_30 : decode cX9_pinned 30 = .ok (.invokevirtual 358, 3) := by decide +kernel
theorem dX9_pinned_33 : decode cX9_pinned 33 = .ok (.ifCond .ne 5, 3) := by decide +kernel
theorem dX9_pinned_36 : decode cX9_pinned 36 = .ok (.iconst 0, 1) := by decide +kernel
theorem dX9_pinned_37 : decode cX9_pinned 37 = .ok (.ireturn, 1) := by decide +kernel
theorem dX9_pinned_38 : decode cX9_pinned 38 = .ok (.aload_n 0, 1) := by decide +kernel
theorem dX9_pinned_39 : decode cX9_pinned 39 = .ok (.iload_n 1, 1) := by decide +kernel
theorem dX9_pinned_40 : decode cX9_pinned 40 = .ok (.iload_n 2, 1) := by decide +kernel
theorem dX9_pinned_41 : decode cX9_pinned 41 = .ok (.invokevirtual 435, 3) := by decide +kernel
theorem dX9_pinned_44 : decode cX9_pinned 44 = .ok (.aload_n 0, 1) := by decide +kernel
theorem dX9_pinned_45 : decode cX9_pinned 45 = .ok (.iload_n 3, 1) := by decide +kernel
theorem dX9_pinned_46 : decode cX9_pinned 46 = .ok (.invokevirtual 432, 3) := by decide +kernel
theorem dX9_pinned_49 : decode cX9_pinned 49 = .ok (.ireturn, 1) := by decide +kernel
theorem dX9_doomed_0 : decode cX9_doomed 0 = .ok (.aload_n 0, 1) := by decide +kernel
theorem dX9_doomed_1 : decode cX9_doomed 1 = .ok (.iconst 0, 1) := by decide +kernel
theorem dX9_doomed_2 : decode cX9_doomed 2 = .ok (.putfield 1, 3) := by decide +kernel
theorem dX9_doomed_5 : decode cX9_doomed 5 = .ok (.aload_n 0, 1) := by decide +kernel
theorem dX9_doomed_6 : decode cX9_doomed 6 = .ok (.iload_n 1, 1) := by decide +kernel
theorem dX9_doomed_7 : decode cX9_doomed 7 = .ok (.invokevirtual 377, 3) := by decide +kernel
theorem dX9_doomed_10 : decode cX9_doomed 10 = .ok (.ifCond .ne 5, 3) := by decide +kernel
theorem dX9_doomed_13 : decode cX9_doomed 13 = .ok (.iconst 0, 1) := by decide +kernel
theorem dX9_doomed_14 : decode cX9_doomed 14 = .ok (.ireturn, 1) := by decide +kernel
theorem dX9_doomed_15 : decode cX9_doomed 15 = .ok (.aload_n 0, 1) := by decide +kernel
theorem dX9_doomed_16 : decode cX9_doomed 16 = .ok (.invokevirtual 387, 3) := by decide +kernel
theorem dX9_doomed_19 : decode cX9_doomed 19 = .ok (.aload_n 0, 1) := by decide +kernel
theorem dX9_doomed_20 : decode cX9_doomed 20 = .ok (.invokevirtual 426, 3) := by decide +kernel
theorem dX9_doomed_23 : decode cX9_doomed 23 = .ok (.iconst 0, 1) := by decide +kernel
theorem dX9_doomed_24 : decode cX9_doomed 24 = .ok (.istore_n 2, 1) := by decide +kernel
theorem dX9_doomed_25 : decode cX9_doomed 25 = .ok (.iconst 0, 1) := by decide +kernel
theorem dX9_doomed_26 : decode cX9_doomed 26 = .ok (.istore_n 3, 1) := by decide +kernel
theorem dX9_doomed_27 : decode cX9_doomed 27 = .ok (.iload_n 3, 1) := by decide +kernel
theorem dX9_doomed_28 : decode cX9_doomed 28 = .ok (.sipush 1000, 3) := by decide +kernel
theorem dX9_doomed_31 : decode cX9_doomed 31 = .ok (.if_icmp .ge 44, 3) := by decide +kernel
theorem dX9_doomed_34 : decode cX9_doomed 34 = .ok (.aload_n 0, 1) := by decide +kernel
theorem dX9_doomed_35 : decode cX9_doomed 35 = .ok (.getfield 93, 3) := by decide +kernel
theorem dX9_doomed_38 : decode cX9_doomed 38 = .ok (.iload_n 1, 1) := by decide +kernel
theorem dX9_doomed_39 : decode cX9_doomed 39 = .ok (.aaload, 1) := by decide +kernel
theorem dX9_doomed_40 : decode cX9_doomed 40 = .ok (.iload_n 3, 1) := by decide +kernel
theorem dX9_doomed_41 : decode cX9_doomed 41 = .ok (.baload, 1) := by decide +kernel
theorem dX9_doomed_42 : decode cX9_doomed 42 = .ok (.ifCond .ne 6, 3) := by decide +kernel
theorem dX9_doomed_45 : decode cX9_doomed 45 = .ok (.goto 24, 3) := by decide +kernel
theorem dX9_doomed_48 : decode cX9_doomed 48 = .ok (.aload_n 0, 1) := by decide +kernel
theorem dX9_doomed_49 : decode cX9_doomed 49 = .ok (.iload_n 1, 1) := by decide +kernel
theorem dX9_doomed_50 : decode cX9_doomed 50 = .ok (.iload_n 3, 1) := by decide +kernel
theorem dX9_doomed_51 : decode cX9_doomed 51 = .ok (.invokevirtual 435, 3) := by decide +kernel
theorem dX9_doomed_54 : decode cX9_doomed 54 = .ok (.iload_n 2, 1) := by decide +kernel
theorem dX9_doomed_55 : decode cX9_doomed 55 = .ok (.aload_n 0, 1) := by decide +kernel
theorem dX9_doomed_56 : decode cX9_doomed 56 = .ok (.getfield 124, 3) := by decide +kernel
theorem dX9_doomed_59 : decode cX9_doomed 59 = .ok (.ifCond .eq 7, 3) := by decide +kernel
theorem dX9_doomed_62 : decode cX9_doomed 62 = .ok (.iconst 1, 1) := by decide +kernel
theorem dX9_doomed_63 : decode cX9_doomed 63 = .ok (.goto 4, 3) := by decide +kernel
theorem dX9_doomed_66 : decode cX9_doomed 66 = .ok (.iconst 0, 1) := by decide +kernel
theorem dX9_doomed_67 : decode cX9_doomed 67 = .ok (.iadd, 1) := by decide +kernel
theorem dX9_doomed_68 : decode cX9_doomed 68 = .ok (.istore_n 2, 1) := by decide +kernel
theorem dX9_doomed_69 : decode cX9_doomed 69 = .ok (.iinc 3 1, 3) := by decide +kernel
theorem dX9_doomed_72 : decode cX9_doomed 72 = .ok (.goto (-45), 3) := by decide +kernel
theorem dX9_doomed_75 : decode cX9_doomed 75 = .ok (.iload_n 2, 1) := by decide +kernel
theorem dX9_doomed_76 : decode cX9_doomed 76 = .ok (.ireturn, 1) := by decide +kernel
theorem dX9_phase_0 : decode cX9_phase 0 = .ok (.aload_n 0, 1) := by decide +kernel
theorem dX9_phase_1 : decode cX9_phase 1 = .ok (.iconst 0, 1) := by decide +kernel
theorem dX9_phase_2 : decode cX9_phase 2 = .ok (.putfield 1, 3) := by decide +kernel
theorem dX9_phase_5 : decode cX9_phase 5 = .ok (.aload_n 0, 1) := by decide +kernel
theorem dX9_phase_6 : decode cX9_phase 6 = .ok (.iload_n 1, 1) := by decide +kernel
theorem dX9_phase_7 : decode cX9_phase 7 = .ok (.invokevirtual 438, 3) := by decide +kernel
theorem dX9_phase_10 : decode cX9_phase 10 = .ok (.ifCond .eq 18, 3) := by decide +kernel
theorem dX9_phase_13 : decode cX9_phase 13 = .ok (.aload_n 0, 1) := by decide +kernel
theorem dX9_phase_14 : decode cX9_phase 14 = .ok (.iload_n 2, 1) := by decide +kernel
theorem dX9_phase_15 : decode cX9_phase 15 = .ok (.iconst 0, 1) := by decide +kernel
theorem dX9_phase_16 : decode cX9_phase 16 = .ok (.iconst 4, 1) := by decide +kernel
theorem dX9_phase_17 : decode cX9_phase 17 = .ok (.invokestatic 251, 3) := by decide +kernel
theorem dX9_phase_20 : decode cX9_phase 20 = .ok (.iconst 2, 1) := by decide +kernel
theorem dX9_phase_21 : decode cX9_phase 21 = .ok (.iconst 1, 1) := by decide +kernel
theorem dX9_phase_22 : decode cX9_phase 22 = .ok (.invokevirtual 358, 3) := by decide +kernel
theorem dX9_phase_25 : decode cX9_phase 25 = .ok (.ifCond .ne 5, 3) := by decide +kernel
theorem dX9_phase_28 : decode cX9_phase 28 = .ok (.iconst 0, 1) := by decide +kernel
theorem dX9_phase_29 : decode cX9_phase 29 = .ok (.ireturn, 1) := by decide +kernel
theorem dX9_phase_30 : decode cX9_phase 30 = .ok (.iload_n 2, 1) := by decide +kernel
theorem dX9_phase_31 : decode cX9_phase 31 = .ok (.ifCond .ne 10, 3) := by decide +kernel
theorem dX9_phase_34 : decode cX9_phase 34 = .ok (.aload_n 0, 1) := by decide +kernel
theorem dX9_phase_35 : decode cX9_phase 35 = .ok (.getfield 32, 3) := by decide +kernel
theorem dX9_phase_38 : decode cX9_phase 38 = .ok (.iload_n 1, 1) := by decide +kernel
theorem dX9_phase_39 : decode cX9_phase 39 = .ok (.iaload, 1) := by decide +kernel
theorem dX9_phase_40 : decode cX9_phase 40 = .ok (.ireturn, 1) := by decide +kernel
theorem dX9_phase_41 : decode cX9_phase 41 = .ok (.aload_n 0, 1) := by decide +kernel
theorem dX9_phase_42 : decode cX9_phase 42 = .ok (.invokevirtual 387, 3) := by decide +kernel
theorem dX9_phase_45 : decode cX9_phase 45 = .ok (.iconst (-1), 1) := by decide +kernel
theorem dX9_phase_46 : decode cX9_phase 46 = .ok (.istore_n 3, 1) := by decide +kernel
theorem dX9_phase_47 : decode cX9_phase 47 = .ok (.iconst (-1), 1) := by decide +kernel
theorem dX9_phase_48 : decode cX9_phase 48 = .ok (.istore 4, 2) := by decide +kernel
theorem dX9_phase_50 : decode cX9_phase 50 = .ok (.iconst (-1), 1) := by decide +kernel
theorem dX9_phase_51 : decode cX9_phase 51 = .ok (.istore 5, 2) := by decide +kernel
theorem dX9_phase_53 : decode cX9_phase 53 = .ok (.sipush 1000, 3) := by decide +kernel
theorem dX9_phase_56 : decode cX9_phase 56 = .ok (.istore 6, 2) := by decide +kernel
theorem dX9_phase_58 : decode cX9_phase 58 = .ok (.iconst 0, 1) := by decide +kernel
theorem dX9_phase_59 : decode cX9_phase 59 = .ok (.istore 7, 2) := by decide +kernel
theorem dX9_phase_61 : decode cX9_phase 61 = .ok (.iconst 0, 1) := by decide +kernel
theorem dX9_phase_62 : decode cX9_phase 62 = .ok (.istore 8, 2) := by decide +kernel
theorem dX9_phase_64 : decode cX9_phase 64 = .ok (.iload 8, 2) := by decide +kernel
theorem dX9_phase_66 : decode cX9_phase 66 = .ok (.aload_n 0, 1) := by decide +kernel
theorem dX9_phase_67 : decode cX9_phase 67 = .ok (.getfield 32, 3) := by decide +kernel
theorem dX9_phase_70 : decode cX9_phase 70 = .ok (.iload_n 1, 1) := by decide +kernel
theorem dX9_phase_71 : decode cX9_phase 71 = .ok (.iaload, 1) := by decide +kernel
theorem dX9_phase_72 : decode cX9_phase 72 = .ok (.if_icmp .ge 107, 3) := by decide +kernel
theorem dX9_phase_75 : decode cX9_phase 75 = .ok (.aload_n 0, 1) := by decide +kernel
theorem dX9_phase_76 : decode cX9_phase 76 = .ok (.aload_n 0, 1) := by decide +kernel
theorem dX9_phase_77 : decode cX9_phase 77 = .ok (.iload_n 1, 1) := by decide +kernel
theorem dX9_phase_78 : decode cX9_phase 78 = .ok (.iload 8, 2) := by decide +kernel
theorem dX9_phase_80 : decode cX9_phase 80 = .ok (.invokevirtual 169, 3) := by decide +kernel
theorem dX9_phase_83 : decode cX9_phase 83 = .ok (.invokevirtual 405, 3) := by decide +kernel
theorem dX9_phase_86 : decode cX9_phase 86 = .ok (.istore 9, 2) := by decide +kernel
theorem dX9_phase_88 : decode cX9_phase 88 = .ok (.aload_n 0, 1) := by decide +kernel
theorem dX9_phase_89 : decode cX9_phase 89 = .ok (.aload_n 0, 1) := by decide +kernel
theorem dX9_phase_90 : decode cX9_phase 90 = .ok (.iload_n 1, 1) := by decide +kernel
theorem dX9_phase_91 : decode cX9_phase 91 = .ok (.iload 8, 2) := by decide +kernel
theorem dX9_phase_93 : decode cX9_phase 93 = .ok (.invokevirtual 169, 3) := by decide +kernel
theorem dX9_phase_96 : decode cX9_phase 96 = .ok (.invokevirtual 408, 3) := by decide +kernel
theorem dX9_phase_99 : decode cX9_phase 99 = .ok (.istore 10, 2) := by decide +kernel
theorem dX9_phase_101 : decode cX9_phase 101 = .ok (.iload 7, 2) := by decide +kernel
theorem dX9_phase_103 : decode cX9_phase 103 = .ok (.ifCond .ne 9, 3) := by decide +kernel
theorem dX9_phase_106 : decode cX9_phase 106 = .ok (.iload 9, 2) := by decide +kernel
theorem dX9_phase_108 : decode cX9_phase 108 = .ok (.iconst (-1), 1) := by decide +kernel
theorem dX9_phase_109 : decode cX9_phase 109 = .ok (.if_icmp .ne 7, 3) := by decide +kernel
theorem dX9_phase_112 : decode cX9_phase 112 = .ok (.iconst 1, 1) := by decide +kernel
theorem dX9_phase_113 : decode cX9_phase 113 = .ok (.goto 4, 3) := by decide +kernel
theorem dX9_phase_116 : decode cX9_phase 116 = .ok (.iconst 0, 1) := by decide +kernel
theorem dX9_phase_117 : decode cX9_phase 117 = .ok (.istore 7, 2) := by decide +kernel
theorem dX9_phase_119 : decode cX9_phase 119 = .ok (.iload 9, 2) := by decide +kernel
theorem dX9_phase_121 : decode cX9_phase 121 = .ok (.iconst (-1), 1) := by decide +kernel
theorem dX9_phase_122 : decode cX9_phase 122 = .ok (.if_icmp .ne 6, 3) := by decide +kernel
theorem dX9_phase_125 : decode cX9_phase 125 = .ok (.goto 48, 3) := by decide +kernel
theorem dX9_phase_128 : decode cX9_phase 128 = .ok (.iload_n 3, 1) := by decide +kernel
theorem dX9_phase_129 : decode cX9_phase 129 = .ok (.iconst (-1), 1) := by decide +kernel
theorem dX9_phase_130 : decode cX9_phase 130 = .ok (.if_icmp .eq 9, 3) := by decide +kernel
theorem dX9_phase_133 : decode cX9_phase 133 = .ok (.iload 9, 2) := by decide +kernel
theorem dX9_phase_135 : decode cX9_phase 135 = .ok (.iload_n 3, 1) := by decide +kernel
theorem dX9_phase_136 : decode cX9_phase 136 = .ok (.if_icmp .ge 8, 3) := by decide +kernel
theorem dX9_phase_139 : decode cX9_phase 139 = .ok (.iload 9, 2) := by decide +kernel
theorem dX9_phase_141 : decode cX9_phase 141 = .ok (.goto 4, 3) := by decide +kernel
theorem dX9_phase_144 : decode cX9_phase 144 = .ok (.iload_n 3, 1) := by decide +kernel
theorem dX9_phase_145 : decode cX9_phase 145 = .ok (.istore_n 3, 1) := by decide +kernel
theorem dX9_phase_146 : decode cX9_phase 146 = .ok (.iload 4, 2) := by decide +kernel
theorem dX9_phase_148 : decode cX9_phase 148 = .ok (.iload 10, 2) := by decide +kernel
theorem dX9_phase_150 : decode cX9_phase 150 = .ok (.invokestatic 141, 3) := by decide +kernel
theorem dX9_phase_153 : decode cX9_phase 153 = .ok (.istore 4, 2) := by decide +kernel
theorem dX9_phase_155 : decode cX9_phase 155 = .ok (.iload 5, 2) := by decide +kernel
theorem dX9_phase_157 : decode cX9_phase 157 = .ok (.iload 9, 2) := by decide +kernel
theorem dX9_phase_159 : decode cX9_phase 159 = .ok (.invokestatic 141, 3) := by decide +kernel
theorem dX9_phase_162 : decode cX9_phase 162 = .ok (.istore 5, 2) := by decide +kernel
theorem dX9_phase_164 : decode cX9_phase 164 = .ok (.iload 6, 2) := by decide +kernel
theorem dX9_phase_166 : decode cX9_phase 166 = .ok (.iload 10, 2) := by decide +kernel
theorem dX9_phase_168 : decode cX9_phase 168 = .ok (.invokestatic 144, 3) := by decide +kernel
theorem dX9_phase_171 : decode cX9_phase 171 = .ok (.istore 6, 2) := by decide +kernel
theorem dX9_phase_173 : decode cX9_phase 173 = .ok (.iinc 8 1, 3) := by decide +kernel
theorem dX9_phase_176 : decode cX9_phase 176 = .ok (.goto (-112), 3) := by decide +kernel
theorem dX9_phase_179 : decode cX9_phase 179 = .ok (.iload_n 2, 1) := by decide +kernel
theorem dX9_phase_180 : decode cX9_phase 180 = .ok (.iconst 3, 1) := by decide +kernel
theorem dX9_phase_181 : decode cX9_phase 181 = .ok (.if_icmp .ge 15, 3) := by decide +kernel
theorem dX9_phase_184 : decode cX9_phase 184 = .ok (.iload_n 2, 1) := by decide +kernel
theorem dX9_phase_185 : decode cX9_phase 185 = .ok (.iconst 1, 1) := by decide +kernel
theorem dX9_phase_186 : decode cX9_phase 186 = .ok (.if_icmp .ne 7, 3) := by decide +kernel
theorem dX9_phase_189 : decode cX9_phase 189 = .ok (.iload_n 3, 1) := by decide +kernel
theorem dX9_phase_190 : decode cX9_phase 190 = .ok (.goto 5, 3) := by decide +kernel
theorem dX9_phase_193 : decode cX9_phase 193 = .ok (.iload 4, 2) := by decide +kernel
theorem dX9_phase_195 : decode cX9_phase 195 = .ok (.ireturn, 1) := by decide +kernel
theorem dX9_phase_196 : decode cX9_phase 196 = .ok (.iload 7, 2) := by decide +kernel
theorem dX9_phase_198 : decode cX9_phase 198 = .ok (.ifCond .eq 7, 3) := by decide +kernel
theorem dX9_phase_201 : decode cX9_phase 201 = .ok (.iconst (-1), 1) := by decide +kernel
theorem dX9_phase_202 : decode cX9_phase 202 = .ok (.goto 24, 3) := by decide +kernel
theorem dX9_phase_205 : decode cX9_phase 205 = .ok (.iload_n 2, 1) := by decide +kernel
theorem dX9_phase_206 : decode cX9_phase 206 = .ok (.iconst 3, 1) := by decide +kernel
theorem dX9_phase_207 : decode cX9_phase 207 = .ok (.if_icmp .ne 15, 3) := by decide +kernel
theorem dX9_phase_210 : decode cX9_phase 210 = .ok (.iconst 0, 1) := by decide +kernel
theorem dX9_phase_211 : decode cX9_phase 211 = .ok (.iload 5, 2) := by decide +kernel
theorem dX9_phase_213 : decode cX9_phase 213 = .ok (.iload 6, 2) := by decide +kernel
theorem dX9_phase_215 : decode cX9_phase 215 = .ok (.isub, 1) := by decide +kernel
theorem dX9_phase_216 : decode cX9_phase 216 = .ok (.invokestatic 141, 3) := by decide +kernel
theorem dX9_phase_219 : decode cX9_phase 219 = .ok (.goto 7, 3) := by decide +kernel
theorem dX9_phase_222 : decode cX9_phase 222 = .ok (.iload 4, 2) := by decide +kernel
theorem dX9_phase_224 : decode cX9_phase 224 = .ok (.iload_n 3, 1) := by decide +kernel
theorem dX9_phase_225 : decode cX9_phase 225 = .ok (.isub, 1) := by decide +kernel
theorem dX9_phase_226 : decode cX9_phase 226 = .ok (.ireturn, 1) := by decide +kernel
theorem dX9_member_0 : decode cX9_member 0 = .ok (.aload_n 0, 1) := by decide +kernel
theorem dX9_member_1 : decode cX9_member 1 = .ok (.iconst 0, 1) := by decide +kernel
theorem dX9_member_2 : decode cX9_member 2 = .ok (.putfield 1, 3) := by decide +kernel
theorem dX9_member_5 : decode cX9_member 5 = .ok (.aload_n 0, 1) := by decide +kernel
theorem dX9_member_6 : decode cX9_member 6 = .ok (.iload_n 1, 1) := by decide +kernel
theorem dX9_member_7 : decode cX9_member 7 = .ok (.invokevirtual 438, 3) := by decide +kernel
theorem dX9_member_10 : decode cX9_member 10 = .ok (.ifCond .ne 5, 3) := by decide +kernel
theorem dX9_member_13 : decode cX9_member 13 = .ok (.iconst 0, 1) := by decide +kernel
theorem dX9_member_14 : decode cX9_member 14 = .ok (.ireturn, 1) := by decide +kernel
theorem dX9_member_15 : decode cX9_member 15 = .ok (.iload_n 2, 1) := by decide +kernel
theorem dX9_member_16 : decode cX9_member 16 = .ok (.iconst 0, 1) := by decide +kernel
theorem dX9_member_17 : decode cX9_member 17 = .ok (.aload_n 0, 1) := by decide +kernel
theorem dX9_member_18 : decode cX9_member 18 = .ok (.getfield 32, 3) := by decide +kernel
theorem dX9_member_21 : decode cX9_member 21 = .ok (.iload_n 1, 1) := by decide +kernel
theorem dX9_member_22 : decode cX9_member 22 = .ok (.iaload, 1) := by decide +kernel
theorem dX9_member_23 : decode cX9_member 23 = .ok (.iconst 1, 1) := by decide +kernel
theorem dX9_member_24 : decode cX9_member 24 = .ok (.isub, 1) := by decide +kernel
theorem dX9_member_25 : decode cX9_member 25 = .ok (.invokestatic 251, 3) := by decide +kernel
theorem dX9_member_28 : decode cX9_member 28 = .ok (.ifCond .eq 12, 3) := by decide +kernel
theorem dX9_member_31 : decode cX9_member 31 = .ok (.aload_n 0, 1) := by decide +kernel
theorem dX9_member_32 : decode cX9_member 32 = .ok (.iload_n 1, 1) := by decide +kernel
theorem dX9_member_33 : decode cX9_member 33 = .ok (.iload_n 2, 1) := by decide +kernel
theorem dX9_member_34 : decode cX9_member 34 = .ok (.invokevirtual 169, 3) := by decide +kernel
theorem dX9_member_37 : decode cX9_member 37 = .ok (.goto 4, 3) := by decide +kernel
theorem dX9_member_40 : decode cX9_member 40 = .ok (.iconst (-1), 1) := by decide +kernel
theorem dX9_member_41 : decode cX9_member 41 = .ok (.ireturn, 1) := by decide +kernel
theorem dX9_fitsPair_0 : decode cX9_fitsPair 0 = .ok (.iload_n 1, 1) := by decide +kernel
theorem dX9_fitsPair_1 : decode cX9_fitsPair 1 = .ok (.iload 6, 2) := by decide +kernel
theorem dX9_fitsPair_3 : decode cX9_fitsPair 3 = .ok (.if_icmp .gt 21, 3) := by decide +kernel
theorem dX9_fitsPair_6 : decode cX9_fitsPair 6 = .ok (.iload_n 2, 1) := by decide +kernel
theorem dX9_fitsPair_7 : decode cX9_fitsPair 7 = .ok (.iload 6, 2) := by decide +kernel
theorem dX9_fitsPair_9 : decode cX9_fitsPair 9 = .ok (.if_icmp .gt 15, 3) := by decide +kernel
theorem dX9_fitsPair_12 : decode cX9_fitsPair 12 = .ok (.iload_n 1, 1) := by decide +kernel
theorem dX9_fitsPair_13 : decode cX9_fitsPair 13 = .ok (.iload 5, 2) := by decide +kernel
theorem dX9_fitsPair_15 : decode cX9_fitsPair 15 = .ok (.if_icmp .eq 11, 3) := by decide +kernel
theorem dX9_fitsPair_18 : decode cX9_fitsPair 18 = .ok (.iload_n 2, 1) := by decide +kernel
theorem dX9_fitsPair_19 : decode cX9_fitsPair 19 = .ok (.iload 5, 2) := by decide +kernel
theorem dX9_fitsPair_21 : decode cX9_fitsPair 21 = .ok (.if_icmp .eq 5, 3) := by decide +kernel
theorem dX9_fitsPair_24 : decode cX9_fitsPair 24 = .ok (.iconst 1, 1) := by decide +kernel
theorem dX9_fitsPair_25 : decode cX9_fitsPair 25 = .ok (.ireturn, 1) := by decide +kernel
theorem dX9_fitsPair_26 : decode cX9_fitsPair 26 = .ok (.aload_n 0, 1) := by decide +kernel
theorem dX9_fitsPair_27 : decode cX9_fitsPair 27 = .ok (.getfield 96, 3) := by decide +kernel
theorem dX9_fitsPair_30 : decode cX9_fitsPair 30 = .ok (.iload_n 2, 1) := by decide +kernel
theorem dX9_fitsPair_31 : decode cX9_fitsPair 31 = .ok (.iaload, 1) := by decide +kernel
theorem dX9_fitsPair_32 : decode cX9_fitsPair 32 = .ok (.aload_n 0, 1) := by decide +kernel
theorem dX9_fitsPair_33 : decode cX9_fitsPair 33 = .ok (.getfield 96, 3) := by decide +kernel
theorem dX9_fitsPair_36 : decode cX9_fitsPair 36 = .ok (.iload_n 1, 1) := by decide +kernel
theorem dX9_fitsPair_37 : decode cX9_fitsPair 37 = .ok (.iaload, 1) := by decide +kernel
theorem dX9_fitsPair_38 : decode cX9_fitsPair 38 = .ok (.isub, 1) := by decide +kernel
theorem dX9_fitsPair_39 : decode cX9_fitsPair 39 = .ok (.iload_n 3, 1) := by decide +kernel
theorem dX9_fitsPair_40 : decode cX9_fitsPair 40 = .ok (.iload 4, 2) := by decide +kernel
theorem dX9_fitsPair_42 : decode cX9_fitsPair 42 = .ok (.invokestatic 251, 3) := by decide +kernel
theorem dX9_fitsPair_45 : decode cX9_fitsPair 45 = .ok (.ireturn, 1) := by decide +kernel
theorem dX9_fitsRule_0 : decode cX9_fitsRule 0 = .ok (.aload_n 0, 1) := by decide +kernel
theorem dX9_fitsRule_1 : decode cX9_fitsRule 1 = .ok (.iload_n 1, 1) := by decide +kernel
theorem dX9_fitsRule_2 : decode cX9_fitsRule 2 = .ok (.iconst 1, 1) := by decide +kernel
theorem dX9_fitsRule_3 : decode cX9_fitsRule 3 = .ok (.invokevirtual 166, 3) := by decide +kernel
theorem dX9_fitsRule_6 : decode cX9_fitsRule 6 = .ok (.istore_n 3, 1) := by decide +kernel
theorem dX9_fitsRule_7 : decode cX9_fitsRule 7 = .ok (.aload_n 0, 1) := by decide +kernel
theorem dX9_fitsRule_8 : decode cX9_fitsRule 8 = .ok (.iload_n 1, 1) := by decide +kernel
theorem dX9_fitsRule_9 : decode cX9_fitsRule 9 = .ok (.iconst 2, 1) := by decide +kernel
theorem dX9_fitsRule_10 : decode cX9_fitsRule 10 = .ok (.invokevirtual 166, 3) := by decide +kernel
theorem dX9_fitsRule_13 : decode cX9_fitsRule 13 = .ok (.istore 4, 2) := by decide +kernel
theorem dX9_fitsRule_15 : decode cX9_fitsRule 15 = .ok (.aload_n 0, 1) := by decide +kernel
theorem dX9_fitsRule_16 : decode cX9_fitsRule 16 = .ok (.iload_n 1, 1) := by decide +kernel
theorem dX9_fitsRule_17 : decode cX9_fitsRule 17 = .ok (.iconst 3, 1) := by decide +kernel
theorem dX9_fitsRule_18 : decode cX9_fitsRule 18 = .ok (.invokevirtual 166, 3) := by decide +kernel
theorem dX9_fitsRule_21 : decode cX9_fitsRule 21 = .ok (.istore 5, 2) := by decide +kernel
theorem dX9_fitsRule_23 : decode cX9_fitsRule 23 = .ok (.iconst 1, 1) := by decide +kernel
theorem dX9_fitsRule_24 : decode cX9_fitsRule 24 = .ok (.istore 6, 2) := by decide +kernel
theorem dX9_fitsRule_26 : decode cX9_fitsRule 26 = .ok (.aload_n 0, 1) := by decide +kernel
theorem dX9_fitsRule_27 : decode cX9_fitsRule 27 = .ok (.iload_n 1, 1) := by decide +kernel
theorem dX9_fitsRule_28 : decode cX9_fitsRule 28 = .ok (.iconst 0, 1) := by decide +kernel
theorem dX9_fitsRule_29 : decode cX9_fitsRule 29 = .ok (.invokevirtual 166, 3) := by decide +kernel
theorem dX9_fitsRule_32 : decode cX9_fitsRule 32 = .ok (.tableswitch 241 0 5 #[40, 58, 241, 241, 70, 155], 40) := by decide +kernel
theorem dX9_fitsRule_72 : decode cX9_fitsRule 72 = .ok (.aload_n 0, 1) := by decide +kernel
theorem dX9_fitsRule_73 : decode cX9_fitsRule 73 = .ok (.iload_n 3, 1) := by decide +kernel
theorem dX9_fitsRule_74 : decode cX9_fitsRule 74 = .ok (.iload 4, 2) := by decide +kernel
theorem dX9_fitsRule_76 : decode cX9_fitsRule 76 = .ok (.iload 5, 2) := by decide +kernel
theorem dX9_fitsRule_78 : decode cX9_fitsRule 78 = .ok (.aload_n 0, 1) := by decide +kernel
theorem dX9_fitsRule_79 : decode cX9_fitsRule 79 = .ok (.iload_n 1, 1) := by decide +kernel
theorem dX9_fitsRule_80 : decode cX9_fitsRule 80 = .ok (.iconst 4, 1) := by decide +kernel
theorem dX9_fitsRule_81 : decode cX9_fitsRule 81 = .ok (.invokevirtual 166, 3) := by decide +kernel
theorem dX9_fitsRule_84 : decode cX9_fitsRule 84 = .ok (.iload_n 2, 1) := by decide +kernel
theorem dX9_fitsRule_85 : decode cX9_fitsRule 85 = .ok (.iload_n 2, 1) := by decide +kernel
theorem dX9_fitsRule_86 : decode cX9_fitsRule 86 = .ok (.invokevirtual 441, 3) := by decide +kernel
theorem dX9_fitsRule_89 : decode cX9_fitsRule 89 = .ok (.ireturn, 1) := by decide +kernel
theorem dX9_fitsRule_90 : decode cX9_fitsRule 90 = .ok (.aload_n 0, 1) := by decide +kernel
theorem dX9_fitsRule_91 : decode cX9_fitsRule 91 = .ok (.iload_n 3, 1) := by decide +kernel
theorem dX9_fitsRule_92 : decode cX9_fitsRule 92 = .ok (.iload 4, 2) := by decide +kernel
theorem dX9_fitsRule_94 : decode cX9_fitsRule 94 = .ok (.iconst 0, 1) := by decide +kernel
theorem dX9_fitsRule_95 : decode cX9_fitsRule 95 = .ok (.iconst 0, 1) := by decide +kernel
theorem dX9_fitsRule_96 : decode cX9_fitsRule 96 = .ok (.iload_n 2, 1) := by decide +kernel
theorem dX9_fitsRule_97 : decode cX9_fitsRule 97 = .ok (.iload_n 2, 1) := by decide +kernel
theorem dX9_fitsRule_98 : decode cX9_fitsRule 98 = .ok (.invokevirtual 441, 3) := by decide +kernel
theorem dX9_fitsRule_101 : decode cX9_fitsRule 101 = .ok (.ireturn, 1) := by decide +kernel
theorem dX9_fitsRule_102 : decode cX9_fitsRule 102 = .ok (.iconst 0, 1) := by decide +kernel
theorem dX9_fitsRule_103 : decode cX9_fitsRule 103 = .ok (.istore 7, 2) := by decide +kernel
theorem dX9_fitsRule_105 : decode cX9_fitsRule 105 = .ok (.iload 7, 2) := by decide +kernel
theorem dX9_fitsRule_107 : decode cX9_fitsRule 107 = .ok (.aload_n 0, 1) := by decide +kernel
theorem dX9_fitsRule_108 : decode cX9_fitsRule 108 = .ok (.getfield 32, 3) := by decide +kernel
theorem dX9_fitsRule_111 : decode cX9_fitsRule 111 = .ok (.iload_n 3, 1) := by decide +kernel
theorem dX9_fitsRule_112 : decode cX9_fitsRule 112 = .ok (.iaload, 1) := by decide +kernel
theorem dX9_fitsRule_113 : decode cX9_fitsRule 113 = .ok (.if_icmp .ge 71, 3) := by decide +kernel
theorem dX9_fitsRule_116 : decode cX9_fitsRule 116 = .ok (.iconst 0, 1) := by decide +kernel
theorem dX9_fitsRule_117 : decode cX9_fitsRule 117 = .ok (.istore 8, 2) := by decide +kernel
theorem dX9_fitsRule_119 : decode cX9_fitsRule 119 = .ok (.iload 8, 2) := by decide +kernel
theorem dX9_fitsRule_121 : decode cX9_fitsRule 121 = .ok (.aload_n 0, 1) := by decide +kernel
theorem dX9_fitsRule_122 : decode cX9_fitsRule 122 = .ok (.getfield 32, 3) := by decide +kernel
theorem dX9_fitsRule_125 : decode cX9_fitsRule 125 = .ok (.iload 4, 2) := by decide +kernel
theorem dX9_fitsRule_127 : decode cX9_fitsRule 127 = .ok (.iaload, 1) := by decide +kernel
theorem dX9_fitsRule_128 : decode cX9_fitsRule 128 = .ok (.if_icmp .ge 50, 3) := by decide +kernel
theorem dX9_fitsRule_131 : decode cX9_fitsRule 131 = .ok (.iload 6, 2) := by decide +kernel
theorem dX9_fitsRule_133 : decode cX9_fitsRule 133 = .ok (.ifCond .eq 36, 3) := by decide +kernel
theorem dX9_fitsRule_136 : decode cX9_fitsRule 136 = .ok (.aload_n 0, 1) := by decide +kernel
theorem dX9_fitsRule_137 : decode cX9_fitsRule 137 = .ok (.aload_n 0, 1) := by decide +kernel
theorem dX9_fitsRule_138 : decode cX9_fitsRule 138 = .ok (.iload_n 3, 1) := by decide +kernel
theorem dX9_fitsRule_139 : decode cX9_fitsRule 139 = .ok (.iload 7, 2) := by decide +kernel
theorem dX9_fitsRule_141 : decode cX9_fitsRule 141 = .ok (.invokevirtual 169, 3) := by decide +kernel
theorem dX9_fitsRule_144 : decode cX9_fitsRule 144 = .ok (.aload_n 0, 1) := by decide +kernel
theorem dX9_fitsRule_145 : decode cX9_fitsRule 145 = .ok (.iload 4, 2) := by decide +kernel
theorem dX9_fitsRule_147 : decode cX9_fitsRule 147 = .ok (.iload 8, 2) := by decide +kernel
theorem dX9_fitsRule_149 : decode cX9_fitsRule 149 = .ok (.invokevirtual 169, 3) := by decide +kernel
theorem dX9_fitsRule_152 : decode cX9_fitsRule 152 = .ok (.iload 5, 2) := by decide +kernel
theorem dX9_fitsRule_154 : decode cX9_fitsRule 154 = .ok (.sipush 999, 3) := by decide +kernel
theorem dX9_fitsRule_157 : decode cX9_fitsRule 157 = .ok (.iload_n 2, 1) := by decide +kernel
theorem dX9_fitsRule_158 : decode cX9_fitsRule 158 = .ok (.iload_n 2, 1) := by decide +kernel
theorem dX9_fitsRule_159 : decode cX9_fitsRule 159 = .ok (.invokevirtual 441, 3) := by decide +kernel
theorem dX9_fitsRule_162 : decode cX9_fitsRule 162 = .ok (.ifCond .eq 7, 3) := by decide +kernel
theorem dX9_fitsRule_165 : decode cX9_fitsRule 165 = .ok (.iconst 1, 1) := by decide +kernel
theorem dX9_fitsRule_166 : decode cX9_fitsRule 166 = .ok (.goto 4, 3) := by decide +kernel
theorem dX9_fitsRule_169 : decode cX9_fitsRule 169 = .ok (.iconst 0, 1) := by decide +kernel
theorem dX9_fitsRule_170 : decode cX9_fitsRule 170 = .ok (.istore 6, 2) := by decide +kernel
theorem dX9_fitsRule_172 : decode cX9_fitsRule 172 = .ok (.iinc 8 1, 3) := by decide +kernel
theorem dX9_fitsRule_175 : decode cX9_fitsRule 175 = .ok (.goto (-56), 3) := by decide +kernel
theorem dX9_fitsRule_178 : decode cX9_fitsRule 178 = .ok (.iinc 7 1, 3) := by decide +kernel
theorem dX9_fitsRule_181 : decode cX9_fitsRule 181 = .ok (.goto (-76), 3) := by decide +kernel
theorem dX9_fitsRule_184 : decode cX9_fitsRule 184 = .ok (.iload 6, 2) := by decide +kernel
theorem dX9_fitsRule_186 : decode cX9_fitsRule 186 = .ok (.ireturn, 1) := by decide +kernel
theorem dX9_fitsRule_187 : decode cX9_fitsRule 187 = .ok (.iconst 0, 1) := by decide +kernel
theorem dX9_fitsRule_188 : decode cX9_fitsRule 188 = .ok (.istore 7, 2) := by decide +kernel
theorem dX9_fitsRule_190 : decode cX9_fitsRule 190 = .ok (.iload 7, 2) := by decide +kernel
theorem dX9_fitsRule_192 : decode cX9_fitsRule 192 = .ok (.aload_n 0, 1) := by decide +kernel
theorem dX9_fitsRule_193 : decode cX9_fitsRule 193 = .ok (.getfield 32, 3) := by decide +kernel
theorem dX9_fitsRule_196 : decode cX9_fitsRule 196 = .ok (.iload_n 3, 1) := by decide +kernel
theorem dX9_fitsRule_197 : decode cX9_fitsRule 197 = .ok (.iaload, 1) := by decide +kernel
theorem dX9_fitsRule_198 : decode cX9_fitsRule 198 = .ok (.if_icmp .ge 72, 3) := by decide +kernel
theorem dX9_fitsRule_201 : decode cX9_fitsRule 201 = .ok (.iload 7, 2) := by decide +kernel
theorem dX9_fitsRule_203 : decode cX9_fitsRule 203 = .ok (.iconst 1, 1) := by decide +kernel
theorem dX9_fitsRule_204 : decode cX9_fitsRule 204 = .ok (.iadd, 1) := by decide +kernel
theorem dX9_fitsRule_205 : decode cX9_fitsRule 205 = .ok (.istore 8, 2) := by decide +kernel
theorem dX9_fitsRule_207 : decode cX9_fitsRule 207 = .ok (.iload 8, 2) := by decide +kernel
theorem dX9_fitsRule_209 : decode cX9_fitsRule 209 = .ok (.aload_n 0, 1) := by decide +kernel
theorem dX9_fitsRule_210 : decode cX9_fitsRule 210 = .ok (.getfield 32, 3) := by decide +kernel
theorem dX9_fitsRule_213 : decode cX9_fitsRule 213 = .ok (.iload_n 3, 1) := by decide +kernel
theorem dX9_fitsRule_214 : decode cX9_fitsRule 214 = .ok (.iaload, 1) := by decide +kernel
theorem dX9_fitsRule_215 : decode cX9_fitsRule 215 = .ok (.if_icmp .ge 49, 3) := by decide +kernel
theorem dX9_fitsRule_218 : decode cX9_fitsRule 218 = .ok (.iload 6, 2) := by decide +kernel
theorem dX9_fitsRule_220 : decode cX9_fitsRule 220 = .ok (.ifCond .eq 35, 3) := by decide +kernel
theorem dX9_fitsRule_223 : decode cX9_fitsRule 223 = .ok (.aload_n 0, 1) := by decide +kernel
theorem dX9_fitsRule_224 : decode cX9_fitsRule 224 = .ok (.aload_n 0, 1) := by decide +kernel
theorem dX9_fitsRule_225 : decode cX9_fitsRule 225 = .ok (.iload_n 3, 1) := by decide +kernel
theorem dX9_fitsRule_226 : decode cX9_fitsRule 226 = .ok (.iload 7, 2) := by decide +kernel
theorem dX9_fitsRule_228 : decode cX9_fitsRule 228 = .ok (.invokevirtual 169, 3) := by decide +kernel
theorem dX9_fitsRule_231 : decode cX9_fitsRule 231 = .ok (.aload_n 0, 1) := by decide +kernel
theorem dX9_fitsRule_232 : decode cX9_fitsRule 232 = .ok (.iload_n 3, 1) := by decide +kernel
theorem dX9_fitsRule_233 : decode cX9_fitsRule 233 = .ok (.iload 8, 2) := by decide +kernel
theorem dX9_fitsRule_235 : decode cX9_fitsRule 235 = .ok (.invokevirtual 169, 3) := by decide +kernel
theorem dX9_fitsRule_238 : decode cX9_fitsRule 238 = .ok (.iload 5, 2) := by decide +kernel
theorem dX9_fitsRule_240 : decode cX9_fitsRule 240 = .ok (.ineg, 1) := by decide +kernel
theorem dX9_fitsRule_241 : decode cX9_fitsRule 241 = .ok (.iload 5, 2) := by decide +kernel
theorem dX9_fitsRule_243 : decode cX9_fitsRule 243 = .ok (.iload_n 2, 1) := by decide +kernel
theorem dX9_fitsRule_244 : decode cX9_fitsRule 244 = .ok (.iload_n 2, 1) := by decide +kernel
theorem dX9_fitsRule_245 : decode cX9_fitsRule 245 = .ok (.invokevirtual 441, 3) := by decide +kernel
theorem dX9_fitsRule_248 : decode cX9_fitsRule 248 = .ok (.ifCond .eq 7, 3) := by decide +kernel
theorem dX9_fitsRule_251 : decode cX9_fitsRule 251 = .ok (.iconst 1, 1) := by decide +kernel
theorem dX9_fitsRule_252 : decode cX9_fitsRule 252 = .ok (.goto 4, 3) := by decide +kernel
theorem dX9_fitsRule_255 : decode cX9_fitsRule 255 = .ok (.iconst 0, 1) := by decide +kernel
theorem dX9_fitsRule_256 : decode cX9_fitsRule 256 = .ok (.istore 6, 2) := by decide +kernel
theorem dX9_fitsRule_258 : decode cX9_fitsRule 258 = .ok (.iinc 8 1, 3) := by decide +kernel
theorem dX9_fitsRule_261 : decode cX9_fitsRule 261 = .ok (.goto (-54), 3) := by decide +kernel
theorem dX9_fitsRule_264 : decode cX9_fitsRule 264 = .ok (.iinc 7 1, 3) := by decide +kernel
theorem dX9_fitsRule_267 : decode cX9_fitsRule 267 = .ok (.goto (-77), 3) := by decide +kernel
theorem dX9_fitsRule_270 : decode cX9_fitsRule 270 = .ok (.iload 6, 2) := by decide +kernel
theorem dX9_fitsRule_272 : decode cX9_fitsRule 272 = .ok (.ireturn, 1) := by decide +kernel
theorem dX9_fitsRule_273 : decode cX9_fitsRule 273 = .ok (.iconst 1, 1) := by decide +kernel
theorem dX9_fitsRule_274 : decode cX9_fitsRule 274 = .ok (.ireturn, 1) := by decide +kernel
theorem dX9_fitsAll_0 : decode cX9_fitsAll 0 = .ok (.iconst 0, 1) := by decide +kernel
theorem dX9_fitsAll_1 : decode cX9_fitsAll 1 = .ok (.istore_n 2, 1) := by decide +kernel
theorem dX9_fitsAll_2 : decode cX9_fitsAll 2 = .ok (.iload_n 2, 1) := by decide +kernel
theorem dX9_fitsAll_3 : decode cX9_fitsAll 3 = .ok (.aload_n 0, 1) := by decide +kernel
theorem dX9_fitsAll_4 : decode cX9_fitsAll 4 = .ok (.getfield 17, 3) := by decide +kernel
theorem dX9_fitsAll_7 : decode cX9_fitsAll 7 = .ok (.iconst 2, 1) := by decide +kernel
theorem dX9_fitsAll_8 : decode cX9_fitsAll 8 = .ok (.iaload, 1) := by decide +kernel
theorem dX9_fitsAll_9 : decode cX9_fitsAll 9 = .ok (.if_icmp .ge 20, 3) := by decide +kernel
theorem dX9_fitsAll_12 : decode cX9_fitsAll 12 = .ok (.aload_n 0, 1) := by decide +kernel
theorem dX9_fitsAll_13 : decode cX9_fitsAll 13 = .ok (.iload_n 2, 1) := by decide +kernel
theorem dX9_fitsAll_14 : decode cX9_fitsAll 14 = .ok (.iload_n 1, 1) := by decide +kernel
theorem dX9_fitsAll_15 : decode cX9_fitsAll 15 = .ok (.invokevirtual 445, 3) := by decide +kernel
theorem dX9_fitsAll_18 : decode cX9_fitsAll 18 = .ok (.ifCond .ne 5, 3) := by decide +kernel
theorem dX9_fitsAll_21 : decode cX9_fitsAll 21 = .ok (.iconst 0, 1) := by decide +kernel
theorem dX9_fitsAll_22 : decode cX9_fitsAll 22 = .ok (.ireturn, 1) := by decide +kernel
theorem dX9_fitsAll_23 : decode cX9_fitsAll 23 = .ok (.iinc 2 1, 3) := by decide +kernel
theorem dX9_fitsAll_26 : decode cX9_fitsAll 26 = .ok (.goto (-24), 3) := by decide +kernel
theorem dX9_fitsAll_29 : decode cX9_fitsAll 29 = .ok (.iconst 1, 1) := by decide +kernel
theorem dX9_fitsAll_30 : decode cX9_fitsAll 30 = .ok (.ireturn, 1) := by decide +kernel
theorem dX9_tries_0 : decode cX9_tries 0 = .ok (.aload_n 0, 1) := by decide +kernel
theorem dX9_tries_1 : decode cX9_tries 1 = .ok (.invokevirtual 387, 3) := by decide +kernel
theorem dX9_tries_4 : decode cX9_tries 4 = .ok (.aload_n 0, 1) := by decide +kernel
theorem dX9_tries_5 : decode cX9_tries 5 = .ok (.iconst 0, 1) := by decide +kernel
theorem dX9_tries_6 : decode cX9_tries 6 = .ok (.putfield 449, 3) := by decide +kernel
theorem dX9_tries_9 : decode cX9_tries 9 = .ok (.iconst 0, 1) := by decide +kernel
theorem dX9_tries_10 : decode cX9_tries 10 = .ok (.istore_n 1, 1) := by decide +kernel
theorem dX9_tries_11 : decode cX9_tries 11 = .ok (.iconst 0, 1) := by decide +kernel
theorem dX9_tries_12 : decode cX9_tries 12 = .ok (.istore_n 2, 1) := by decide +kernel
theorem dX9_tries_13 : decode cX9_tries 13 = .ok (.iload_n 2, 1) := by decide +kernel
theorem dX9_tries_14 : decode cX9_tries 14 = .ok (.aload_n 0, 1) := by decide +kernel
theorem dX9_tries_15 : decode cX9_tries 15 = .ok (.getfield 184, 3) := by decide +kernel
theorem dX9_tries_18 : decode cX9_tries 18 = .ok (.if_icmp .ge 16, 3) := by decide +kernel
theorem dX9_tries_21 : decode cX9_tries 21 = .ok (.aload_n 0, 1) := by decide +kernel
theorem dX9_tries_22 : decode cX9_tries 22 = .ok (.getfield 96, 3) := by decide +kernel
theorem dX9_tries_25 : decode cX9_tries 25 = .ok (.iload_n 2, 1) := by decide +kernel
theorem dX9_tries_26 : decode cX9_tries 26 = .ok (.iconst (-1), 1) := by decide +kernel
theorem dX9_tries_27 : decode cX9_tries 27 = .ok (.iastore, 1) := by decide +kernel
theorem dX9_tries_28 : decode cX9_tries 28 = .ok (.iinc 2 1, 3) := by decide +kernel
theorem dX9_tries_31 : decode cX9_tries 31 = .ok (.goto (-18), 3) := by decide +kernel
theorem dX9_tries_34 : decode cX9_tries 34 = .ok (.iload_n 1, 1) := by decide +kernel
theorem dX9_tries_35 : decode cX9_tries 35 = .ok (.ifCond .lt 108, 3) := by decide +kernel
theorem dX9_tries_38 : decode cX9_tries 38 = .ok (.iload_n 1, 1) := by decide +kernel
theorem dX9_tries_39 : decode cX9_tries 39 = .ok (.aload_n 0, 1) := by decide +kernel
theorem dX9_tries_40 : decode cX9_tries 40 = .ok (.getfield 184, 3) := by decide +kernel
theorem dX9_tries_43 : decode cX9_tries 43 = .ok (.if_icmp .ge 100, 3) := by decide +kernel
theorem dX9_tries_46 : decode cX9_tries 46 = .ok (.aload_n 0, 1) := by decide +kernel
theorem dX9_tries_47 : decode cX9_tries 47 = .ok (.getfield 96, 3) := by decide +kernel
theorem dX9_tries_50 : decode cX9_tries 50 = .ok (.iload_n 1, 1) := by decide +kernel
theorem dX9_tries_51 : decode cX9_tries 51 = .ok (.iaload, 1) := by decide +kernel
theorem dX9_tries_52 : decode cX9_tries 52 = .ok (.iconst 1, 1) := by decide +kernel
theorem dX9_tries_53 : decode cX9_tries 53 = .ok (.iadd, 1) := by decide +kernel
theorem dX9_tries_54 : decode cX9_tries 54 = .ok (.istore_n 2, 1) := by decide +kernel
theorem dX9_tries_55 : decode cX9_tries 55 = .ok (.iload_n 2, 1) := by decide +kernel
theorem dX9_tries_56 : decode cX9_tries 56 = .ok (.sipush 1000, 3) := by decide +kernel
theorem dX9_tries_59 : decode cX9_tries 59 = .ok (.if_icmp .ge 20, 3) := by decide +kernel
theorem dX9_tries_62 : decode cX9_tries 62 = .ok (.aload_n 0, 1) := by decide +kernel
theorem dX9_tries_63 : decode cX9_tries 63 = .ok (.getfield 43, 3) := by decide +kernel
theorem dX9_tries_66 : decode cX9_tries 66 = .ok (.iload_n 1, 1) := by decide +kernel
theorem dX9_tries_67 : decode cX9_tries 67 = .ok (.aaload, 1) := by decide +kernel
theorem dX9_tries_68 : decode cX9_tries 68 = .ok (.iload_n 2, 1) := by decide +kernel
theorem dX9_tries_69 : decode cX9_tries 69 = .ok (.baload, 1) := by decide +kernel
theorem dX9_tries_70 : decode cX9_tries 70 = .ok (.ifCond .ne 9, 3) := by decide +kernel
theorem dX9_tries_73 : decode cX9_tries 73 = .ok (.iinc 2 1, 3) := by decide +kernel
theorem dX9_tries_76 : decode cX9_tries 76 = .ok (.goto (-21), 3) := by decide +kernel
theorem dX9_tries_79 : decode cX9_tries 79 = .ok (.iload_n 2, 1) := by decide +kernel
theorem dX9_tries_80 : decode cX9_tries 80 = .ok (.sipush 1000, 3) := by decide +kernel
theorem dX9_tries_83 : decode cX9_tries 83 = .ok (.if_icmp .ne 16, 3) := by decide +kernel
theorem dX9_tries_86 : decode cX9_tries 86 = .ok (.aload_n 0, 1) := by decide +kernel
theorem dX9_tries_87 : decode cX9_tries 87 = .ok (.getfield 96, 3) := by decide +kernel
theorem dX9_tries_90 : decode cX9_tries 90 = .ok (.iload_n 1, 1) := by decide +kernel
theorem dX9_tries_91 : decode cX9_tries 91 = .ok (.iconst (-1), 1) := by decide +kernel
theorem dX9_tries_92 : decode cX9_tries 92 = .ok (.iastore, 1) := by decide +kernel
theorem dX9_tries_93 : decode cX9_tries 93 = .ok (.iinc 1 (-1), 3) := by decide +kernel
theorem dX9_tries_96 : decode cX9_tries 96 = .ok (.goto (-62), 3) := by decide +kernel
theorem dX9_tries_99 : decode cX9_tries 99 = .ok (.aload_n 0, 1) := by decide +kernel
theorem dX9_tries_100 : decode cX9_tries 100 = .ok (.getfield 449, 3) := by decide +kernel
theorem dX9_tries_103 : decode cX9_tries 103 = .ok (.sipush 20000, 3) := by decide +kernel
theorem dX9_tries_106 : decode cX9_tries 106 = .ok (.if_icmp .ne 6, 3) := by decide +kernel
theorem dX9_tries_109 : decode cX9_tries 109 = .ok (.bipush (-2), 2) := by decide +kernel
theorem dX9_tries_111 : decode cX9_tries 111 = .ok (.ireturn, 1) := by decide +kernel
theorem dX9_tries_112 : decode cX9_tries 112 = .ok (.aload_n 0, 1) := by decide +kernel
theorem dX9_tries_113 : decode cX9_tries 113 = .ok (.dup, 1) := by decide +kernel
theorem dX9_tries_114 : decode cX9_tries 114 = .ok (.getfield 449, 3) := by decide +kernel
theorem dX9_tries_117 : decode cX9_tries 117 = .ok (.iconst 1, 1) := by decide +kernel
theorem dX9_tries_118 : decode cX9_tries 118 = .ok (.iadd, 1) := by decide +kernel
theorem dX9_tries_119 : decode cX9_tries 119 = .ok (.putfield 449, 3) := by decide +kernel
theorem dX9_tries_122 : decode cX9_tries 122 = .ok (.aload_n 0, 1) := by decide +kernel
theorem dX9_tries_123 : decode cX9_tries 123 = .ok (.getfield 96, 3) := by decide +kernel
theorem dX9_tries_126 : decode cX9_tries 126 = .ok (.iload_n 1, 1) := by decide +kernel
theorem dX9_tries_127 : decode cX9_tries 127 = .ok (.iload_n 2, 1) := by decide +kernel
theorem dX9_tries_128 : decode cX9_tries 128 = .ok (.iastore, 1) := by decide +kernel
theorem dX9_tries_129 : decode cX9_tries 129 = .ok (.aload_n 0, 1) := by decide +kernel
theorem dX9_tries_130 : decode cX9_tries 130 = .ok (.iload_n 1, 1) := by decide +kernel
theorem dX9_tries_131 : decode cX9_tries 131 = .ok (.invokevirtual 452, 3) := by decide +kernel
theorem dX9_tries_134 : decode cX9_tries 134 = .ok (.ifCond .eq 6, 3) := by decide +kernel
theorem dX9_tries_137 : decode cX9_tries 137 = .ok (.iinc 1 1, 3) := by decide +kernel
theorem dX9_tries_140 : decode cX9_tries 140 = .ok (.goto (-106), 3) := by decide +kernel
theorem dX9_tries_143 : decode cX9_tries 143 = .ok (.iload_n 1, 1) := by decide +kernel
theorem dX9_tries_144 : decode cX9_tries 144 = .ok (.ifCond .ge 7, 3) := by decide +kernel
theorem dX9_tries_147 : decode cX9_tries 147 = .ok (.iconst 0, 1) := by decide +kernel
theorem dX9_tries_148 : decode cX9_tries 148 = .ok (.goto 4, 3) := by decide +kernel
theorem dX9_tries_151 : decode cX9_tries 151 = .ok (.iconst 1, 1) := by decide +kernel
theorem dX9_tries_152 : decode cX9_tries 152 = .ok (.ireturn, 1) := by decide +kernel
theorem dX9_trial_0 : decode cX9_trial 0 = .ok (.aload_n 0, 1) := by decide +kernel
theorem dX9_trial_1 : decode cX9_trial 1 = .ok (.iconst 0, 1) := by decide +kernel
theorem dX9_trial_2 : decode cX9_trial 2 = .ok (.putfield 1, 3) := by decide +kernel
theorem dX9_trial_5 : decode cX9_trial 5 = .ok (.aload_n 0, 1) := by decide +kernel
theorem dX9_trial_6 : decode cX9_trial 6 = .ok (.iload_n 1, 1) := by decide +kernel
theorem dX9_trial_7 : decode cX9_trial 7 = .ok (.iconst 0, 1) := by decide +kernel
theorem dX9_trial_8 : decode cX9_trial 8 = .ok (.iconst 1, 1) := by decide +kernel
theorem dX9_trial_9 : decode cX9_trial 9 = .ok (.invokestatic 251, 3) := by decide +kernel
theorem dX9_trial_12 : decode cX9_trial 12 = .ok (.iconst 1, 1) := by decide +kernel
theorem dX9_trial_13 : decode cX9_trial 13 = .ok (.iconst 1, 1) := by decide +kernel
theorem dX9_trial_14 : decode cX9_trial 14 = .ok (.invokevirtual 358, 3) := by decide +kernel
theorem dX9_trial_17 : decode cX9_trial 17 = .ok (.ifCond .ne 5, 3) := by decide +kernel
theorem dX9_trial_20 : decode cX9_trial 20 = .ok (.iconst 0, 1) := by decide +kernel
theorem dX9_trial_21 : decode cX9_trial 21 = .ok (.ireturn, 1) := by decide +kernel
theorem dX9_trial_22 : decode cX9_trial 22 = .ok (.aload_n 0, 1) := by decide +kernel
theorem dX9_trial_23 : decode cX9_trial 23 = .ok (.invokevirtual 455, 3) := by decide +kernel
theorem dX9_trial_26 : decode cX9_trial 26 = .ok (.istore_n 2, 1) := by decide +kernel
theorem dX9_trial_27 : decode cX9_trial 27 = .ok (.iload_n 1, 1) := by decide +kernel
theorem dX9_trial_28 : decode cX9_trial 28 = .ok (.ifCond .ne 7, 3) := by decide +kernel
theorem dX9_trial_31 : decode cX9_trial 31 = .ok (.iload_n 2, 1) := by decide +kernel
theorem dX9_trial_32 : decode cX9_trial 32 = .ok (.goto 7, 3) := by decide +kernel
theorem dX9_trial_35 : decode cX9_trial 35 = .ok (.aload_n 0, 1) := by decide +kernel
theorem dX9_trial_36 : decode cX9_trial 36 = .ok (.getfield 449, 3) := by decide +kernel
theorem dX9_trial_39 : decode cX9_trial 39 = .ok (.ireturn, 1) := by decide +kernel
theorem dX9_tried_0 : decode cX9_tried 0 = .ok (.aload_n 0, 1) := by decide +kernel
theorem dX9_tried_1 : decode cX9_tried 1 = .ok (.iconst 0, 1) := by decide +kernel
theorem dX9_tried_2 : decode cX9_tried 2 = .ok (.putfield 1, 3) := by decide +kernel
theorem dX9_tried_5 : decode cX9_tried 5 = .ok (.aload_n 0, 1) := by decide +kernel
theorem dX9_tried_6 : decode cX9_tried 6 = .ok (.iload_n 1, 1) := by decide +kernel
theorem dX9_tried_7 : decode cX9_tried 7 = .ok (.invokevirtual 377, 3) := by decide +kernel
theorem dX9_tried_10 : decode cX9_tried 10 = .ok (.ifCond .ne 5, 3) := by decide +kernel
theorem dX9_tried_13 : decode cX9_tried 13 = .ok (.iconst 0, 1) := by decide +kernel
theorem dX9_tried_14 : decode cX9_tried 14 = .ok (.ireturn, 1) := by decide +kernel
theorem dX9_tried_15 : decode cX9_tried 15 = .ok (.aload_n 0, 1) := by decide +kernel
theorem dX9_tried_16 : decode cX9_tried 16 = .ok (.invokevirtual 455, 3) := by decide +kernel
theorem dX9_tried_19 : decode cX9_tried 19 = .ok (.iconst 1, 1) := by decide +kernel
theorem dX9_tried_20 : decode cX9_tried 20 = .ok (.if_icmp .ne 12, 3) := by decide +kernel
theorem dX9_tried_23 : decode cX9_tried 23 = .ok (.aload_n 0, 1) := by decide +kernel
theorem dX9_tried_24 : decode cX9_tried 24 = .ok (.getfield 96, 3) := by decide +kernel
theorem dX9_tried_27 : decode cX9_tried 27 = .ok (.iload_n 1, 1) := by decide +kernel
theorem dX9_tried_28 : decode cX9_tried 28 = .ok (.iaload, 1) := by decide +kernel
theorem dX9_tried_29 : decode cX9_tried 29 = .ok (.goto 4, 3) := by decide +kernel
theorem dX9_tried_32 : decode cX9_tried 32 = .ok (.iconst (-1), 1) := by decide +kernel
theorem dX9_tried_33 : decode cX9_tried 33 = .ok (.ireturn, 1) := by decide +kernel
theorem dX9_loosened_0 : decode cX9_loosened 0 = .ok (.aload_n 0, 1) := by decide +kernel
theorem dX9_loosened_1 : decode cX9_loosened 1 = .ok (.iconst 0, 1) := by decide +kernel
theorem dX9_loosened_2 : decode cX9_loosened 2 = .ok (.putfield 1, 3) := by decide +kernel
theorem dX9_loosened_5 : decode cX9_loosened 5 = .ok (.aload_n 0, 1) := by decide +kernel
theorem dX9_loosened_6 : decode cX9_loosened 6 = .ok (.getfield 17, 3) := by decide +kernel
theorem dX9_loosened_9 : decode cX9_loosened 9 = .ok (.iconst 0, 1) := by decide +kernel
theorem dX9_loosened_10 : decode cX9_loosened 10 = .ok (.iaload, 1) := by decide +kernel
theorem dX9_loosened_11 : decode cX9_loosened 11 = .ok (.istore_n 1, 1) := by decide +kernel
theorem dX9_loosened_12 : decode cX9_loosened 12 = .ok (.iconst (-1), 1) := by decide +kernel
theorem dX9_loosened_13 : decode cX9_loosened 13 = .ok (.istore_n 2, 1) := by decide +kernel
theorem dX9_loosened_14 : decode cX9_loosened 14 = .ok (.iconst 3, 1) := by decide +kernel
theorem dX9_loosened_15 : decode cX9_loosened 15 = .ok (.istore_n 3, 1) := by decide +kernel
theorem dX9_loosened_16 : decode cX9_loosened 16 = .ok (.iload_n 3, 1) := by decide +kernel
theorem dX9_loosened_17 : decode cX9_loosened 17 = .ok (.iconst 1, 1) := by decide +kernel
theorem dX9_loosened_18 : decode cX9_loosened 18 = .ok (.if_icmp .lt 34, 3) := by decide +kernel
theorem dX9_loosened_21 : decode cX9_loosened 21 = .ok (.aload_n 0, 1) := by decide +kernel
theorem dX9_loosened_22 : decode cX9_loosened 22 = .ok (.getfield 17, 3) := by decide +kernel
theorem dX9_loosened_25 : decode cX9_loosened 25 = .ok (.iconst 0, 1) := by decide +kernel
theorem dX9_loosened_26 : decode cX9_loosened 26 = .ok (.iload_n 3, 1) := by decide +kernel
theorem dX9_loosened_27 : decode cX9_loosened 27 = .ok (.iastore, 1) := by decide +kernel
theorem dX9_loosened_28 : decode cX9_loosened 28 = .ok (.aload_n 0, 1) := by decide +kernel
theorem dX9_loosened_29 : decode cX9_loosened 29 = .ok (.iconst 0, 1) := by decide +kernel
theorem dX9_loosened_30 : decode cX9_loosened 30 = .ok (.putfield 178, 3) := by decide +kernel
theorem dX9_loosened_33 : decode cX9_loosened 33 = .ok (.aload_n 0, 1) := by decide +kernel
theorem dX9_loosened_34 : decode cX9_loosened 34 = .ok (.invokevirtual 387, 3) := by decide +kernel
theorem dX9_loosened_37 : decode cX9_loosened 37 = .ok (.aload_n 0, 1) := by decide +kernel
theorem dX9_loosened_38 : decode cX9_loosened 38 = .ok (.getfield 124, 3) := by decide +kernel
theorem dX9_loosened_41 : decode cX9_loosened 41 = .ok (.ifCond .ne 5, 3) := by decide +kernel
theorem dX9_loosened_44 : decode cX9_loosened 44 = .ok (.iload_n 3, 1) := by decide +kernel
theorem dX9_loosened_45 : decode cX9_loosened 45 = .ok (.istore_n 2, 1) := by decide +kernel
theorem dX9_loosened_46 : decode cX9_loosened 46 = .ok (.iinc 3 (-1), 3) := by decide +kernel
theorem dX9_loosened_49 : decode cX9_loosened 49 = .ok (.goto (-33), 3) := by decide +kernel
theorem dX9_loosened_52 : decode cX9_loosened 52 = .ok (.aload_n 0, 1) := by decide +kernel
theorem dX9_loosened_53 : decode cX9_loosened 53 = .ok (.getfield 17, 3) := by decide +kernel
theorem dX9_loosened_56 : decode cX9_loosened 56 = .ok (.iconst 0, 1) := by decide +kernel
theorem dX9_loosened_57 : decode cX9_loosened 57 = .ok (.iload_n 1, 1) := by decide +kernel
theorem dX9_loosened_58 : decode cX9_loosened 58 = .ok (.iastore, 1) := by decide +kernel
theorem dX9_loosened_59 : decode cX9_loosened 59 = .ok (.aload_n 0, 1) := by decide +kernel
theorem dX9_loosened_60 : decode cX9_loosened 60 = .ok (.iconst 0, 1) := by decide +kernel
theorem dX9_loosened_61 : decode cX9_loosened 61 = .ok (.putfield 178, 3) := by decide +kernel
theorem dX9_loosened_64 : decode cX9_loosened 64 = .ok (.iload_n 2, 1) := by decide +kernel
theorem dX9_loosened_65 : decode cX9_loosened 65 = .ok (.ireturn, 1) := by decide +kernel
theorem dX9_isQuietBy_0 : decode cX9_isQuietBy 0 = .ok (.aload_n 0, 1) := by decide +kernel
theorem dX9_isQuietBy_1 : decode cX9_isQuietBy 1 = .ok (.getfield 17, 3) := by decide +kernel
theorem dX9_isQuietBy_4 : decode cX9_isQuietBy 4 = .ok (.iconst 1, 1) := by decide +kernel
theorem dX9_isQuietBy_5 : decode cX9_isQuietBy 5 = .ok (.iaload, 1) := by decide +kernel
theorem dX9_isQuietBy_6 : decode cX9_isQuietBy 6 = .ok (.istore_n 2, 1) := by decide +kernel
theorem dX9_isQuietBy_7 : decode cX9_isQuietBy 7 = .ok (.aload_n 0, 1) := by decide +kernel
theorem dX9_isQuietBy_8 : decode cX9_isQuietBy 8 = .ok (.getfield 17, 3) := by decide +kernel
theorem dX9_isQuietBy_11 : decode cX9_isQuietBy 11 = .ok (.iconst 1, 1) := by decide +kernel
theorem dX9_isQuietBy_12 : decode cX9_isQuietBy 12 = .ok (.iload_n 1, 1) := by decide +kernel
theorem dX9_isQuietBy_13 : decode cX9_isQuietBy 13 = .ok (.iastore, 1) := by decide +kernel
theorem dX9_isQuietBy_14 : decode cX9_isQuietBy 14 = .ok (.aload_n 0, 1) := by decide +kernel
theorem dX9_isQuietBy_15 : decode cX9_isQuietBy 15 = .ok (.iconst 0, 1) := by decide +kernel
theorem dX9_isQuietBy_16 : decode cX9_isQuietBy 16 = .ok (.putfield 178, 3) := by decide +kernel
theorem dX9_isQuietBy_19 : decode cX9_isQuietBy 19 = .ok (.aload_n 0, 1) := by decide +kernel
theorem dX9_isQuietBy_20 : decode cX9_isQuietBy 20 = .ok (.invokevirtual 387, 3) := by decide +kernel
theorem dX9_isQuietBy_23 : decode cX9_isQuietBy 23 = .ok (.aload_n 0, 1) := by decide +kernel
theorem dX9_isQuietBy_24 : decode cX9_isQuietBy 24 = .ok (.getfield 17, 3) := by decide +kernel
theorem dX9_isQuietBy_27 : decode cX9_isQuietBy 27 = .ok (.iconst 1, 1) := by decide +kernel
theorem dX9_isQuietBy_28 : decode cX9_isQuietBy 28 = .ok (.iload_n 2, 1) := by decide +kernel
theorem dX9_isQuietBy_29 : decode cX9_isQuietBy 29 = .ok (.iastore, 1) := by decide +kernel
theorem dX9_isQuietBy_30 : decode cX9_isQuietBy 30 = .ok (.aload_n 0, 1) := by decide +kernel
theorem dX9_isQuietBy_31 : decode cX9_isQuietBy 31 = .ok (.iconst 0, 1) := by decide +kernel
theorem dX9_isQuietBy_32 : decode cX9_isQuietBy 32 = .ok (.putfield 178, 3) := by decide +kernel
theorem dX9_isQuietBy_35 : decode cX9_isQuietBy 35 = .ok (.aload_n 0, 1) := by decide +kernel
theorem dX9_isQuietBy_36 : decode cX9_isQuietBy 36 = .ok (.getfield 124, 3) := by decide +kernel
theorem dX9_isQuietBy_39 : decode cX9_isQuietBy 39 = .ok (.ifCond .ne 7, 3) := by decide +kernel
theorem dX9_isQuietBy_42 : decode cX9_isQuietBy 42 = .ok (.iconst 1, 1) := by decide +kernel
theorem dX9_isQuietBy_43 : decode cX9_isQuietBy 43 = .ok (.goto 4, 3) := by decide +kernel
theorem dX9_isQuietBy_46 : decode cX9_isQuietBy 46 = .ok (.iconst 0, 1) := by decide +kernel
theorem dX9_isQuietBy_47 : decode cX9_isQuietBy 47 = .ok (.ireturn, 1) := by decide +kernel
theorem dX9_shifted_0 : decode cX9_shifted 0 = .ok (.aload_n 0, 1) := by decide +kernel
theorem dX9_shifted_1 : decode cX9_shifted 1 = .ok (.iconst 0, 1) := by decide +kernel
theorem dX9_shifted_2 : decode cX9_shifted 2 = .ok (.putfield 1, 3) := by decide +kernel
theorem dX9_shifted_5 : decode cX9_shifted 5 = .ok (.iconst 0, 1) := by decide +kernel
theorem dX9_shifted_6 : decode cX9_shifted 6 = .ok (.istore_n 1, 1) := by decide +kernel
theorem dX9_shifted_7 : decode cX9_shifted 7 = .ok (.iload_n 1, 1) := by decide +kernel
theorem dX9_shifted_8 : decode cX9_shifted 8 = .ok (.sipush 500, 3) := by decide +kernel
theorem dX9_shifted_11 : decode cX9_shifted 11 = .ok (.if_icmp .gt 31, 3) := by decide +kernel
theorem dX9_shifted_14 : decode cX9_shifted 14 = .ok (.aload_n 0, 1) := by decide +kernel
theorem dX9_shifted_15 : decode cX9_shifted 15 = .ok (.iload_n 1, 1) := by decide +kernel
theorem dX9_shifted_16 : decode cX9_shifted 16 = .ok (.ineg, 1) := by decide +kernel
theorem dX9_shifted_17 : decode cX9_shifted 17 = .ok (.invokevirtual 458, 3) := by decide +kernel
theorem dX9_shifted_20 : decode cX9_shifted 20 = .ok (.ifCond .eq 6, 3) := by decide +kernel
theorem dX9_shifted_23 : decode cX9_shifted 23 = .ok (.iload_n 1, 1) := by decide +kernel
theorem dX9_shifted_24 : decode cX9_shifted 24 = .ok (.ineg, 1) := by decide +kernel
theorem dX9_shifted_25 : decode cX9_shifted 25 = .ok (.ireturn, 1) := by decide +kernel
theorem dX9_shifted_26 : decode cX9_shifted 26 = .ok (.aload_n 0, 1) := by decide +kernel
theorem dX9_shifted_27 : decode cX9_shifted 27 = .ok (.iload_n 1, 1) := by decide +kernel
theorem dX9_shifted_28 : decode cX9_shifted 28 = .ok (.invokevirtual 458, 3) := by decide +kernel
theorem dX9_shifted_31 : decode cX9_shifted 31 = .ok (.ifCond .eq 5, 3) := by decide +kernel
theorem dX9_shifted_34 : decode cX9_shifted 34 = .ok (.iload_n 1, 1) := by decide +kernel
theorem dX9_shifted_35 : decode cX9_shifted 35 = .ok (.ireturn, 1) := by decide +kernel
theorem dX9_shifted_36 : decode cX9_shifted 36 = .ok (.iinc 1 1, 3) := by decide +kernel
theorem dX9_shifted_39 : decode cX9_shifted 39 = .ok (.goto (-32), 3) := by decide +kernel
theorem dX9_shifted_42 : decode cX9_shifted 42 = .ok (.sipush (-9999), 3) := by decide +kernel
theorem dX9_shifted_45 : decode cX9_shifted 45 = .ok (.ireturn, 1) := by decide +kernel
theorem dX9_print_0 : decode cX9_print 0 = .ok (.aload_n 0, 1) := by decide +kernel
theorem dX9_print_1 : decode cX9_print 1 = .ok (.iconst 0, 1) := by decide +kernel
theorem dX9_print_2 : decode cX9_print 2 = .ok (.putfield 1, 3) := by decide +kernel
theorem dX9_print_5 : decode cX9_print 5 = .ok (.aload_n 0, 1) := by decide +kernel
theorem dX9_print_6 : decode cX9_print 6 = .ok (.invokevirtual 387, 3) := by decide +kernel
theorem dX9_print_9 : decode cX9_print 9 = .ok (.lconst 0, 1) := by decide +kernel
theorem dX9_print_10 : decode cX9_print 10 = .ok (.lstore_n 1, 1) := by decide +kernel
theorem dX9_print_11 : decode cX9_print 11 = .ok (.iconst 0, 1) := by decide +kernel
theorem dX9_print_12 : decode cX9_print 12 = .ok (.istore_n 3, 1) := by decide +kernel
theorem dX9_print_13 : decode cX9_print 13 = .ok (.iload_n 3, 1) := by decide +kernel
theorem dX9_print_14 : decode cX9_print 14 = .ok (.aload_n 0, 1) := by decide +kernel
theorem dX9_print_15 : decode cX9_print 15 = .ok (.getfield 184, 3) := by decide +kernel
theorem dX9_print_18 : decode cX9_print 18 = .ok (.if_icmp .ge 75, 3) := by decide +kernel
theorem dX9_print_21 : decode cX9_print 21 = .ok (.iconst 0, 1) := by decide +kernel
theorem dX9_print_22 : decode cX9_print 22 = .ok (.istore 4, 2) := by decide +kernel
theorem dX9_print_24 : decode cX9_print 24 = .ok (.iload 4, 2) := by decide +kernel
theorem dX9_print_26 : decode cX9_print 26 = .ok (.sipush 1000, 3) := by decide +kernel
theorem dX9_print_29 : decode cX9_print 29 = .ok (.if_icmp .ge 52, 3) := by decide +kernel
theorem dX9_print_32 : decode cX9_print 32 = .ok (.aload_n 0, 1) := by decide +kernel
theorem dX9_print_33 : decode cX9_print 33 = .ok (.aload_n 0, 1) := by decide +kernel
theorem dX9_print_34 : decode cX9_print 34 = .ok (.getfield 43, 3) := by decide +kernel
theorem dX9_print_37 : decode cX9_print 37 = .ok (.iload_n 3, 1) := by decide +kernel
theorem dX9_print_38 : decode cX9_print 38 = .ok (.aaload, 1) := by decide +kernel
theorem dX9_print_39 : decode cX9_print 39 = .ok (.iload 4, 2) := by decide +kernel
theorem dX9_print_41 : decode cX9_print 41 = .ok (.invokevirtual 401, 3) := by decide +kernel
theorem dX9_print_44 : decode cX9_print 44 = .ok (.ifCond .ne 6, 3) := by decide +kernel
theorem dX9_print_47 : decode cX9_print 47 = .ok (.goto 28, 3) := by decide +kernel
theorem dX9_print_50 : decode cX9_print 50 = .ok (.ldc2_w 461, 3) := by decide +kernel
theorem dX9_print_53 : decode cX9_print 53 = .ok (.lload_n 1, 1) := by decide +kernel
theorem dX9_print_54 : decode cX9_print 54 = .ok (.lmul, 1) := by decide +kernel
theorem dX9_print_55 : decode cX9_print 55 = .ok (.iload 4, 2) := by decide +kernel
theorem dX9_print_57 : decode cX9_print 57 = .ok (.i2l, 1) := by decide +kernel
theorem dX9_print_58 : decode cX9_print 58 = .ok (.ladd, 1) := by decide +kernel
theorem dX9_print_59 : decode cX9_print 59 = .ok (.lstore_n 1, 1) := by decide +kernel
theorem dX9_print_60 : decode cX9_print 60 = .ok (.ldc2_w 461, 3) := by decide +kernel
theorem dX9_print_63 : decode cX9_print 63 = .ok (.lload_n 1, 1) := by decide +kernel
theorem dX9_print_64 : decode cX9_print 64 = .ok (.lmul, 1) := by decide +kernel
theorem dX9_print_65 : decode cX9_print 65 = .ok (.aload_n 0, 1) := by decide +kernel
theorem dX9_print_66 : decode cX9_print 66 = .ok (.iload_n 3, 1) := by decide +kernel
theorem dX9_print_67 : decode cX9_print 67 = .ok (.iload 4, 2) := by decide +kernel
theorem dX9_print_69 : decode cX9_print 69 = .ok (.invokevirtual 420, 3) := by decide +kernel
theorem dX9_print_72 : decode cX9_print 72 = .ok (.i2l, 1) := by decide +kernel
theorem dX9_print_73 : decode cX9_print 73 = .ok (.ladd, 1) := by decide +kernel
theorem dX9_print_74 : decode cX9_print 74 = .ok (.lstore_n 1, 1) := by decide +kernel
theorem dX9_print_75 : decode cX9_print 75 = .ok (.iinc 4 1, 3) := by decide +kernel
theorem dX9_print_78 : decode cX9_print 78 = .ok (.goto (-54), 3) := by decide +kernel
theorem dX9_print_81 : decode cX9_print 81 = .ok (.ldc2_w 461, 3) := by decide +kernel
theorem dX9_print_84 : decode cX9_print 84 = .ok (.lload_n 1, 1) := by decide +kernel
theorem dX9_print_85 : decode cX9_print 85 = .ok (.lmul, 1) := by decide +kernel
theorem dX9_print_86 : decode cX9_print 86 = .ok (.lstore_n 1, 1) := by decide +kernel
theorem dX9_print_87 : decode cX9_print 87 = .ok (.iinc 3 1, 3) := by decide +kernel
theorem dX9_print_90 : decode cX9_print 90 = .ok (.goto (-77), 3) := by decide +kernel
theorem dX9_print_93 : decode cX9_print 93 = .ok (.lload_n 1, 1) := by decide +kernel
theorem dX9_print_94 : decode cX9_print 94 = .ok (.lreturn, 1) := by decide +kernel
theorem dX9_status_0 : decode cX9_status 0 = .ok (.aload_n 0, 1) := by decide +kernel
theorem dX9_status_1 : decode cX9_status 1 = .ok (.iconst 0, 1) := by decide +kernel
theorem dX9_status_2 : decode cX9_status 2 = .ok (.putfield 1, 3) := by decide +kernel
theorem dX9_status_5 : decode cX9_status 5 = .ok (.iload_n 1, 1) := by decide +kernel
theorem dX9_status_6 : decode cX9_status 6 = .ok (.iconst 0, 1) := by decide +kernel
theorem dX9_status_7 : decode cX9_status 7 = .ok (.iconst 2, 1) := by decide +kernel
theorem dX9_status_8 : decode cX9_status 8 = .ok (.invokestatic 251, 3) := by decide +kernel
theorem dX9_status_11 : decode cX9_status 11 = .ok (.ifCond .eq 12, 3) := by decide +kernel
theorem dX9_status_14 : decode cX9_status 14 = .ok (.aload_n 0, 1) := by decide +kernel
theorem dX9_status_15 : decode cX9_status 15 = .ok (.getfield 7, 3) := by decide +kernel
theorem dX9_status_18 : decode cX9_status 18 = .ok (.iload_n 1, 1) := by decide +kernel
theorem dX9_status_19 : decode cX9_status 19 = .ok (.iaload, 1) := by decide +kernel
theorem dX9_status_20 : decode cX9_status 20 = .ok (.goto 4, 3) := by decide +kernel
theorem dX9_status_23 : decode cX9_status 23 = .ok (.iconst (-1), 1) := by decide +kernel
theorem dX9_status_24 : decode cX9_status 24 = .ok (.ireturn, 1) := by decide +kernel
theorem dJ6_numberOfLeadingZeros_0f7a4_0 : decode cJ6_numberOfLeadingZeros_0f7a4 0 = .ok (.iload_n 0, 1) := by decide +kernel
theorem dJ6_numberOfLeadingZeros_0f7a4_1 : decode cJ6_numberOfLeadingZeros_0f7a4 1 = .ok (.ifCond .gt 14, 3) := by decide +kernel
theorem dJ6_numberOfLeadingZeros_0f7a4_4 : decode cJ6_numberOfLeadingZeros_0f7a4 4 = .ok (.iload_n 0, 1) := by decide +kernel
theorem dJ6_numberOfLeadingZeros_0f7a4_5 : decode cJ6_numberOfLeadingZeros_0f7a4 5 = .ok (.ifCond .ne 8, 3) := by decide +kernel
theorem dJ6_numberOfLeadingZeros_0f7a4_8 : decode cJ6_numberOfLeadingZeros_0f7a4 8 = .ok (.bipush 32, 2) := by decide +kernel
theorem dJ6_numberOfLeadingZeros_0f7a4_10 : decode cJ6_numberOfLeadingZeros_0f7a4 10 = .ok (.goto 4, 3) := by decide +kernel
theorem dJ6_numberOfLeadingZeros_0f7a4_13 : decode cJ6_numberOfLeadingZeros_0f7a4 13 = .ok (.iconst 0, 1) := by decide +kernel
theorem dJ6_numberOfLeadingZeros_0f7a4_14 : decode cJ6_numberOfLeadingZeros_0f7a4 14 = .ok (.ireturn, 1) := by decide +kernel
theorem dJ6_numberOfLeadingZeros_0f7a4_15 : decode cJ6_numberOfLeadingZeros_0f7a4 15 = .ok (.bipush 31, 2) := by decide +kernel
theorem dJ6_numberOfLeadingZeros_0f7a4_17 : decode cJ6_numberOfLeadingZeros_0f7a4 17 = .ok (.istore_n 1, 1) := by decide +kernel
theorem dJ6_numberOfLeadingZeros_0f7a4_18 : decode cJ6_numberOfLeadingZeros_0f7a4 18 = .ok (.iload_n 0, 1) := by decide +kernel
theorem dJ6_numberOfLeadingZeros_0f7a4_19 : decode cJ6_numberOfLeadingZeros_0f7a4 19 = .ok (.ldc_w 264, 3) := by decide +kernel
theorem dJ6_numberOfLeadingZeros_0f7a4_22 : decode cJ6_numberOfLeadingZeros_0f7a4 22 = .ok (.if_icmp .lt 11, 3) := by decide +kernel
theorem dJ6_numberOfLeadingZeros_0f7a4_25 : decode cJ6_numberOfLeadingZeros_0f7a4 25 = .ok (.iinc 1 (-16), 3) := by decide +kernel
theorem dJ6_numberOfLeadingZeros_0f7a4_28 : decode cJ6_numberOfLeadingZeros_0f7a4 28 = .ok (.iload_n 0, 1) := by decide +kernel
theorem dJ6_numberOfLeadingZeros_0f7a4_29 : decode cJ6_numberOfLeadingZeros_0f7a4 29 = .ok (.bipush 16, 2) := by decide +kernel
theorem dJ6_numberOfLeadingZeros_0f7a4_31 : decode cJ6_numberOfLeadingZeros_0f7a4 31 = .ok (.iushr, 1) := by decide +kernel
theorem dJ6_numberOfLeadingZeros_0f7a4_32 : decode cJ6_numberOfLeadingZeros_0f7a4 32 = .ok (.istore_n 0, 1) := by decide +kernel
theorem dJ6_numberOfLeadingZeros_0f7a4_33 : decode cJ6_numberOfLeadingZeros_0f7a4 33 = .ok (.iload_n 0, 1) := by decide +kernel
theorem dJ6_numberOfLeadingZeros_0f7a4_34 : decode cJ6_numberOfLeadingZeros_0f7a4 34 = .ok (.sipush 256, 3) := by decide +kernel
theorem dJ6_numberOfLeadingZeros_0f7a4_37 : decode cJ6_numberOfLeadingZeros_0f7a4 37 = .ok (.if_icmp .lt 11, 3) := by decide +kernel
theorem dJ6_numberOfLeadingZeros_0f7a4_40 : decode cJ6_numberOfLeadingZeros_0f7a4 40 = .ok (.iinc 1 (-8), 3) := by decide +kernel
theorem dJ6_numberOfLeadingZeros_0f7a4_43 : decode cJ6_numberOfLeadingZeros_0f7a4 43 = .ok (.iload_n 0, 1) := by decide +kernel
theorem dJ6_numberOfLeadingZeros_0f7a4_44 : decode cJ6_numberOfLeadingZeros_0f7a4 44 = .ok (.bipush 8, 2) := by decide +kernel
theorem dJ6_numberOfLeadingZeros_0f7a4_46 : decode cJ6_numberOfLeadingZeros_0f7a4 46 = .ok (.iushr, 1) := by decide +kernel
theorem dJ6_numberOfLeadingZeros_0f7a4_47 : decode cJ6_numberOfLeadingZeros_0f7a4 47 = .ok (.istore_n 0, 1) := by decide +kernel
theorem dJ6_numberOfLeadingZeros_0f7a4_48 : decode cJ6_numberOfLeadingZeros_0f7a4 48 = .ok (.iload_n 0, 1) := by decide +kernel
theorem dJ6_numberOfLeadingZeros_0f7a4_49 : decode cJ6_numberOfLeadingZeros_0f7a4 49 = .ok (.bipush 16, 2) := by decide +kernel
theorem dJ6_numberOfLeadingZeros_0f7a4_51 : decode cJ6_numberOfLeadingZeros_0f7a4 51 = .ok (.if_icmp .lt 10, 3) := by decide +kernel
theorem dJ6_numberOfLeadingZeros_0f7a4_54 : decode cJ6_numberOfLeadingZeros_0f7a4 54 = .ok (.iinc 1 (-4), 3) := by decide +kernel
theorem dJ6_numberOfLeadingZeros_0f7a4_57 : decode cJ6_numberOfLeadingZeros_0f7a4 57 = .ok (.iload_n 0, 1) := by decide +kernel
theorem dJ6_numberOfLeadingZeros_0f7a4_58 : decode cJ6_numberOfLeadingZeros_0f7a4 58 = .ok (.iconst 4, 1) := by decide +kernel
theorem dJ6_numberOfLeadingZeros_0f7a4_59 : decode cJ6_numberOfLeadingZeros_0f7a4 59 = .ok (.iushr, 1) := by decide +kernel
theorem dJ6_numberOfLeadingZeros_0f7a4_60 : decode cJ6_numberOfLeadingZeros_0f7a4 60 = .ok (.istore_n 0, 1) := by decide +kernel
theorem dJ6_numberOfLeadingZeros_0f7a4_61 : decode cJ6_numberOfLeadingZeros_0f7a4 61 = .ok (.iload_n 0, 1) := by decide +kernel
theorem dJ6_numberOfLeadingZeros_0f7a4_62 : decode cJ6_numberOfLeadingZeros_0f7a4 62 = .ok (.iconst 4, 1) := by decide +kernel
theorem dJ6_numberOfLeadingZeros_0f7a4_63 : decode cJ6_numberOfLeadingZeros_0f7a4 63 = .ok (.if_icmp .lt 10, 3) := by decide +kernel
theorem dJ6_numberOfLeadingZeros_0f7a4_66 : decode cJ6_numberOfLeadingZeros_0f7a4 66 = .ok (.iinc 1 (-2), 3) := by decide +kernel
theorem dJ6_numberOfLeadingZeros_0f7a4_69 : decode cJ6_numberOfLeadingZeros_0f7a4 69 = .ok (.iload_n 0, 1) := by decide +kernel
theorem dJ6_numberOfLeadingZeros_0f7a4_70 : decode cJ6_numberOfLeadingZeros_0f7a4 70 = .ok (.iconst 2, 1) := by decide +kernel
theorem dJ6_numberOfLeadingZeros_0f7a4_71 : decode cJ6_numberOfLeadingZeros_0f7a4 71 = .ok (.iushr, 1) := by decide +kernel
theorem dJ6_numberOfLeadingZeros_0f7a4_72 : decode cJ6_numberOfLeadingZeros_0f7a4 72 = .ok (.istore_n 0, 1) := by decide +kernel
theorem dJ6_numberOfLeadingZeros_0f7a4_73 : decode cJ6_numberOfLeadingZeros_0f7a4 73 = .ok (.iload_n 1, 1) := by decide +kernel
theorem dJ6_numberOfLeadingZeros_0f7a4_74 : decode cJ6_numberOfLeadingZeros_0f7a4 74 = .ok (.iload_n 0, 1) := by decide +kernel
theorem dJ6_numberOfLeadingZeros_0f7a4_75 : decode cJ6_numberOfLeadingZeros_0f7a4 75 = .ok (.iconst 1, 1) := by decide +kernel
theorem dJ6_numberOfLeadingZeros_0f7a4_76 : decode cJ6_numberOfLeadingZeros_0f7a4 76 = .ok (.iushr, 1) := by decide +kernel
theorem dJ6_numberOfLeadingZeros_0f7a4_77 : decode cJ6_numberOfLeadingZeros_0f7a4 77 = .ok (.isub, 1) := by decide +kernel
theorem dJ6_numberOfLeadingZeros_0f7a4_78 : decode cJ6_numberOfLeadingZeros_0f7a4 78 = .ok (.ireturn, 1) := by decide +kernel
theorem dJ6_numberOfTrailingZeros_0f7a4_0 : decode cJ6_numberOfTrailingZeros_0f7a4 0 = .ok (.iload_n 0, 1) := by decide +kernel
theorem dJ6_numberOfTrailingZeros_0f7a4_1 : decode cJ6_numberOfTrailingZeros_0f7a4 1 = .ok (.iconst (-1), 1) := by decide +kernel
theorem dJ6_numberOfTrailingZeros_0f7a4_2 : decode cJ6_numberOfTrailingZeros_0f7a4 2 = .ok (.ixor, 1) := by decide +kernel
theorem dJ6_numberOfTrailingZeros_0f7a4_3 : decode cJ6_numberOfTrailingZeros_0f7a4 3 = .ok (.iload_n 0, 1) := by decide +kernel
theorem dJ6_numberOfTrailingZeros_0f7a4_4 : decode cJ6_numberOfTrailingZeros_0f7a4 4 = .ok (.iconst 1, 1) := by decide +kernel
theorem dJ6_numberOfTrailingZeros_0f7a4_5 : decode cJ6_numberOfTrailingZeros_0f7a4 5 = .ok (.isub, 1) := by decide +kernel
theorem dJ6_numberOfTrailingZeros_0f7a4_6 : decode cJ6_numberOfTrailingZeros_0f7a4 6 = .ok (.iand, 1) := by decide +kernel
theorem dJ6_numberOfTrailingZeros_0f7a4_7 : decode cJ6_numberOfTrailingZeros_0f7a4 7 = .ok (.istore_n 0, 1) := by decide +kernel
theorem dJ6_numberOfTrailingZeros_0f7a4_8 : decode cJ6_numberOfTrailingZeros_0f7a4 8 = .ok (.iload_n 0, 1) := by decide +kernel
theorem dJ6_numberOfTrailingZeros_0f7a4_9 : decode cJ6_numberOfTrailingZeros_0f7a4 9 = .ok (.ifCond .gt 8, 3) := by decide +kernel
theorem dJ6_numberOfTrailingZeros_0f7a4_12 : decode cJ6_numberOfTrailingZeros_0f7a4 12 = .ok (.iload_n 0, 1) := by decide +kernel
theorem dJ6_numberOfTrailingZeros_0f7a4_13 : decode cJ6_numberOfTrailingZeros_0f7a4 13 = .ok (.bipush 32, 2) := by decide +kernel
theorem dJ6_numberOfTrailingZeros_0f7a4_15 : decode cJ6_numberOfTrailingZeros_0f7a4 15 = .ok (.iand, 1) := by decide +kernel
theorem dJ6_numberOfTrailingZeros_0f7a4_16 : decode cJ6_numberOfTrailingZeros_0f7a4 16 = .ok (.ireturn, 1) := by decide +kernel
theorem dJ6_numberOfTrailingZeros_0f7a4_17 : decode cJ6_numberOfTrailingZeros_0f7a4 17 = .ok (.iconst 1, 1) := by decide +kernel
theorem dJ6_numberOfTrailingZeros_0f7a4_18 : decode cJ6_numberOfTrailingZeros_0f7a4 18 = .ok (.istore_n 1, 1) := by decide +kernel
theorem dJ6_numberOfTrailingZeros_0f7a4_19 : decode cJ6_numberOfTrailingZeros_0f7a4 19 = .ok (.iload_n 0, 1) := by decide +kernel
theorem dJ6_numberOfTrailingZeros_0f7a4_20 : decode cJ6_numberOfTrailingZeros_0f7a4 20 = .ok (.ldc_w 264, 3) := by decide +kernel
theorem dJ6_numberOfTrailingZeros_0f7a4_23 : decode cJ6_numberOfTrailingZeros_0f7a4 23 = .ok (.if_icmp .le 11, 3) := by decide +kernel
theorem dJ6_numberOfTrailingZeros_0f7a4_26 : decode cJ6_numberOfTrailingZeros_0f7a4 26 = .ok (.iinc 1 16, 3) := by decide +kernel
theorem dJ6_numberOfTrailingZeros_0f7a4_29 : decode cJ6_numberOfTrailingZeros_0f7a4 29 = .ok (.iload_n 0, 1) := by decide +kernel
theorem dJ6_numberOfTrailingZeros_0f7a4_30 : decode cJ6_numberOfTrailingZeros_0f7a4 30 = .ok (.bipush 16, 2) := by decide +kernel
theorem dJ6_numberOfTrailingZeros_0f7a4_32 : decode cJ6_numberOfTrailingZeros_0f7a4 32 = .ok (.iushr, 1) := by decide +kernel
theorem dJ6_numberOfTrailingZeros_0f7a4_33 : decode cJ6_numberOfTrailingZeros_0f7a4 33 = .ok (.istore_n 0, 1) := by decide +kernel
theorem dJ6_numberOfTrailingZeros_0f7a4_34 : decode cJ6_numberOfTrailingZeros_0f7a4 34 = .ok (.iload_n 0, 1) := by decide +kernel
theorem dJ6_numberOfTrailingZeros_0f7a4_35 : decode cJ6_numberOfTrailingZeros_0f7a4 35 = .ok (.sipush 256, 3) := by decide +kernel
theorem dJ6_numberOfTrailingZeros_0f7a4_38 : decode cJ6_numberOfTrailingZeros_0f7a4 38 = .ok (.if_icmp .le 11, 3) := by decide +kernel
theorem dJ6_numberOfTrailingZeros_0f7a4_41 : decode cJ6_numberOfTrailingZeros_0f7a4 41 = .ok (.iinc 1 8, 3) := by decide +kernel
theorem dJ6_numberOfTrailingZeros_0f7a4_44 : decode cJ6_numberOfTrailingZeros_0f7a4 44 = .ok (.iload_n 0, 1) := by decide +kernel
theorem dJ6_numberOfTrailingZeros_0f7a4_45 : decode cJ6_numberOfTrailingZeros_0f7a4 45 = .ok (.bipush 8, 2) := by decide +kernel
theorem dJ6_numberOfTrailingZeros_0f7a4_47 : decode cJ6_numberOfTrailingZeros_0f7a4 47 = .ok (.iushr, 1) := by decide +kernel
theorem dJ6_numberOfTrailingZeros_0f7a4_48 : decode cJ6_numberOfTrailingZeros_0f7a4 48 = .ok (.istore_n 0, 1) := by decide +kernel
theorem dJ6_numberOfTrailingZeros_0f7a4_49 : decode cJ6_numberOfTrailingZeros_0f7a4 49 = .ok (.iload_n 0, 1) := by decide +kernel
theorem dJ6_numberOfTrailingZeros_0f7a4_50 : decode cJ6_numberOfTrailingZeros_0f7a4 50 = .ok (.bipush 16, 2) := by decide +kernel
theorem dJ6_numberOfTrailingZeros_0f7a4_52 : decode cJ6_numberOfTrailingZeros_0f7a4 52 = .ok (.if_icmp .le 10, 3) := by decide +kernel
theorem dJ6_numberOfTrailingZeros_0f7a4_55 : decode cJ6_numberOfTrailingZeros_0f7a4 55 = .ok (.iinc 1 4, 3) := by decide +kernel
theorem dJ6_numberOfTrailingZeros_0f7a4_58 : decode cJ6_numberOfTrailingZeros_0f7a4 58 = .ok (.iload_n 0, 1) := by decide +kernel
theorem dJ6_numberOfTrailingZeros_0f7a4_59 : decode cJ6_numberOfTrailingZeros_0f7a4 59 = .ok (.iconst 4, 1) := by decide +kernel
theorem dJ6_numberOfTrailingZeros_0f7a4_60 : decode cJ6_numberOfTrailingZeros_0f7a4 60 = .ok (.iushr, 1) := by decide +kernel
theorem dJ6_numberOfTrailingZeros_0f7a4_61 : decode cJ6_numberOfTrailingZeros_0f7a4 61 = .ok (.istore_n 0, 1) := by decide +kernel
theorem dJ6_numberOfTrailingZeros_0f7a4_62 : decode cJ6_numberOfTrailingZeros_0f7a4 62 = .ok (.iload_n 0, 1) := by decide +kernel
theorem dJ6_numberOfTrailingZeros_0f7a4_63 : decode cJ6_numberOfTrailingZeros_0f7a4 63 = .ok (.iconst 4, 1) := by decide +kernel
theorem dJ6_numberOfTrailingZeros_0f7a4_64 : decode cJ6_numberOfTrailingZeros_0f7a4 64 = .ok (.if_icmp .le 10, 3) := by decide +kernel
theorem dJ6_numberOfTrailingZeros_0f7a4_67 : decode cJ6_numberOfTrailingZeros_0f7a4 67 = .ok (.iinc 1 2, 3) := by decide +kernel
theorem dJ6_numberOfTrailingZeros_0f7a4_70 : decode cJ6_numberOfTrailingZeros_0f7a4 70 = .ok (.iload_n 0, 1) := by decide +kernel
theorem dJ6_numberOfTrailingZeros_0f7a4_71 : decode cJ6_numberOfTrailingZeros_0f7a4 71 = .ok (.iconst 2, 1) := by decide +kernel
theorem dJ6_numberOfTrailingZeros_0f7a4_72 : decode cJ6_numberOfTrailingZeros_0f7a4 72 = .ok (.iushr, 1) := by decide +kernel
theorem dJ6_numberOfTrailingZeros_0f7a4_73 : decode cJ6_numberOfTrailingZeros_0f7a4 73 = .ok (.istore_n 0, 1) := by decide +kernel
theorem dJ6_numberOfTrailingZeros_0f7a4_74 : decode cJ6_numberOfTrailingZeros_0f7a4 74 = .ok (.iload_n 1, 1) := by decide +kernel
theorem dJ6_numberOfTrailingZeros_0f7a4_75 : decode cJ6_numberOfTrailingZeros_0f7a4 75 = .ok (.iload_n 0, 1) := by decide +kernel
theorem dJ6_numberOfTrailingZeros_0f7a4_76 : decode cJ6_numberOfTrailingZeros_0f7a4 76 = .ok (.iconst 1, 1) := by decide +kernel
theorem dJ6_numberOfTrailingZeros_0f7a4_77 : decode cJ6_numberOfTrailingZeros_0f7a4 77 = .ok (.iushr, 1) := by decide +kernel
theorem dJ6_numberOfTrailingZeros_0f7a4_78 : decode cJ6_numberOfTrailingZeros_0f7a4 78 = .ok (.iadd, 1) := by decide +kernel
theorem dJ6_numberOfTrailingZeros_0f7a4_79 : decode cJ6_numberOfTrailingZeros_0f7a4 79 = .ok (.ireturn, 1) := by decide +kernel
theorem dJ13_numberOfLeadingZeros_95d88_0 : decode cJ13_numberOfLeadingZeros_95d88 0 = .ok (.lload_n 0, 1) := by decide +kernel
theorem dJ13_numberOfLeadingZeros_95d88_1 : decode cJ13_numberOfLeadingZeros_95d88 1 = .ok (.bipush 32, 2) := by decide +kernel
theorem dJ13_numberOfLeadingZeros_95d88_3 : decode cJ13_numberOfLeadingZeros_95d88 3 = .ok (.lushr, 1) := by decide +kernel
theorem dJ13_numberOfLeadingZeros_95d88_4 : decode cJ13_numberOfLeadingZeros_95d88 4 = .ok (.l2i, 1) := by decide +kernel
theorem dJ13_numberOfLeadingZeros_95d88_5 : decode cJ13_numberOfLeadingZeros_95d88 5 = .ok (.istore_n 2, 1) := by decide +kernel
theorem dJ13_numberOfLeadingZeros_95d88_6 : decode cJ13_numberOfLeadingZeros_95d88 6 = .ok (.iload_n 2, 1) := by decide +kernel
theorem dJ13_numberOfLeadingZeros_95d88_7 : decode cJ13_numberOfLeadingZeros_95d88 7 = .ok (.ifCond .ne 14, 3) := by decide +kernel
theorem dJ13_numberOfLeadingZeros_95d88_10 : decode cJ13_numberOfLeadingZeros_95d88 10 = .ok (.bipush 32, 2) := by decide +kernel
theorem dJ13_numberOfLeadingZeros_95d88_12 : decode cJ13_numberOfLeadingZeros_95d88 12 = .ok (.lload_n 0, 1) := by decide +kernel
theorem dJ13_numberOfLeadingZeros_95d88_13 : decode cJ13_numberOfLeadingZeros_95d88 13 = .ok (.l2i, 1) := by decide +kernel
theorem dJ13_numberOfLeadingZeros_95d88_14 : decode cJ13_numberOfLeadingZeros_95d88 14 = .ok (.invokestatic 308, 3) := by decide +kernel
theorem dJ13_numberOfLeadingZeros_95d88_17 : decode cJ13_numberOfLeadingZeros_95d88 17 = .ok (.iadd, 1) := by decide +kernel
theorem dJ13_numberOfLeadingZeros_95d88_18 : decode cJ13_numberOfLeadingZeros_95d88 18 = .ok (.goto 7, 3) := by decide +kernel
theorem dJ13_numberOfLeadingZeros_95d88_21 : decode cJ13_numberOfLeadingZeros_95d88 21 = .ok (.iload_n 2, 1) := by decide +kernel
theorem dJ13_numberOfLeadingZeros_95d88_22 : decode cJ13_numberOfLeadingZeros_95d88 22 = .ok (.invokestatic 308, 3) := by decide +kernel
theorem dJ13_numberOfLeadingZeros_95d88_25 : decode cJ13_numberOfLeadingZeros_95d88 25 = .ok (.ireturn, 1) := by decide +kernel
theorem dJ13_numberOfTrailingZeros_95d88_0 : decode cJ13_numberOfTrailingZeros_95d88 0 = .ok (.lload_n 0, 1) := by decide +kernel
theorem dJ13_numberOfTrailingZeros_95d88_1 : decode cJ13_numberOfTrailingZeros_95d88 1 = .ok (.l2i, 1) := by decide +kernel
theorem dJ13_numberOfTrailingZeros_95d88_2 : decode cJ13_numberOfTrailingZeros_95d88 2 = .ok (.istore_n 2, 1) := by decide +kernel
theorem dJ13_numberOfTrailingZeros_95d88_3 : decode cJ13_numberOfTrailingZeros_95d88 3 = .ok (.iload_n 2, 1) := by decide +kernel
theorem dJ13_numberOfTrailingZeros_95d88_4 : decode cJ13_numberOfTrailingZeros_95d88 4 = .ok (.ifCond .ne 17, 3) := by decide +kernel
theorem dJ13_numberOfTrailingZeros_95d88_7 : decode cJ13_numberOfTrailingZeros_95d88 7 = .ok (.bipush 32, 2) := by decide +kernel
theorem dJ13_numberOfTrailingZeros_95d88_9 : decode cJ13_numberOfTrailingZeros_95d88 9 = .ok (.lload_n 0, 1) := by decide +kernel
theorem dJ13_numberOfTrailingZeros_95d88_10 : decode cJ13_numberOfTrailingZeros_95d88 10 = .ok (.bipush 32, 2) := by decide +kernel
theorem dJ13_numberOfTrailingZeros_95d88_12 : decode cJ13_numberOfTrailingZeros_95d88 12 = .ok (.lushr, 1) := by decide +kernel
theorem dJ13_numberOfTrailingZeros_95d88_13 : decode cJ13_numberOfTrailingZeros_95d88 13 = .ok (.l2i, 1) := by decide +kernel
theorem dJ13_numberOfTrailingZeros_95d88_14 : decode cJ13_numberOfTrailingZeros_95d88 14 = .ok (.invokestatic 311, 3) := by decide +kernel
theorem dJ13_numberOfTrailingZeros_95d88_17 : decode cJ13_numberOfTrailingZeros_95d88 17 = .ok (.iadd, 1) := by decide +kernel
theorem dJ13_numberOfTrailingZeros_95d88_18 : decode cJ13_numberOfTrailingZeros_95d88 18 = .ok (.goto 7, 3) := by decide +kernel
theorem dJ13_numberOfTrailingZeros_95d88_21 : decode cJ13_numberOfTrailingZeros_95d88 21 = .ok (.iload_n 2, 1) := by decide +kernel
theorem dJ13_numberOfTrailingZeros_95d88_22 : decode cJ13_numberOfTrailingZeros_95d88 22 = .ok (.invokestatic 311, 3) := by decide +kernel
theorem dJ13_numberOfTrailingZeros_95d88_25 : decode cJ13_numberOfTrailingZeros_95d88 25 = .ok (.ireturn, 1) := by decide +kernel
theorem dJ13_bitCount_95d88_0 : decode cJ13_bitCount_95d88 0 = .ok (.lload_n 0, 1) := by decide +kernel
theorem dJ13_bitCount_95d88_1 : decode cJ13_bitCount_95d88 1 = .ok (.lload_n 0, 1) := by decide +kernel
theorem dJ13_bitCount_95d88_2 : decode cJ13_bitCount_95d88 2 = .ok (.iconst 1, 1) := by decide +kernel
theorem dJ13_bitCount_95d88_3 : decode cJ13_bitCount_95d88 3 = .ok (.lushr, 1) := by decide +kernel
theorem dJ13_bitCount_95d88_4 : decode cJ13_bitCount_95d88 4 = .ok (.ldc2_w 314, 3) := by decide +kernel
theorem dJ13_bitCount_95d88_7 : decode cJ13_bitCount_95d88 7 = .ok (.land, 1) := by decide +kernel
theorem dJ13_bitCount_95d88_8 : decode cJ13_bitCount_95d88 8 = .ok (.lsub, 1) := by decide +kernel
theorem dJ13_bitCount_95d88_9 : decode cJ13_bitCount_95d88 9 = .ok (.lstore_n 0, 1) := by decide +kernel
theorem dJ13_bitCount_95d88_10 : decode cJ13_bitCount_95d88 10 = .ok (.lload_n 0, 1) := by decide +kernel
theorem dJ13_bitCount_95d88_11 : decode cJ13_bitCount_95d88 11 = .ok (.ldc2_w 316, 3) := by decide +kernel
theorem dJ13_bitCount_95d88_14 : decode cJ13_bitCount_95d88 14 = .ok (.land, 1) := by decide +kernel
theorem dJ13_bitCount_95d88_15 : decode cJ13_bitCount_95d88 15 = .ok (.lload_n 0, 1) := by decide +kernel
theorem dJ13_bitCount_95d88_16 : decode cJ13_bitCount_95d88 16 = .ok (.iconst 2, 1) := by decide +kernel
theorem dJ13_bitCount_95d88_17 : decode cJ13_bitCount_95d88 17 = .ok (.lushr, 1) := by decide +kernel
theorem dJ13_bitCount_95d88_18 : decode cJ13_bitCount_95d88 18 = .ok (.ldc2_w 316, 3) := by decide +kernel
theorem dJ13_bitCount_95d88_21 : decode cJ13_bitCount_95d88 21 = .ok (.land, 1) := by decide +kernel
theorem dJ13_bitCount_95d88_22 : decode cJ13_bitCount_95d88 22 = .ok (.ladd, 1) := by decide +kernel
theorem dJ13_bitCount_95d88_23 : decode cJ13_bitCount_95d88 23 = .ok (.lstore_n 0, 1) := by decide +kernel
theorem dJ13_bitCount_95d88_24 : decode cJ13_bitCount_95d88 24 = .ok (.lload_n 0, 1) := by decide +kernel
theorem dJ13_bitCount_95d88_25 : decode cJ13_bitCount_95d88 25 = .ok (.lload_n 0, 1) := by decide +kernel
theorem dJ13_bitCount_95d88_26 : decode cJ13_bitCount_95d88 26 = .ok (.iconst 4, 1) := by decide +kernel
theorem dJ13_bitCount_95d88_27 : decode cJ13_bitCount_95d88 27 = .ok (.lushr, 1) := by decide +kernel
theorem dJ13_bitCount_95d88_28 : decode cJ13_bitCount_95d88 28 = .ok (.ladd, 1) := by decide +kernel
theorem dJ13_bitCount_95d88_29 : decode cJ13_bitCount_95d88 29 = .ok (.ldc2_w 318, 3) := by decide +kernel
theorem dJ13_bitCount_95d88_32 : decode cJ13_bitCount_95d88 32 = .ok (.land, 1) := by decide +kernel
theorem dJ13_bitCount_95d88_33 : decode cJ13_bitCount_95d88 33 = .ok (.lstore_n 0, 1) := by decide +kernel
theorem dJ13_bitCount_95d88_34 : decode cJ13_bitCount_95d88 34 = .ok (.lload_n 0, 1) := by decide +kernel
theorem dJ13_bitCount_95d88_35 : decode cJ13_bitCount_95d88 35 = .ok (.lload_n 0, 1) := by decide +kernel
theorem dJ13_bitCount_95d88_36 : decode cJ13_bitCount_95d88 36 = .ok (.bipush 8, 2) := by decide +kernel
theorem dJ13_bitCount_95d88_38 : decode cJ13_bitCount_95d88 38 = .ok (.lushr, 1) := by decide +kernel
theorem dJ13_bitCount_95d88_39 : decode cJ13_bitCount_95d88 39 = .ok (.ladd, 1) := by decide +kernel
theorem dJ13_bitCount_95d88_40 : decode cJ13_bitCount_95d88 40 = .ok (.lstore_n 0, 1) := by decide +kernel
theorem dJ13_bitCount_95d88_41 : decode cJ13_bitCount_95d88 41 = .ok (.lload_n 0, 1) := by decide +kernel
theorem dJ13_bitCount_95d88_42 : decode cJ13_bitCount_95d88 42 = .ok (.lload_n 0, 1) := by decide +kernel
theorem dJ13_bitCount_95d88_43 : decode cJ13_bitCount_95d88 43 = .ok (.bipush 16, 2) := by decide +kernel
theorem dJ13_bitCount_95d88_45 : decode cJ13_bitCount_95d88 45 = .ok (.lushr, 1) := by decide +kernel
theorem dJ13_bitCount_95d88_46 : decode cJ13_bitCount_95d88 46 = .ok (.ladd, 1) := by decide +kernel
theorem dJ13_bitCount_95d88_47 : decode cJ13_bitCount_95d88 47 = .ok (.lstore_n 0, 1) := by decide +kernel
theorem dJ13_bitCount_95d88_48 : decode cJ13_bitCount_95d88 48 = .ok (.lload_n 0, 1) := by decide +kernel
theorem dJ13_bitCount_95d88_49 : decode cJ13_bitCount_95d88 49 = .ok (.lload_n 0, 1) := by decide +kernel
theorem dJ13_bitCount_95d88_50 : decode cJ13_bitCount_95d88 50 = .ok (.bipush 32, 2) := by decide +kernel
theorem dJ13_bitCount_95d88_52 : decode cJ13_bitCount_95d88 52 = .ok (.lushr, 1) := by decide +kernel
theorem dJ13_bitCount_95d88_53 : decode cJ13_bitCount_95d88 53 = .ok (.ladd, 1) := by decide +kernel
theorem dJ13_bitCount_95d88_54 : decode cJ13_bitCount_95d88 54 = .ok (.lstore_n 0, 1) := by decide +kernel
theorem dJ13_bitCount_95d88_55 : decode cJ13_bitCount_95d88 55 = .ok (.lload_n 0, 1) := by decide +kernel
theorem dJ13_bitCount_95d88_56 : decode cJ13_bitCount_95d88 56 = .ok (.l2i, 1) := by decide +kernel
theorem dJ13_bitCount_95d88_57 : decode cJ13_bitCount_95d88 57 = .ok (.bipush 127, 2) := by decide +kernel
theorem dJ13_bitCount_95d88_59 : decode cJ13_bitCount_95d88 59 = .ok (.iand, 1) := by decide +kernel
theorem dJ13_bitCount_95d88_60 : decode cJ13_bitCount_95d88 60 = .ok (.ireturn, 1) := by decide +kernel
theorem dJ9_abs_0f7a4_0 : decode cJ9_abs_0f7a4 0 = .ok (.iload_n 0, 1) := by decide +kernel
theorem dJ9_abs_0f7a4_1 : decode cJ9_abs_0f7a4 1 = .ok (.ifCond .ge 8, 3) := by decide +kernel
theorem dJ9_abs_0f7a4_4 : decode cJ9_abs_0f7a4 4 = .ok (.iload_n 0, 1) := by decide +kernel
theorem dJ9_abs_0f7a4_5 : decode cJ9_abs_0f7a4 5 = .ok (.ineg, 1) := by decide +kernel
theorem dJ9_abs_0f7a4_6 : decode cJ9_abs_0f7a4 6 = .ok (.goto 4, 3) := by decide +kernel
theorem dJ9_abs_0f7a4_9 : decode cJ9_abs_0f7a4 9 = .ok (.iload_n 0, 1) := by decide +kernel
theorem dJ9_abs_0f7a4_10 : decode cJ9_abs_0f7a4 10 = .ok (.ireturn, 1) := by decide +kernel
theorem dJ9_max_7cf53_0 : decode cJ9_max_7cf53 0 = .ok (.iload_n 0, 1) := by decide +kernel
theorem dJ9_max_7cf53_1 : decode cJ9_max_7cf53 1 = .ok (.iload_n 1, 1) := by decide +kernel
theorem dJ9_max_7cf53_2 : decode cJ9_max_7cf53 2 = .ok (.if_icmp .lt 7, 3) := by decide +kernel
theorem dJ9_max_7cf53_5 : decode cJ9_max_7cf53 5 = .ok (.iload_n 0, 1) := by decide +kernel
theorem dJ9_max_7cf53_6 : decode cJ9_max_7cf53 6 = .ok (.goto 4, 3) := by decide +kernel
theorem dJ9_max_7cf53_9 : decode cJ9_max_7cf53 9 = .ok (.iload_n 1, 1) := by decide +kernel
theorem dJ9_max_7cf53_10 : decode cJ9_max_7cf53 10 = .ok (.ireturn, 1) := by decide +kernel
theorem dJ9_min_7cf53_0 : decode cJ9_min_7cf53 0 = .ok (.iload_n 0, 1) := by decide +kernel
theorem dJ9_min_7cf53_1 : decode cJ9_min_7cf53 1 = .ok (.iload_n 1, 1) := by decide +kernel
theorem dJ9_min_7cf53_2 : decode cJ9_min_7cf53 2 = .ok (.if_icmp .gt 7, 3) := by decide +kernel
theorem dJ9_min_7cf53_5 : decode cJ9_min_7cf53 5 = .ok (.iload_n 0, 1) := by decide +kernel
theorem dJ9_min_7cf53_6 : decode cJ9_min_7cf53 6 = .ok (.goto 4, 3) := by decide +kernel
theorem dJ9_min_7cf53_9 : decode cJ9_min_7cf53 9 = .ok (.iload_n 1, 1) := by decide +kernel
theorem dJ9_min_7cf53_10 : decode cJ9_min_7cf53 10 = .ok (.ireturn, 1) := by decide +kernel
theorem dJ0_length_8abf5_0 : decode cJ0_length_8abf5 0 = .ok (.aload_n 0, 1) := by decide +kernel
theorem dJ0_length_8abf5_1 : decode cJ0_length_8abf5 1 = .ok (.getfield 9, 3) := by decide +kernel
theorem dJ0_length_8abf5_4 : decode cJ0_length_8abf5 4 = .ok (.arraylength, 1) := by decide +kernel
theorem dJ0_length_8abf5_5 : decode cJ0_length_8abf5 5 = .ok (.aload_n 0, 1) := by decide +kernel
theorem dJ0_length_8abf5_6 : decode cJ0_length_8abf5 6 = .ok (.invokevirtual 335, 3) := by decide +kernel
theorem dJ0_length_8abf5_9 : decode cJ0_length_8abf5 9 = .ok (.ishr, 1) := by decide +kernel
theorem dJ0_length_8abf5_10 : decode cJ0_length_8abf5 10 = .ok (.ireturn, 1) := by decide +kernel
theorem dJ0_charAt_5068e_0 : decode cJ0_charAt_5068e 0 = .ok (.aload_n 0, 1) := by decide +kernel
theorem dJ0_charAt_5068e_1 : decode cJ0_charAt_5068e 1 = .ok (.invokevirtual 492, 3) := by decide +kernel
theorem dJ0_charAt_5068e_4 : decode cJ0_charAt_5068e 4 = .ok (.ifCond .eq 12, 3) := by decide +kernel
theorem dJ0_charAt_5068e_7 : decode cJ0_charAt_5068e 7 = .ok (.aload_n 0, 1) := by decide +kernel
theorem dJ0_charAt_5068e_8 : decode cJ0_charAt_5068e 8 = .ok (.getfield 9, 3) := by decide +kernel
theorem dJ0_charAt_5068e_11 : decode cJ0_charAt_5068e 11 = .ok (.iload_n 1, 1) := by decide +kernel
theorem dJ0_charAt_5068e_12 : decode cJ0_charAt_5068e 12 = .ok (.invokestatic 495, 3) := by decide +kernel
theorem dJ0_charAt_5068e_15 : decode cJ0_charAt_5068e 15 = .ok (.ireturn, 1) := by decide +kernel
theorem dJ0_charAt_5068e_16 : decode cJ0_charAt_5068e 16 = .ok (.aload_n 0, 1) := by decide +kernel
theorem dJ0_charAt_5068e_17 : decode cJ0_charAt_5068e 17 = .ok (.getfield 9, 3) := by decide +kernel
theorem dJ0_charAt_5068e_20 : decode cJ0_charAt_5068e 20 = .ok (.iload_n 1, 1) := by decide +kernel
theorem dJ0_charAt_5068e_21 : decode cJ0_charAt_5068e 21 = .ok (.invokestatic 498, 3) := by decide +kernel
theorem dJ0_charAt_5068e_24 : decode cJ0_charAt_5068e 24 = .ok (.ireturn, 1) := by decide +kernel
theorem dJ0_coder_7d493_0 : decode cJ0_coder_7d493 0 = .ok (.getstatic 38, 3) := by decide +kernel
theorem dJ0_coder_7d493_3 : decode cJ0_coder_7d493 3 = .ok (.ifCond .eq 10, 3) := by decide +kernel
theorem dJ0_coder_7d493_6 : decode cJ0_coder_7d493 6 = .ok (.aload_n 0, 1) := by decide +kernel
theorem dJ0_coder_7d493_7 : decode cJ0_coder_7d493 7 = .ok (.getfield 15, 3) := by decide +kernel
theorem dJ0_coder_7d493_10 : decode cJ0_coder_7d493 10 = .ok (.goto 4, 3) := by decide +kernel
theorem dJ0_coder_7d493_13 : decode cJ0_coder_7d493 13 = .ok (.iconst 1, 1) := by decide +kernel
theorem dJ0_coder_7d493_14 : decode cJ0_coder_7d493 14 = .ok (.ireturn, 1) := by decide +kernel
theorem dJ0_isLatin1_aae02_0 : decode cJ0_isLatin1_aae02 0 = .ok (.getstatic 38, 3) := by decide +kernel
theorem dJ0_isLatin1_aae02_3 : decode cJ0_isLatin1_aae02 3 = .ok (.ifCond .eq 14, 3) := by decide +kernel
theorem dJ0_isLatin1_aae02_6 : decode cJ0_isLatin1_aae02 6 = .ok (.aload_n 0, 1) := by decide +kernel
theorem dJ0_isLatin1_aae02_7 : decode cJ0_isLatin1_aae02 7 = .ok (.getfield 15, 3) := by decide +kernel
theorem dJ0_isLatin1_aae02_10 : decode cJ0_isLatin1_aae02 10 = .ok (.ifCond .ne 7, 3) := by decide +kernel
theorem dJ0_isLatin1_aae02_13 : decode cJ0_isLatin1_aae02 13 = .ok (.iconst 1, 1) := by decide +kernel
theorem dJ0_isLatin1_aae02_14 : decode cJ0_isLatin1_aae02 14 = .ok (.goto 4, 3) := by decide +kernel
theorem dJ0_isLatin1_aae02_17 : decode cJ0_isLatin1_aae02 17 = .ok (.iconst 0, 1) := by decide +kernel
theorem dJ0_isLatin1_aae02_18 : decode cJ0_isLatin1_aae02 18 = .ok (.ireturn, 1) := by decide +kernel
theorem dJ0_checkIndex_df160_0 : decode cJ0_checkIndex_df160 0 = .ok (.iload_n 0, 1) := by decide +kernel
theorem dJ0_checkIndex_df160_1 : decode cJ0_checkIndex_df160 1 = .ok (.iload_n 1, 1) := by decide +kernel
theorem dJ0_checkIndex_df160_2 : decode cJ0_checkIndex_df160 2 = .ok (.getstatic 1053, 3) := by decide +kernel
theorem dJ0_checkIndex_df160_5 : decode cJ0_checkIndex_df160 5 = .ok (.invokestatic 1059, 3) := by decide +kernel
theorem dJ0_checkIndex_df160_8 : decode cJ0_checkIndex_df160 8 = .ok (.pop, 1) := by decide +kernel
theorem dJ0_checkIndex_df160_9 : decode cJ0_checkIndex_df160 9 = .ok (.return_, 1) := by decide +kernel
theorem dJ1_charAt_3b067_0 : decode cJ1_charAt_3b067 0 = .ok (.iload_n 1, 1) := by decide +kernel
theorem dJ1_charAt_3b067_1 : decode cJ1_charAt_3b067 1 = .ok (.aload_n 0, 1) := by decide +kernel
theorem dJ1_charAt_3b067_2 : decode cJ1_charAt_3b067 2 = .ok (.arraylength, 1) := by decide +kernel
theorem dJ1_charAt_3b067_3 : decode cJ1_charAt_3b067 3 = .ok (.invokestatic 9, 3) := by decide +kernel
theorem dJ1_charAt_3b067_6 : decode cJ1_charAt_3b067 6 = .ok (.aload_n 0, 1) := by decide +kernel
theorem dJ1_charAt_3b067_7 : decode cJ1_charAt_3b067 7 = .ok (.iload_n 1, 1) := by decide +kernel
theorem dJ1_charAt_3b067_8 : decode cJ1_charAt_3b067 8 = .ok (.baload, 1) := by decide +kernel
theorem dJ1_charAt_3b067_9 : decode cJ1_charAt_3b067 9 = .ok (.sipush 255, 3) := by decide +kernel
theorem dJ1_charAt_3b067_12 : decode cJ1_charAt_3b067 12 = .ok (.iand, 1) := by decide +kernel
theorem dJ1_charAt_3b067_13 : decode cJ1_charAt_3b067 13 = .ok (.i2c, 1) := by decide +kernel
theorem dJ1_charAt_3b067_14 : decode cJ1_charAt_3b067 14 = .ok (.ireturn, 1) := by decide +kernel
theorem dJ2_getChar_3b067_0 : decode cJ2_getChar_3b067 0 = .ok (.getstatic 44, 3) := by decide +kernel
theorem dJ2_getChar_3b067_3 : decode cJ2_getChar_3b067 3 = .ok (.ifCond .ne 25, 3) := by decide +kernel
theorem dJ2_getChar_3b067_6 : decode cJ2_getChar_3b067 6 = .ok (.iload_n 1, 1) := by decide +kernel
theorem dJ2_getChar_3b067_7 : decode cJ2_getChar_3b067 7 = .ok (.ifCond .lt 11, 3) := by decide +kernel
theorem dJ2_getChar_3b067_10 : decode cJ2_getChar_3b067 10 = .ok (.iload_n 1, 1) := by decide +kernel
theorem dJ2_getChar_3b067_11 : decode cJ2_getChar_3b067 11 = .ok (.aload_n 0, 1) := by decide +kernel
theorem dJ2_getChar_3b067_12 : decode cJ2_getChar_3b067 12 = .ok (.invokestatic 48, 3) := by decide +kernel
theorem dJ2_getChar_3b067_15 : decode cJ2_getChar_3b067 15 = .ok (.if_icmp .lt 13, 3) := by decide +kernel
theorem dJ2_getChar_3b067_18 : decode cJ2_getChar_3b067 18 = .ok (.new 52, 3) := by decide +kernel
theorem dJ2_getChar_3b067_21 : decode cJ2_getChar_3b067 21 = .ok (.dup, 1) := by decide +kernel
theorem dJ2_getChar_3b067_22 : decode cJ2_getChar_3b067 22 = .ok (.ldc 54, 2) := by decide +kernel
theorem dJ2_getChar_3b067_24 : decode cJ2_getChar_3b067 24 = .ok (.invokespecial 56, 3) := by decide +kernel
theorem dJ2_getChar_3b067_27 : decode cJ2_getChar_3b067 27 = .ok (.athrow, 1) := by decide +kernel
theorem dJ2_getChar_3b067_28 : decode cJ2_getChar_3b067 28 = .ok (.iload_n 1, 1) := by decide +kernel
theorem dJ2_getChar_3b067_29 : decode cJ2_getChar_3b067 29 = .ok (.iconst 1, 1) := by decide +kernel
theorem dJ2_getChar_3b067_30 : decode cJ2_getChar_3b067 30 = .ok (.ishl, 1) := by decide +kernel
theorem dJ2_getChar_3b067_31 : decode cJ2_getChar_3b067 31 = .ok (.istore_n 1, 1) := by decide +kernel
theorem dJ2_getChar_3b067_32 : decode cJ2_getChar_3b067 32 = .ok (.aload_n 0, 1) := by decide +kernel
theorem dJ2_getChar_3b067_33 : decode cJ2_getChar_3b067 33 = .ok (.iload_n 1, 1) := by decide +kernel
theorem dJ2_getChar_3b067_34 : decode cJ2_getChar_3b067 34 = .ok (.iinc 1 1, 3) := by decide +kernel
theorem dJ2_getChar_3b067_37 : decode cJ2_getChar_3b067 37 = .ok (.baload, 1) := by decide +kernel
theorem dJ2_getChar_3b067_38 : decode cJ2_getChar_3b067 38 = .ok (.sipush 255, 3) := by decide +kernel
theorem dJ2_getChar_3b067_41 : decode cJ2_getChar_3b067 41 = .ok (.iand, 1) := by decide +kernel
theorem dJ2_getChar_3b067_42 : decode cJ2_getChar_3b067 42 = .ok (.getstatic 59, 3) := by decide +kernel
theorem dJ2_getChar_3b067_45 : decode cJ2_getChar_3b067 45 = .ok (.ishl, 1) := by decide +kernel
theorem dJ2_getChar_3b067_46 : decode cJ2_getChar_3b067 46 = .ok (.aload_n 0, 1) := by decide +kernel
theorem dJ2_getChar_3b067_47 : decode cJ2_getChar_3b067 47 = .ok (.iload_n 1, 1) := by decide +kernel
theorem dJ2_getChar_3b067_48 : decode cJ2_getChar_3b067 48 = .ok (.baload, 1) := by decide +kernel
theorem dJ2_getChar_3b067_49 : decode cJ2_getChar_3b067 49 = .ok (.sipush 255, 3) := by decide +kernel
theorem dJ2_getChar_3b067_52 : decode cJ2_getChar_3b067 52 = .ok (.iand, 1) := by decide +kernel
theorem dJ2_getChar_3b067_53 : decode cJ2_getChar_3b067 53 = .ok (.getstatic 63, 3) := by decide +kernel
theorem dJ2_getChar_3b067_56 : decode cJ2_getChar_3b067 56 = .ok (.ishl, 1) := by decide +kernel
theorem dJ2_getChar_3b067_57 : decode cJ2_getChar_3b067 57 = .ok (.ior, 1) := by decide +kernel
theorem dJ2_getChar_3b067_58 : decode cJ2_getChar_3b067 58 = .ok (.i2c, 1) := by decide +kernel
theorem dJ2_getChar_3b067_59 : decode cJ2_getChar_3b067 59 = .ok (.ireturn, 1) := by decide +kernel
theorem dJ2_length_9d52b_0 : decode cJ2_length_9d52b 0 = .ok (.aload_n 0, 1) := by decide +kernel
theorem dJ2_length_9d52b_1 : decode cJ2_length_9d52b 1 = .ok (.arraylength, 1) := by decide +kernel
theorem dJ2_length_9d52b_2 : decode cJ2_length_9d52b 2 = .ok (.iconst 1, 1) := by decide +kernel
theorem dJ2_length_9d52b_3 : decode cJ2_length_9d52b 3 = .ok (.ishr, 1) := by decide +kernel
theorem dJ2_length_9d52b_4 : decode cJ2_length_9d52b 4 = .ok (.ireturn, 1) := by decide +kernel
theorem dJ2_charAt_3b067_0 : decode cJ2_charAt_3b067 0 = .ok (.iload_n 1, 1) := by decide +kernel
theorem dJ2_charAt_3b067_1 : decode cJ2_charAt_3b067 1 = .ok (.aload_n 0, 1) := by decide +kernel
theorem dJ2_charAt_3b067_2 : decode cJ2_charAt_3b067 2 = .ok (.invokestatic 67, 3) := by decide +kernel
theorem dJ2_charAt_3b067_5 : decode cJ2_charAt_3b067 5 = .ok (.aload_n 0, 1) := by decide +kernel
theorem dJ2_charAt_3b067_6 : decode cJ2_charAt_3b067 6 = .ok (.iload_n 1, 1) := by decide +kernel
theorem dJ2_charAt_3b067_7 : decode cJ2_charAt_3b067 7 = .ok (.invokestatic 71, 3) := by decide +kernel
theorem dJ2_charAt_3b067_10 : decode cJ2_charAt_3b067 10 = .ok (.ireturn, 1) := by decide +kernel
theorem dJ2_checkIndex_2214a_0 : decode cJ2_checkIndex_2214a 0 = .ok (.iload_n 0, 1) := by decide +kernel
theorem dJ2_checkIndex_2214a_1 : decode cJ2_checkIndex_2214a 1 = .ok (.aload_n 1, 1) := by decide +kernel
theorem dJ2_checkIndex_2214a_2 : decode cJ2_checkIndex_2214a 2 = .ok (.invokestatic 48, 3) := by decide +kernel
theorem dJ2_checkIndex_2214a_5 : decode cJ2_checkIndex_2214a 5 = .ok (.invokestatic 414, 3) := by decide +kernel
theorem dJ2_checkIndex_2214a_8 : decode cJ2_checkIndex_2214a 8 = .ok (.return_, 1) := by decide +kernel
theorem dJ3_checkIndex_8e157_0 : decode cJ3_checkIndex_8e157 0 = .ok (.iload_n 0, 1) := by decide +kernel
theorem dJ3_checkIndex_8e157_1 : decode cJ3_checkIndex_8e157 1 = .ok (.ifCond .lt 8, 3) := by decide +kernel
theorem dJ3_checkIndex_8e157_4 : decode cJ3_checkIndex_8e157 4 = .ok (.iload_n 0, 1) := by decide +kernel
theorem dJ3_checkIndex_8e157_5 : decode cJ3_checkIndex_8e157 5 = .ok (.iload_n 1, 1) := by decide +kernel
theorem dJ3_checkIndex_8e157_6 : decode cJ3_checkIndex_8e157 6 = .ok (.if_icmp .lt 10, 3) := by decide +kernel
theorem dJ3_checkIndex_8e157_9 : decode cJ3_checkIndex_8e157 9 = .ok (.aload_n 2, 1) := by decide +kernel
theorem dJ3_checkIndex_8e157_10 : decode cJ3_checkIndex_8e157 10 = .ok (.iload_n 0, 1) := by decide +kernel
theorem dJ3_checkIndex_8e157_11 : decode cJ3_checkIndex_8e157 11 = .ok (.iload_n 1, 1) := by decide +kernel
theorem dJ3_checkIndex_8e157_12 : decode cJ3_checkIndex_8e157 12 = .ok (.invokestatic 95, 3) := by decide +kernel
theorem dJ3_checkIndex_8e157_15 : decode cJ3_checkIndex_8e157 15 = .ok (.athrow, 1) := by decide +kernel
theorem dJ3_checkIndex_8e157_16 : decode cJ3_checkIndex_8e157 16 = .ok (.iload_n 0, 1) := by decide +kernel
theorem dJ3_checkIndex_8e157_17 : decode cJ3_checkIndex_8e157 17 = .ok (.ireturn, 1) := by decide +kernel
theorem dL_text_0 : decode cL_text 0 = .ok (.aload_n 2, 1) := by decide +kernel
theorem dL_text_1 : decode cL_text 1 = .ok (.iconst 0, 1) := by decide +kernel
theorem dL_text_2 : decode cL_text 2 = .ok (.aload_n 0, 1) := by decide +kernel
theorem dL_text_3 : decode cL_text 3 = .ok (.iload_n 1, 1) := by decide +kernel
theorem dL_text_4 : decode cL_text 4 = .ok (.invokevirtual 7, 3) := by decide +kernel
theorem dL_text_7 : decode cL_text 7 = .ok (.i2l, 1) := by decide +kernel
theorem dL_text_8 : decode cL_text 8 = .ok (.lastore, 1) := by decide +kernel
theorem dL_text_9 : decode cL_text 9 = .ok (.goto 6, 3) := by decide +kernel
theorem dL_text_12 : decode cL_text 12 = .ok (.astore_n 3, 1) := by decide +kernel
theorem dL_text_13 : decode cL_text 13 = .ok (.iconst 1, 1) := by decide +kernel
theorem dL_text_14 : decode cL_text 14 = .ok (.ireturn, 1) := by decide +kernel
theorem dL_text_15 : decode cL_text 15 = .ok (.iconst 0, 1) := by decide +kernel
theorem dL_text_16 : decode cL_text 16 = .ok (.ireturn, 1) := by decide +kernel
theorem dL_set_0 : decode cL_set 0 = .ok (.aload_n 3, 1) := by decide +kernel
theorem dL_set_1 : decode cL_set 1 = .ok (.iconst 0, 1) := by decide +kernel
theorem dL_set_2 : decode cL_set 2 = .ok (.aload_n 0, 1) := by decide +kernel
theorem dL_set_3 : decode cL_set 3 = .ok (.iload_n 1, 1) := by decide +kernel
theorem dL_set_4 : decode cL_set 4 = .ok (.iload_n 2, 1) := by decide +kernel
theorem dL_set_5 : decode cL_set 5 = .ok (.invokevirtual 15, 3) := by decide +kernel
theorem dL_set_8 : decode cL_set 8 = .ok (.i2l, 1) := by decide +kernel
theorem dL_set_9 : decode cL_set 9 = .ok (.lastore, 1) := by decide +kernel
theorem dL_set_10 : decode cL_set 10 = .ok (.goto 7, 3) := by decide +kernel
theorem dL_set_13 : decode cL_set 13 = .ok (.astore 4, 2) := by decide +kernel
theorem dL_set_15 : decode cL_set 15 = .ok (.iconst 1, 1) := by decide +kernel
theorem dL_set_16 : decode cL_set 16 = .ok (.ireturn, 1) := by decide +kernel
theorem dL_set_17 : decode cL_set 17 = .ok (.iconst 0, 1) := by decide +kernel
theorem dL_set_18 : decode cL_set 18 = .ok (.ireturn, 1) := by decide +kernel
theorem dL_redate_0 : decode cL_redate 0 = .ok (.aload 4, 2) := by decide +kernel
theorem dL_redate_2 : decode cL_redate 2 = .ok (.iconst 0, 1) := by decide +kernel
theorem dL_redate_3 : decode cL_redate 3 = .ok (.aload_n 0, 1) := by decide +kernel
theorem dL_redate_4 : decode cL_redate 4 = .ok (.iload_n 1, 1) := by decide +kernel
theorem dL_redate_5 : decode cL_redate 5 = .ok (.iload_n 2, 1) := by decide +kernel
theorem dL_redate_6 : decode cL_redate 6 = .ok (.iload_n 3, 1) := by decide +kernel
theorem dL_redate_7 : decode cL_redate 7 = .ok (.invokevirtual 19, 3) := by decide +kernel
theorem dL_redate_10 : decode cL_redate 10 = .ok (.i2l, 1) := by decide +kernel
theorem dL_redate_11 : decode cL_redate 11 = .ok (.lastore, 1) := by decide +kernel
theorem dL_redate_12 : decode cL_redate 12 = .ok (.goto 11, 3) := by decide +kernel
theorem dL_redate_15 : decode cL_redate 15 = .ok (.astore 5, 2) := by decide +kernel
theorem dL_redate_17 : decode cL_redate 17 = .ok (.iconst 1, 1) := by decide +kernel
theorem dL_redate_18 : decode cL_redate 18 = .ok (.ireturn, 1) := by decide +kernel
theorem dL_redate_19 : decode cL_redate 19 = .ok (.astore 5, 2) := by decide +kernel
theorem dL_redate_21 : decode cL_redate 21 = .ok (.iconst 2, 1) := by decide +kernel
theorem dL_redate_22 : decode cL_redate 22 = .ok (.ireturn, 1) := by decide +kernel
theorem dL_redate_23 : decode cL_redate 23 = .ok (.iconst 0, 1) := by decide +kernel
theorem dL_redate_24 : decode cL_redate 24 = .ok (.ireturn, 1) := by decide +kernel
theorem dL_before_0 : decode cL_before 0 = .ok (.aload 5, 2) := by decide +kernel
theorem dL_before_2 : decode cL_before 2 = .ok (.iconst 0, 1) := by decide +kernel
theorem dL_before_3 : decode cL_before 3 = .ok (.aload_n 0, 1) := by decide +kernel
theorem dL_before_4 : decode cL_before 4 = .ok (.iload_n 1, 1) := by decide +kernel
theorem dL_before_5 : decode cL_before 5 = .ok (.iload_n 2, 1) := by decide +kernel
theorem dL_before_6 : decode cL_before 6 = .ok (.iload_n 3, 1) := by decide +kernel
theorem dL_before_7 : decode cL_before 7 = .ok (.iload 4, 2) := by decide +kernel
theorem dL_before_9 : decode cL_before 9 = .ok (.invokevirtual 25, 3) := by decide +kernel
theorem dL_before_12 : decode cL_before 12 = .ok (.i2l, 1) := by decide +kernel
theorem dL_before_13 : decode cL_before 13 = .ok (.lastore, 1) := by decide +kernel
theorem dL_before_14 : decode cL_before 14 = .ok (.goto 15, 3) := by decide +kernel
theorem dL_before_17 : decode cL_before 17 = .ok (.astore 6, 2) := by decide +kernel
theorem dL_before_19 : decode cL_before 19 = .ok (.iconst 1, 1) := by decide +kernel
theorem dL_before_20 : decode cL_before 20 = .ok (.ireturn, 1) := by decide +kernel
theorem dL_before_21 : decode cL_before 21 = .ok (.astore 6, 2) := by decide +kernel
theorem dL_before_23 : decode cL_before 23 = .ok (.iconst 2, 1) := by decide +kernel
theorem dL_before_24 : decode cL_before 24 = .ok (.ireturn, 1) := by decide +kernel
theorem dL_before_25 : decode cL_before 25 = .ok (.astore 6, 2) := by decide +kernel
theorem dL_before_27 : decode cL_before 27 = .ok (.iconst 3, 1) := by decide +kernel
theorem dL_before_28 : decode cL_before 28 = .ok (.ireturn, 1) := by decide +kernel
theorem dL_before_29 : decode cL_before 29 = .ok (.iconst 0, 1) := by decide +kernel
theorem dL_before_30 : decode cL_before 30 = .ok (.ireturn, 1) := by decide +kernel
theorem dL_bounds_0 : decode cL_bounds 0 = .ok (.aload 4, 2) := by decide +kernel
theorem dL_bounds_2 : decode cL_bounds 2 = .ok (.iconst 0, 1) := by decide +kernel
theorem dL_bounds_3 : decode cL_bounds 3 = .ok (.aload_n 0, 1) := by decide +kernel
theorem dL_bounds_4 : decode cL_bounds 4 = .ok (.iload_n 1, 1) := by decide +kernel
theorem dL_bounds_5 : decode cL_bounds 5 = .ok (.iload_n 2, 1) := by decide +kernel
theorem dL_bounds_6 : decode cL_bounds 6 = .ok (.iload_n 3, 1) := by decide +kernel
theorem dL_bounds_7 : decode cL_bounds 7 = .ok (.invokevirtual 31, 3) := by decide +kernel
theorem dL_bounds_10 : decode cL_bounds 10 = .ok (.i2l, 1) := by decide +kernel
theorem dL_bounds_11 : decode cL_bounds 11 = .ok (.lastore, 1) := by decide +kernel
theorem dL_bounds_12 : decode cL_bounds 12 = .ok (.goto 15, 3) := by decide +kernel
theorem dL_bounds_15 : decode cL_bounds 15 = .ok (.astore 5, 2) := by decide +kernel
theorem dL_bounds_17 : decode cL_bounds 17 = .ok (.iconst 1, 1) := by decide +kernel
theorem dL_bounds_18 : decode cL_bounds 18 = .ok (.ireturn, 1) := by decide +kernel
theorem dL_bounds_19 : decode cL_bounds 19 = .ok (.astore 5, 2) := by decide +kernel
theorem dL_bounds_21 : decode cL_bounds 21 = .ok (.iconst 2, 1) := by decide +kernel
theorem dL_bounds_22 : decode cL_bounds 22 = .ok (.ireturn, 1) := by decide +kernel
theorem dL_bounds_23 : decode cL_bounds 23 = .ok (.astore 5, 2) := by decide +kernel
theorem dL_bounds_25 : decode cL_bounds 25 = .ok (.iconst 3, 1) := by decide +kernel
theorem dL_bounds_26 : decode cL_bounds 26 = .ok (.ireturn, 1) := by decide +kernel
theorem dL_bounds_27 : decode cL_bounds 27 = .ok (.iconst 0, 1) := by decide +kernel
theorem dL_bounds_28 : decode cL_bounds 28 = .ok (.ireturn, 1) := by decide +kernel
theorem dL_drop_0 : decode cL_drop 0 = .ok (.aload_n 2, 1) := by decide +kernel
theorem dL_drop_1 : decode cL_drop 1 = .ok (.iconst 0, 1) := by decide +kernel
theorem dL_drop_2 : decode cL_drop 2 = .ok (.aload_n 0, 1) := by decide +kernel
theorem dL_drop_3 : decode cL_drop 3 = .ok (.iload_n 1, 1) := by decide +kernel
theorem dL_drop_4 : decode cL_drop 4 = .ok (.invokevirtual 34, 3) := by decide +kernel
theorem dL_drop_7 : decode cL_drop 7 = .ok (.i2l, 1) := by decide +kernel
theorem dL_drop_8 : decode cL_drop 8 = .ok (.lastore, 1) := by decide +kernel
theorem dL_drop_9 : decode cL_drop 9 = .ok (.goto 6, 3) := by decide +kernel
theorem dL_drop_12 : decode cL_drop 12 = .ok (.astore_n 3, 1) := by decide +kernel
theorem dL_drop_13 : decode cL_drop 13 = .ok (.iconst 1, 1) := by decide +kernel
theorem dL_drop_14 : decode cL_drop 14 = .ok (.ireturn, 1) := by decide +kernel
theorem dL_drop_15 : decode cL_drop 15 = .ok (.iconst 0, 1) := by decide +kernel
theorem dL_drop_16 : decode cL_drop 16 = .ok (.ireturn, 1) := by decide +kernel
theorem dL_told_0 : decode cL_told 0 = .ok (.aload_n 2, 1) := by decide +kernel
theorem dL_told_1 : decode cL_told 1 = .ok (.iconst 0, 1) := by decide +kernel
theorem dL_told_2 : decode cL_told 2 = .ok (.aload_n 0, 1) := by decide +kernel
theorem dL_told_3 : decode cL_told 3 = .ok (.iload_n 1, 1) := by decide +kernel
theorem dL_told_4 : decode cL_told 4 = .ok (.invokevirtual 37, 3) := by decide +kernel
theorem dL_told_7 : decode cL_told 7 = .ok (.i2l, 1) := by decide +kernel
theorem dL_told_8 : decode cL_told 8 = .ok (.lastore, 1) := by decide +kernel
theorem dL_told_9 : decode cL_told 9 = .ok (.goto 6, 3) := by decide +kernel
theorem dL_told_12 : decode cL_told 12 = .ok (.astore_n 3, 1) := by decide +kernel
theorem dL_told_13 : decode cL_told 13 = .ok (.iconst 1, 1) := by decide +kernel
theorem dL_told_14 : decode cL_told 14 = .ok (.ireturn, 1) := by decide +kernel
theorem dL_told_15 : decode cL_told 15 = .ok (.iconst 0, 1) := by decide +kernel
theorem dL_told_16 : decode cL_told 16 = .ok (.ireturn, 1) := by decide +kernel
theorem dL_age_0 : decode cL_age 0 = .ok (.aload_n 2, 1) := by decide +kernel
theorem dL_age_1 : decode cL_age 1 = .ok (.iconst 0, 1) := by decide +kernel
theorem dL_age_2 : decode cL_age 2 = .ok (.aload_n 0, 1) := by decide +kernel
theorem dL_age_3 : decode cL_age 3 = .ok (.iload_n 1, 1) := by decide +kernel
theorem dL_age_4 : decode cL_age 4 = .ok (.invokevirtual 40, 3) := by decide +kernel
theorem dL_age_7 : decode cL_age 7 = .ok (.i2l, 1) := by decide +kernel
theorem dL_age_8 : decode cL_age 8 = .ok (.lastore, 1) := by decide +kernel
theorem dL_age_9 : decode cL_age 9 = .ok (.goto 6, 3) := by decide +kernel
theorem dL_age_12 : decode cL_age 12 = .ok (.astore_n 3, 1) := by decide +kernel
theorem dL_age_13 : decode cL_age 13 = .ok (.iconst 1, 1) := by decide +kernel
theorem dL_age_14 : decode cL_age 14 = .ok (.ireturn, 1) := by decide +kernel
theorem dL_age_15 : decode cL_age 15 = .ok (.iconst 0, 1) := by decide +kernel
theorem dL_age_16 : decode cL_age 16 = .ok (.ireturn, 1) := by decide +kernel
theorem dL_years_0 : decode cL_years 0 = .ok (.aload_n 3, 1) := by decide +kernel
theorem dL_years_1 : decode cL_years 1 = .ok (.iconst 0, 1) := by decide +kernel
theorem dL_years_2 : decode cL_years 2 = .ok (.aload_n 0, 1) := by decide +kernel
theorem dL_years_3 : decode cL_years 3 = .ok (.iload_n 1, 1) := by decide +kernel
theorem dL_years_4 : decode cL_years 4 = .ok (.iload_n 2, 1) := by decide +kernel
theorem dL_years_5 : decode cL_years 5 = .ok (.invokevirtual 43, 3) := by decide +kernel
theorem dL_years_8 : decode cL_years 8 = .ok (.i2l, 1) := by decide +kernel
theorem dL_years_9 : decode cL_years 9 = .ok (.lastore, 1) := by decide +kernel
theorem dL_years_10 : decode cL_years 10 = .ok (.goto 7, 3) := by decide +kernel
theorem dL_years_13 : decode cL_years 13 = .ok (.astore 4, 2) := by decide +kernel
theorem dL_years_15 : decode cL_years 15 = .ok (.iconst 1, 1) := by decide +kernel
theorem dL_years_16 : decode cL_years 16 = .ok (.ireturn, 1) := by decide +kernel
theorem dL_years_17 : decode cL_years 17 = .ok (.iconst 0, 1) := by decide +kernel
theorem dL_years_18 : decode cL_years 18 = .ok (.ireturn, 1) := by decide +kernel
theorem dL_knot_0 : decode cL_knot 0 = .ok (.aload_n 3, 1) := by decide +kernel
theorem dL_knot_1 : decode cL_knot 1 = .ok (.iconst 0, 1) := by decide +kernel
theorem dL_knot_2 : decode cL_knot 2 = .ok (.aload_n 0, 1) := by decide +kernel
theorem dL_knot_3 : decode cL_knot 3 = .ok (.iload_n 1, 1) := by decide +kernel
theorem dL_knot_4 : decode cL_knot 4 = .ok (.iload_n 2, 1) := by decide +kernel
theorem dL_knot_5 : decode cL_knot 5 = .ok (.invokevirtual 46, 3) := by decide +kernel
theorem dL_knot_8 : decode cL_knot 8 = .ok (.i2l, 1) := by decide +kernel
theorem dL_knot_9 : decode cL_knot 9 = .ok (.lastore, 1) := by decide +kernel
theorem dL_knot_10 : decode cL_knot 10 = .ok (.goto 11, 3) := by decide +kernel
theorem dL_knot_13 : decode cL_knot 13 = .ok (.astore 4, 2) := by decide +kernel
theorem dL_knot_15 : decode cL_knot 15 = .ok (.iconst 1, 1) := by decide +kernel
theorem dL_knot_16 : decode cL_knot 16 = .ok (.ireturn, 1) := by decide +kernel
theorem dL_knot_17 : decode cL_knot 17 = .ok (.astore 4, 2) := by decide +kernel
theorem dL_knot_19 : decode cL_knot 19 = .ok (.iconst 2, 1) := by decide +kernel
theorem dL_knot_20 : decode cL_knot 20 = .ok (.ireturn, 1) := by decide +kernel
theorem dL_knot_21 : decode cL_knot 21 = .ok (.iconst 0, 1) := by decide +kernel
theorem dL_knot_22 : decode cL_knot 22 = .ok (.ireturn, 1) := by decide +kernel
theorem dL_sample_0 : decode cL_sample 0 = .ok (.aload_n 3, 1) := by decide +kernel
theorem dL_sample_1 : decode cL_sample 1 = .ok (.iconst 0, 1) := by decide +kernel
theorem dL_sample_2 : decode cL_sample 2 = .ok (.aload_n 0, 1) := by decide +kernel
theorem dL_sample_3 : decode cL_sample 3 = .ok (.iload_n 1, 1) := by decide +kernel
theorem dL_sample_4 : decode cL_sample 4 = .ok (.iload_n 2, 1) := by decide +kernel
theorem dL_sample_5 : decode cL_sample 5 = .ok (.invokevirtual 49, 3) := by decide +kernel
theorem dL_sample_8 : decode cL_sample 8 = .ok (.i2l, 1) := by decide +kernel
theorem dL_sample_9 : decode cL_sample 9 = .ok (.lastore, 1) := by decide +kernel
theorem dL_sample_10 : decode cL_sample 10 = .ok (.goto 11, 3) := by decide +kernel
theorem dL_sample_13 : decode cL_sample 13 = .ok (.astore 4, 2) := by decide +kernel
theorem dL_sample_15 : decode cL_sample 15 = .ok (.iconst 1, 1) := by decide +kernel
theorem dL_sample_16 : decode cL_sample 16 = .ok (.ireturn, 1) := by decide +kernel
theorem dL_sample_17 : decode cL_sample 17 = .ok (.astore 4, 2) := by decide +kernel
theorem dL_sample_19 : decode cL_sample 19 = .ok (.iconst 2, 1) := by decide +kernel
theorem dL_sample_20 : decode cL_sample 20 = .ok (.ireturn, 1) := by decide +kernel
theorem dL_sample_21 : decode cL_sample 21 = .ok (.iconst 0, 1) := by decide +kernel
theorem dL_sample_22 : decode cL_sample 22 = .ok (.ireturn, 1) := by decide +kernel
theorem dL_interval_0 : decode cL_interval 0 = .ok (.aload 4, 2) := by decide +kernel
theorem dL_interval_2 : decode cL_interval 2 = .ok (.iconst 0, 1) := by decide +kernel
theorem dL_interval_3 : decode cL_interval 3 = .ok (.aload_n 0, 1) := by decide +kernel
theorem dL_interval_4 : decode cL_interval 4 = .ok (.iload_n 1, 1) := by decide +kernel
theorem dL_interval_5 : decode cL_interval 5 = .ok (.iload_n 2, 1) := by decide +kernel
theorem dL_interval_6 : decode cL_interval 6 = .ok (.iload_n 3, 1) := by decide +kernel
theorem dL_interval_7 : decode cL_interval 7 = .ok (.invokevirtual 52, 3) := by decide +kernel
theorem dL_interval_10 : decode cL_interval 10 = .ok (.i2l, 1) := by decide +kernel
theorem dL_interval_11 : decode cL_interval 11 = .ok (.lastore, 1) := by decide +kernel
theorem dL_interval_12 : decode cL_interval 12 = .ok (.goto 11, 3) := by decide +kernel
theorem dL_interval_15 : decode cL_interval 15 = .ok (.astore 5, 2) := by decide +kernel
theorem dL_interval_17 : decode cL_interval 17 = .ok (.iconst 1, 1) := by decide +kernel
theorem dL_interval_18 : decode cL_interval 18 = .ok (.ireturn, 1) := by decide +kernel
theorem dL_interval_19 : decode cL_interval 19 = .ok (.astore 5, 2) := by decide +kernel
theorem dL_interval_21 : decode cL_interval 21 = .ok (.iconst 2, 1) := by decide +kernel
theorem dL_interval_22 : decode cL_interval 22 = .ok (.ireturn, 1) := by decide +kernel
theorem dL_interval_23 : decode cL_interval 23 = .ok (.iconst 0, 1) := by decide +kernel
theorem dL_interval_24 : decode cL_interval 24 = .ok (.ireturn, 1) := by decide +kernel
theorem dL_misfit_0 : decode cL_misfit 0 = .ok (.aload_n 3, 1) := by decide +kernel
theorem dL_misfit_1 : decode cL_misfit 1 = .ok (.iconst 0, 1) := by decide +kernel
theorem dL_misfit_2 : decode cL_misfit 2 = .ok (.aload_n 0, 1) := by decide +kernel
theorem dL_misfit_3 : decode cL_misfit 3 = .ok (.iload_n 1, 1) := by decide +kernel
theorem dL_misfit_4 : decode cL_misfit 4 = .ok (.iload_n 2, 1) := by decide +kernel
theorem dL_misfit_5 : decode cL_misfit 5 = .ok (.invokevirtual 55, 3) := by decide +kernel
theorem dL_misfit_8 : decode cL_misfit 8 = .ok (.i2l, 1) := by decide +kernel
theorem dL_misfit_9 : decode cL_misfit 9 = .ok (.lastore, 1) := by decide +kernel
theorem dL_misfit_10 : decode cL_misfit 10 = .ok (.goto 7, 3) := by decide +kernel
theorem dL_misfit_13 : decode cL_misfit 13 = .ok (.astore 4, 2) := by decide +kernel
theorem dL_misfit_15 : decode cL_misfit 15 = .ok (.iconst 1, 1) := by decide +kernel
theorem dL_misfit_16 : decode cL_misfit 16 = .ok (.ireturn, 1) := by decide +kernel
theorem dL_misfit_17 : decode cL_misfit 17 = .ok (.iconst 0, 1) := by decide +kernel
theorem dL_misfit_18 : decode cL_misfit 18 = .ok (.ireturn, 1) := by decide +kernel
theorem dL_place_0 : decode cL_place 0 = .ok (.aload_n 3, 1) := by decide +kernel
theorem dL_place_1 : decode cL_place 1 = .ok (.iconst 0, 1) := by decide +kernel
theorem dL_place_2 : decode cL_place 2 = .ok (.aload_n 0, 1) := by decide +kernel
theorem dL_place_3 : decode cL_place 3 = .ok (.iload_n 1, 1) := by decide +kernel
theorem dL_place_4 : decode cL_place 4 = .ok (.iload_n 2, 1) := by decide +kernel
theorem dL_place_5 : decode cL_place 5 = .ok (.invokevirtual 58, 3) := by decide +kernel
theorem dL_place_8 : decode cL_place 8 = .ok (.i2l, 1) := by decide +kernel
theorem dL_place_9 : decode cL_place 9 = .ok (.lastore, 1) := by decide +kernel
theorem dL_place_10 : decode cL_place 10 = .ok (.goto 7, 3) := by decide +kernel
theorem dL_place_13 : decode cL_place 13 = .ok (.astore 4, 2) := by decide +kernel
theorem dL_place_15 : decode cL_place 15 = .ok (.iconst 1, 1) := by decide +kernel
theorem dL_place_16 : decode cL_place 16 = .ok (.ireturn, 1) := by decide +kernel
theorem dL_place_17 : decode cL_place 17 = .ok (.iconst 0, 1) := by decide +kernel
theorem dL_place_18 : decode cL_place 18 = .ok (.ireturn, 1) := by decide +kernel
theorem dL_rule_0 : decode cL_rule 0 = .ok (.aload_n 3, 1) := by decide +kernel
theorem dL_rule_1 : decode cL_rule 1 = .ok (.iconst 0, 1) := by decide +kernel
theorem dL_rule_2 : decode cL_rule 2 = .ok (.aload_n 0, 1) := by decide +kernel
theorem dL_rule_3 : decode cL_rule 3 = .ok (.iload_n 1, 1) := by decide +kernel
theorem dL_rule_4 : decode cL_rule 4 = .ok (.iload_n 2, 1) := by decide +kernel
theorem dL_rule_5 : decode cL_rule 5 = .ok (.invokevirtual 61, 3) := by decide +kernel
theorem dL_rule_8 : decode cL_rule 8 = .ok (.i2l, 1) := by decide +kernel
theorem dL_rule_9 : decode cL_rule 9 = .ok (.lastore, 1) := by decide +kernel
theorem dL_rule_10 : decode cL_rule 10 = .ok (.goto 11, 3) := by decide +kernel
theorem dL_rule_13 : decode cL_rule 13 = .ok (.astore 4, 2) := by decide +kernel
theorem dL_rule_15 : decode cL_rule 15 = .ok (.iconst 1, 1) := by decide +kernel
theorem dL_rule_16 : decode cL_rule 16 = .ok (.ireturn, 1) := by decide +kernel
theorem dL_rule_17 : decode cL_rule 17 = .ok (.astore 4, 2) := by decide +kernel
theorem dL_rule_19 : decode cL_rule 19 = .ok (.iconst 2, 1) := by decide +kernel
theorem dL_rule_20 : decode cL_rule 20 = .ok (.ireturn, 1) := by decide +kernel
theorem dL_rule_21 : decode cL_rule 21 = .ok (.iconst 0, 1) := by decide +kernel
theorem dL_rule_22 : decode cL_rule 22 = .ok (.ireturn, 1) := by decide +kernel
theorem dL_clash_0 : decode cL_clash 0 = .ok (.aload_n 2, 1) := by decide +kernel
theorem dL_clash_1 : decode cL_clash 1 = .ok (.iconst 0, 1) := by decide +kernel
theorem dL_clash_2 : decode cL_clash 2 = .ok (.aload_n 0, 1) := by decide +kernel
theorem dL_clash_3 : decode cL_clash 3 = .ok (.iload_n 1, 1) := by decide +kernel
theorem dL_clash_4 : decode cL_clash 4 = .ok (.invokevirtual 64, 3) := by decide +kernel
theorem dL_clash_7 : decode cL_clash 7 = .ok (.i2l, 1) := by decide +kernel
theorem dL_clash_8 : decode cL_clash 8 = .ok (.lastore, 1) := by decide +kernel
theorem dL_clash_9 : decode cL_clash 9 = .ok (.goto 6, 3) := by decide +kernel
theorem dL_clash_12 : decode cL_clash 12 = .ok (.astore_n 3, 1) := by decide +kernel
theorem dL_clash_13 : decode cL_clash 13 = .ok (.iconst 1, 1) := by decide +kernel
theorem dL_clash_14 : decode cL_clash 14 = .ok (.ireturn, 1) := by decide +kernel
theorem dL_clash_15 : decode cL_clash 15 = .ok (.iconst 0, 1) := by decide +kernel
theorem dL_clash_16 : decode cL_clash 16 = .ok (.ireturn, 1) := by decide +kernel
theorem dL_without_0 : decode cL_without 0 = .ok (.aload_n 3, 1) := by decide +kernel
theorem dL_without_1 : decode cL_without 1 = .ok (.iconst 0, 1) := by decide +kernel
theorem dL_without_2 : decode cL_without 2 = .ok (.aload_n 0, 1) := by decide +kernel
theorem dL_without_3 : decode cL_without 3 = .ok (.iload_n 1, 1) := by decide +kernel
theorem dL_without_4 : decode cL_without 4 = .ok (.iload_n 2, 1) := by decide +kernel
theorem dL_without_5 : decode cL_without 5 = .ok (.invokevirtual 67, 3) := by decide +kernel
theorem dL_without_8 : decode cL_without 8 = .ok (.i2l, 1) := by decide +kernel
theorem dL_without_9 : decode cL_without 9 = .ok (.lastore, 1) := by decide +kernel
theorem dL_without_10 : decode cL_without 10 = .ok (.goto 11, 3) := by decide +kernel
theorem dL_without_13 : decode cL_without 13 = .ok (.astore 4, 2) := by decide +kernel
theorem dL_without_15 : decode cL_without 15 = .ok (.iconst 1, 1) := by decide +kernel
theorem dL_without_16 : decode cL_without 16 = .ok (.ireturn, 1) := by decide +kernel
theorem dL_without_17 : decode cL_without 17 = .ok (.astore 4, 2) := by decide +kernel
theorem dL_without_19 : decode cL_without 19 = .ok (.iconst 2, 1) := by decide +kernel
theorem dL_without_20 : decode cL_without 20 = .ok (.ireturn, 1) := by decide +kernel
theorem dL_without_21 : decode cL_without 21 = .ok (.iconst 0, 1) := by decide +kernel
theorem dL_without_22 : decode cL_without 22 = .ok (.ireturn, 1) := by decide +kernel
theorem dL_pinned_0 : decode cL_pinned 0 = .ok (.aload 4, 2) := by decide +kernel
theorem dL_pinned_2 : decode cL_pinned 2 = .ok (.iconst 0, 1) := by decide +kernel
theorem dL_pinned_3 : decode cL_pinned 3 = .ok (.aload_n 0, 1) := by decide +kernel
theorem dL_pinned_4 : decode cL_pinned 4 = .ok (.iload_n 1, 1) := by decide +kernel
theorem dL_pinned_5 : decode cL_pinned 5 = .ok (.iload_n 2, 1) := by decide +kernel
theorem dL_pinned_6 : decode cL_pinned 6 = .ok (.iload_n 3, 1) := by decide +kernel
theorem dL_pinned_7 : decode cL_pinned 7 = .ok (.invokevirtual 70, 3) := by decide +kernel
theorem dL_pinned_10 : decode cL_pinned 10 = .ok (.i2l, 1) := by decide +kernel
theorem dL_pinned_11 : decode cL_pinned 11 = .ok (.lastore, 1) := by decide +kernel
theorem dL_pinned_12 : decode cL_pinned 12 = .ok (.goto 11, 3) := by decide +kernel
theorem dL_pinned_15 : decode cL_pinned 15 = .ok (.astore 5, 2) := by decide +kernel
theorem dL_pinned_17 : decode cL_pinned 17 = .ok (.iconst 1, 1) := by decide +kernel
theorem dL_pinned_18 : decode cL_pinned 18 = .ok (.ireturn, 1) := by decide +kernel
theorem dL_pinned_19 : decode cL_pinned 19 = .ok (.astore 5, 2) := by decide +kernel
theorem dL_pinned_21 : decode cL_pinned 21 = .ok (.iconst 2, 1) := by decide +kernel
theorem dL_pinned_22 : decode cL_pinned 22 = .ok (.ireturn, 1) := by decide +kernel
theorem dL_pinned_23 : decode cL_pinned 23 = .ok (.iconst 0, 1) := by decide +kernel
theorem dL_pinned_24 : decode cL_pinned 24 = .ok (.ireturn, 1) := by decide +kernel
theorem dL_doomed_0 : decode cL_doomed 0 = .ok (.aload_n 2, 1) := by decide +kernel
theorem dL_doomed_1 : decode cL_doomed 1 = .ok (.iconst 0, 1) := by decide +kernel
theorem dL_doomed_2 : decode cL_doomed 2 = .ok (.aload_n 0, 1) := by decide +kernel
theorem dL_doomed_3 : decode cL_doomed 3 = .ok (.iload_n 1, 1) := by decide +kernel
theorem dL_doomed_4 : decode cL_doomed 4 = .ok (.invokevirtual 73, 3) := by decide +kernel
theorem dL_doomed_7 : decode cL_doomed 7 = .ok (.i2l, 1) := by decide +kernel
theorem dL_doomed_8 : decode cL_doomed 8 = .ok (.lastore, 1) := by decide +kernel
theorem dL_doomed_9 : decode cL_doomed 9 = .ok (.goto 6, 3) := by decide +kernel
theorem dL_doomed_12 : decode cL_doomed 12 = .ok (.astore_n 3, 1) := by decide +kernel
theorem dL_doomed_13 : decode cL_doomed 13 = .ok (.iconst 1, 1) := by decide +kernel
theorem dL_doomed_14 : decode cL_doomed 14 = .ok (.ireturn, 1) := by decide +kernel
theorem dL_doomed_15 : decode cL_doomed 15 = .ok (.iconst 0, 1) := by decide +kernel
theorem dL_doomed_16 : decode cL_doomed 16 = .ok (.ireturn, 1) := by decide +kernel
theorem dL_phase_0 : decode cL_phase 0 = .ok (.aload_n 3, 1) := by decide +kernel
theorem dL_phase_1 : decode cL_phase 1 = .ok (.iconst 0, 1) := by decide +kernel
theorem dL_phase_2 : decode cL_phase 2 = .ok (.aload_n 0, 1) := by decide +kernel
theorem dL_phase_3 : decode cL_phase 3 = .ok (.iload_n 1, 1) := by decide +kernel
theorem dL_phase_4 : decode cL_phase 4 = .ok (.iload_n 2, 1) := by decide +kernel
theorem dL_phase_5 : decode cL_phase 5 = .ok (.invokevirtual 76, 3) := by decide +kernel
theorem dL_phase_8 : decode cL_phase 8 = .ok (.i2l, 1) := by decide +kernel
theorem dL_phase_9 : decode cL_phase 9 = .ok (.lastore, 1) := by decide +kernel
theorem dL_phase_10 : decode cL_phase 10 = .ok (.goto 11, 3) := by decide +kernel
theorem dL_phase_13 : decode cL_phase 13 = .ok (.astore 4, 2) := by decide +kernel
theorem dL_phase_15 : decode cL_phase 15 = .ok (.iconst 1, 1) := by decide +kernel
theorem dL_phase_16 : decode cL_phase 16 = .ok (.ireturn, 1) := by decide +kernel
theorem dL_phase_17 : decode cL_phase 17 = .ok (.astore 4, 2) := by decide +kernel
theorem dL_phase_19 : decode cL_phase 19 = .ok (.iconst 2, 1) := by decide +kernel
theorem dL_phase_20 : decode cL_phase 20 = .ok (.ireturn, 1) := by decide +kernel
theorem dL_phase_21 : decode cL_phase 21 = .ok (.iconst 0, 1) := by decide +kernel
theorem dL_phase_22 : decode cL_phase 22 = .ok (.ireturn, 1) := by decide +kernel
theorem dL_member_0 : decode cL_member 0 = .ok (.aload_n 3, 1) := by decide +kernel
theorem dL_member_1 : decode cL_member 1 = .ok (.iconst 0, 1) := by decide +kernel
theorem dL_member_2 : decode cL_member 2 = .ok (.aload_n 0, 1) := by decide +kernel
theorem dL_member_3 : decode cL_member 3 = .ok (.iload_n 1, 1) := by decide +kernel
theorem dL_member_4 : decode cL_member 4 = .ok (.iload_n 2, 1) := by decide +kernel
theorem dL_member_5 : decode cL_member 5 = .ok (.invokevirtual 79, 3) := by decide +kernel
theorem dL_member_8 : decode cL_member 8 = .ok (.i2l, 1) := by decide +kernel
theorem dL_member_9 : decode cL_member 9 = .ok (.lastore, 1) := by decide +kernel
theorem dL_member_10 : decode cL_member 10 = .ok (.goto 7, 3) := by decide +kernel
theorem dL_member_13 : decode cL_member 13 = .ok (.astore 4, 2) := by decide +kernel
theorem dL_member_15 : decode cL_member 15 = .ok (.iconst 1, 1) := by decide +kernel
theorem dL_member_16 : decode cL_member 16 = .ok (.ireturn, 1) := by decide +kernel
theorem dL_member_17 : decode cL_member 17 = .ok (.iconst 0, 1) := by decide +kernel
theorem dL_member_18 : decode cL_member 18 = .ok (.ireturn, 1) := by decide +kernel
theorem dL_trial_0 : decode cL_trial 0 = .ok (.aload_n 2, 1) := by decide +kernel
theorem dL_trial_1 : decode cL_trial 1 = .ok (.iconst 0, 1) := by decide +kernel
theorem dL_trial_2 : decode cL_trial 2 = .ok (.aload_n 0, 1) := by decide +kernel
theorem dL_trial_3 : decode cL_trial 3 = .ok (.iload_n 1, 1) := by decide +kernel
theorem dL_trial_4 : decode cL_trial 4 = .ok (.invokevirtual 82, 3) := by decide +kernel
theorem dL_trial_7 : decode cL_trial 7 = .ok (.i2l, 1) := by decide +kernel
theorem dL_trial_8 : decode cL_trial 8 = .ok (.lastore, 1) := by decide +kernel
theorem dL_trial_9 : decode cL_trial 9 = .ok (.goto 6, 3) := by decide +kernel
theorem dL_trial_12 : decode cL_trial 12 = .ok (.astore_n 3, 1) := by decide +kernel
theorem dL_trial_13 : decode cL_trial 13 = .ok (.iconst 1, 1) := by decide +kernel
theorem dL_trial_14 : decode cL_trial 14 = .ok (.ireturn, 1) := by decide +kernel
theorem dL_trial_15 : decode cL_trial 15 = .ok (.iconst 0, 1) := by decide +kernel
theorem dL_trial_16 : decode cL_trial 16 = .ok (.ireturn, 1) := by decide +kernel
theorem dL_tried_0 : decode cL_tried 0 = .ok (.aload_n 2, 1) := by decide +kernel
theorem dL_tried_1 : decode cL_tried 1 = .ok (.iconst 0, 1) := by decide +kernel
theorem dL_tried_2 : decode cL_tried 2 = .ok (.aload_n 0, 1) := by decide +kernel
theorem dL_tried_3 : decode cL_tried 3 = .ok (.iload_n 1, 1) := by decide +kernel
theorem dL_tried_4 : decode cL_tried 4 = .ok (.invokevirtual 85, 3) := by decide +kernel
theorem dL_tried_7 : decode cL_tried 7 = .ok (.i2l, 1) := by decide +kernel
theorem dL_tried_8 : decode cL_tried 8 = .ok (.lastore, 1) := by decide +kernel
theorem dL_tried_9 : decode cL_tried 9 = .ok (.goto 6, 3) := by decide +kernel
theorem dL_tried_12 : decode cL_tried 12 = .ok (.astore_n 3, 1) := by decide +kernel
theorem dL_tried_13 : decode cL_tried 13 = .ok (.iconst 1, 1) := by decide +kernel
theorem dL_tried_14 : decode cL_tried 14 = .ok (.ireturn, 1) := by decide +kernel
theorem dL_tried_15 : decode cL_tried 15 = .ok (.iconst 0, 1) := by decide +kernel
theorem dL_tried_16 : decode cL_tried 16 = .ok (.ireturn, 1) := by decide +kernel
theorem dL_law_0 : decode cL_law 0 = .ok (.new 8, 3) := by decide +kernel
theorem dL_law_3 : decode cL_law 3 = .ok (.dup, 1) := by decide +kernel
theorem dL_law_4 : decode cL_law 4 = .ok (.invokespecial 88, 3) := by decide +kernel
theorem dL_law_7 : decode cL_law 7 = .ok (.astore_n 1, 1) := by decide +kernel
theorem dL_law_8 : decode cL_law 8 = .ok (.new 89, 3) := by decide +kernel
theorem dL_law_11 : decode cL_law 11 = .ok (.dup, 1) := by decide +kernel
theorem dL_law_12 : decode cL_law 12 = .ok (.invokespecial 91, 3) := by decide +kernel
theorem dL_law_15 : decode cL_law 15 = .ok (.astore_n 2, 1) := by decide +kernel
theorem dL_law_16 : decode cL_law 16 = .ok (.iconst 1, 1) := by decide +kernel
theorem dL_law_17 : decode cL_law 17 = .ok (.newarray .long, 2) := by decide +kernel
theorem dL_law_19 : decode cL_law 19 = .ok (.astore_n 3, 1) := by decide +kernel
theorem dL_law_20 : decode cL_law 20 = .ok (.iconst 0, 1) := by decide +kernel
theorem dL_law_21 : decode cL_law 21 = .ok (.istore 4, 2) := by decide +kernel
theorem dL_law_23 : decode cL_law 23 = .ok (.iload 4, 2) := by decide +kernel
theorem dL_law_25 : decode cL_law 25 = .ok (.aload_n 0, 1) := by decide +kernel
theorem dL_law_26 : decode cL_law 26 = .ok (.arraylength, 1) := by decide +kernel
theorem dL_law_27 : decode cL_law 27 = .ok (.bipush 6, 2) := by decide +kernel
theorem dL_law_29 : decode cL_law 29 = .ok (.isub, 1) := by decide +kernel
theorem dL_law_30 : decode cL_law 30 = .ok (.if_icmp .gt 1890, 3) := by decide +kernel
theorem dL_law_33 : decode cL_law 33 = .ok (.aload_n 0, 1) := by decide +kernel
theorem dL_law_34 : decode cL_law 34 = .ok (.iload 4, 2) := by decide +kernel
theorem dL_law_36 : decode cL_law 36 = .ok (.iaload, 1) := by decide +kernel
theorem dL_law_37 : decode cL_law 37 = .ok (.bipush 31, 2) := by decide +kernel
theorem dL_law_39 : decode cL_law 39 = .ok (.iand, 1) := by decide +kernel
theorem dL_law_40 : decode cL_law 40 = .ok (.tableswitch 1874 0 31 #[144, 217, 273, 286, 354, 434, 526, 606, 662, 675, 731, 787, 855, 923, 991, 1071, 1139, 1207, 1275, 1331, 1344, 1357, 1425, 1505, 1561, 1629, 1697, 1753, 1809, 1822, 1835, 1849], 144) := by decide +kernel
theorem dL_law_184 : decode cL_law 184 = .ok (.aload_n 1, 1) := by decide +kernel
theorem dL_law_185 : decode cL_law 185 = .ok (.aload_n 0, 1) := by decide +kernel
theorem dL_law_186 : decode cL_law 186 = .ok (.iload 4, 2) := by decide +kernel
theorem dL_law_188 : decode cL_law 188 = .ok (.iconst 1, 1) := by decide +kernel
theorem dL_law_189 : decode cL_law 189 = .ok (.iadd, 1) := by decide +kernel
theorem dL_law_190 : decode cL_law 190 = .ok (.iaload, 1) := by decide +kernel
theorem dL_law_191 : decode cL_law 191 = .ok (.aload_n 0, 1) := by decide +kernel
theorem dL_law_192 : decode cL_law 192 = .ok (.iload 4, 2) := by decide +kernel
theorem dL_law_194 : decode cL_law 194 = .ok (.iconst 2, 1) := by decide +kernel
theorem dL_law_195 : decode cL_law 195 = .ok (.iadd, 1) := by decide +kernel
theorem dL_law_196 : decode cL_law 196 = .ok (.iaload, 1) := by decide +kernel
theorem dL_law_197 : decode cL_law 197 = .ok (.aload_n 0, 1) := by decide +kernel
theorem dL_law_198 : decode cL_law 198 = .ok (.iload 4, 2) := by decide +kernel
theorem dL_law_200 : decode cL_law 200 = .ok (.iconst 3, 1) := by decide +kernel
theorem dL_law_201 : decode cL_law 201 = .ok (.iadd, 1) := by decide +kernel
theorem dL_law_202 : decode cL_law 202 = .ok (.iaload, 1) := by decide +kernel
theorem dL_law_203 : decode cL_law 203 = .ok (.aload_n 0, 1) := by decide +kernel
theorem dL_law_204 : decode cL_law 204 = .ok (.iload 4, 2) := by decide +kernel
theorem dL_law_206 : decode cL_law 206 = .ok (.iconst 4, 1) := by decide +kernel
theorem dL_law_207 : decode cL_law 207 = .ok (.iadd, 1) := by decide +kernel
theorem dL_law_208 : decode cL_law 208 = .ok (.iaload, 1) := by decide +kernel
theorem dL_law_209 : decode cL_law 209 = .ok (.aload_n 0, 1) := by decide +kernel
theorem dL_law_210 : decode cL_law 210 = .ok (.iload 4, 2) := by decide +kernel
theorem dL_law_212 : decode cL_law 212 = .ok (.iconst 5, 1) := by decide +kernel
theorem dL_law_213 : decode cL_law 213 = .ok (.iadd, 1) := by decide +kernel
theorem dL_law_214 : decode cL_law 214 = .ok (.iaload, 1) := by decide +kernel
theorem dL_law_215 : decode cL_law 215 = .ok (.invokevirtual 92, 3) := by decide +kernel
theorem dL_law_218 : decode cL_law 218 = .ok (.aload_n 2, 1) := by decide +kernel
theorem dL_law_219 : decode cL_law 219 = .ok (.aload_n 0, 1) := by decide +kernel
theorem dL_law_220 : decode cL_law 220 = .ok (.iload 4, 2) := by decide +kernel
theorem dL_law_222 : decode cL_law 222 = .ok (.iconst 1, 1) := by decide +kernel
theorem dL_law_223 : decode cL_law 223 = .ok (.iadd, 1) := by decide +kernel
theorem dL_law_224 : decode cL_law 224 = .ok (.iaload, 1) := by decide +kernel
theorem dL_law_225 : decode cL_law 225 = .ok (.aload_n 0, 1) := by decide +kernel
theorem dL_law_226 : decode cL_law 226 = .ok (.iload 4, 2) := by decide +kernel
theorem dL_law_228 : decode cL_law 228 = .ok (.iconst 2, 1) := by decide +kernel
theorem dL_law_229 : decode cL_law 229 = .ok (.iadd, 1) := by decide +kernel
theorem dL_law_230 : decode cL_law 230 = .ok (.iaload, 1) := by decide +kernel
theorem dL_law_231 : decode cL_law 231 = .ok (.aload_n 0, 1) := by decide +kernel
theorem dL_law_232 : decode cL_law 232 = .ok (.iload 4, 2) := by decide +kernel
theorem dL_law_234 : decode cL_law 234 = .ok (.iconst 3, 1) := by decide +kernel
theorem dL_law_235 : decode cL_law 235 = .ok (.iadd, 1) := by decide +kernel
theorem dL_law_236 : decode cL_law 236 = .ok (.iaload, 1) := by decide +kernel
theorem dL_law_237 : decode cL_law 237 = .ok (.aload_n 0, 1) := by decide +kernel
theorem dL_law_238 : decode cL_law 238 = .ok (.iload 4, 2) := by decide +kernel
theorem dL_law_240 : decode cL_law 240 = .ok (.iconst 4, 1) := by decide +kernel
theorem dL_law_241 : decode cL_law 241 = .ok (.iadd, 1) := by decide +kernel
theorem dL_law_242 : decode cL_law 242 = .ok (.iaload, 1) := by decide +kernel
theorem dL_law_243 : decode cL_law 243 = .ok (.aload_n 0, 1) := by decide +kernel
theorem dL_law_244 : decode cL_law 244 = .ok (.iload 4, 2) := by decide +kernel
theorem dL_law_246 : decode cL_law 246 = .ok (.iconst 5, 1) := by decide +kernel
theorem dL_law_247 : decode cL_law 247 = .ok (.iadd, 1) := by decide +kernel
theorem dL_law_248 : decode cL_law 248 = .ok (.iaload, 1) := by decide +kernel
theorem dL_law_249 : decode cL_law 249 = .ok (.invokevirtual 96, 3) := by decide +kernel
theorem dL_law_252 : decode cL_law 252 = .ok (.if_icmp .eq 1662, 3) := by decide +kernel
theorem dL_law_255 : decode cL_law 255 = .ok (.iconst 0, 1) := by decide +kernel
theorem dL_law_256 : decode cL_law 256 = .ok (.ireturn, 1) := by decide +kernel
theorem dL_law_257 : decode cL_law 257 = .ok (.aload_n 1, 1) := by decide +kernel
theorem dL_law_258 : decode cL_law 258 = .ok (.aload_n 0, 1) := by decide +kernel
theorem dL_law_259 : decode cL_law 259 = .ok (.iload 4, 2) := by decide +kernel
theorem dL_law_261 : decode cL_law 261 = .ok (.iconst 1, 1) := by decide +kernel
theorem dL_law_262 : decode cL_law 262 = .ok (.iadd, 1) := by decide +kernel
theorem dL_law_263 : decode cL_law 263 = .ok (.iaload, 1) := by decide +kernel
theorem dL_law_264 : decode cL_law 264 = .ok (.aload_n 3, 1) := by decide +kernel
theorem dL_law_265 : decode cL_law 265 = .ok (.invokestatic 97, 3) := by decide +kernel
theorem dL_law_268 : decode cL_law 268 = .ok (.istore 5, 2) := by decide +kernel
theorem dL_law_270 : decode cL_law 270 = .ok (.aload_n 2, 1) := by decide +kernel
theorem dL_law_271 : decode cL_law 271 = .ok (.aload_n 0, 1) := by decide +kernel
theorem dL_law_272 : decode cL_law 272 = .ok (.iload 4, 2) := by decide +kernel
theorem dL_law_274 : decode cL_law 274 = .ok (.iconst 1, 1) := by decide +kernel
theorem dL_law_275 : decode cL_law 275 = .ok (.iadd, 1) := by decide +kernel
theorem dL_law_276 : decode cL_law 276 = .ok (.iaload, 1) := by decide +kernel
theorem dL_law_277 : decode cL_law 277 = .ok (.invokevirtual 102, 3) := by decide +kernel
theorem dL_law_280 : decode cL_law 280 = .ok (.istore 6, 2) := by decide +kernel
theorem dL_law_282 : decode cL_law 282 = .ok (.aload_n 2, 1) := by decide +kernel
theorem dL_law_283 : decode cL_law 283 = .ok (.invokevirtual 103, 3) := by decide +kernel
theorem dL_law_286 : decode cL_law 286 = .ok (.iload 5, 2) := by decide +kernel
theorem dL_law_288 : decode cL_law 288 = .ok (.if_icmp .eq 5, 3) := by decide +kernel
theorem dL_law_291 : decode cL_law 291 = .ok (.iconst 0, 1) := by decide +kernel
theorem dL_law_292 : decode cL_law 292 = .ok (.ireturn, 1) := by decide +kernel
theorem dL_law_293 : decode cL_law 293 = .ok (.iload 5, 2) := by decide +kernel
theorem dL_law_295 : decode cL_law 295 = .ok (.ifCond .ne 15, 3) := by decide +kernel
theorem dL_law_298 : decode cL_law 298 = .ok (.aload_n 3, 1) := by decide +kernel
theorem dL_law_299 : decode cL_law 299 = .ok (.iconst 0, 1) := by decide +kernel
theorem dL_law_300 : decode cL_law 300 = .ok (.laload, 1) := by decide +kernel
theorem dL_law_301 : decode cL_law 301 = .ok (.iload 6, 2) := by decide +kernel
theorem dL_law_303 : decode cL_law 303 = .ok (.i2l, 1) := by decide +kernel
theorem dL_law_304 : decode cL_law 304 = .ok (.lcmp, 1) := by decide +kernel
theorem dL_law_305 : decode cL_law 305 = .ok (.ifCond .eq 5, 3) := by decide +kernel
theorem dL_law_308 : decode cL_law 308 = .ok (.iconst 0, 1) := by decide +kernel
theorem dL_law_309 : decode cL_law 309 = .ok (.ireturn, 1) := by decide +kernel
theorem dL_law_310 : decode cL_law 310 = .ok (.goto 1604, 3) := by decide +kernel
theorem dL_law_313 : decode cL_law 313 = .ok (.aload_n 1, 1) := by decide +kernel
theorem dL_law_314 : decode cL_law 314 = .ok (.invokevirtual 107, 3) := by decide +kernel
theorem dL_law_317 : decode cL_law 317 = .ok (.aload_n 2, 1) := by decide +kernel
theorem dL_law_318 : decode cL_law 318 = .ok (.invokevirtual 110, 3) := by decide +kernel
theorem dL_law_321 : decode cL_law 321 = .ok (.if_icmp .eq 1593, 3) := by decide +kernel
theorem dL_law_324 : decode cL_law 324 = .ok (.iconst 0, 1) := by decide +kernel
theorem dL_law_325 : decode cL_law 325 = .ok (.ireturn, 1) := by decide +kernel
theorem dL_law_326 : decode cL_law 326 = .ok (.aload_n 1, 1) := by decide +kernel
theorem dL_law_327 : decode cL_law 327 = .ok (.aload_n 0, 1) := by decide +kernel
theorem dL_law_328 : decode cL_law 328 = .ok (.iload 4, 2) := by decide +kernel
theorem dL_law_330 : decode cL_law 330 = .ok (.iconst 1, 1) := by decide +kernel
theorem dL_law_331 : decode cL_law 331 = .ok (.iadd, 1) := by decide +kernel
theorem dL_law_332 : decode cL_law 332 = .ok (.iaload, 1) := by decide +kernel
theorem dL_law_333 : decode cL_law 333 = .ok (.aload_n 0, 1) := by decide +kernel
theorem dL_law_334 : decode cL_law 334 = .ok (.iload 4, 2) := by decide +kernel
theorem dL_law_336 : decode cL_law 336 = .ok (.iconst 2, 1) := by decide +kernel
theorem dL_law_337 : decode cL_law 337 = .ok (.iadd, 1) := by decide +kernel
theorem dL_law_338 : decode cL_law 338 = .ok (.iaload, 1) := by decide +kernel
theorem dL_law_339 : decode cL_law 339 = .ok (.aload_n 3, 1) := by decide +kernel
theorem dL_law_340 : decode cL_law 340 = .ok (.invokestatic 111, 3) := by decide +kernel
theorem dL_law_343 : decode cL_law 343 = .ok (.istore 5, 2) := by decide +kernel
theorem dL_law_345 : decode cL_law 345 = .ok (.aload_n 2, 1) := by decide +kernel
theorem dL_law_346 : decode cL_law 346 = .ok (.aload_n 0, 1) := by decide +kernel
theorem dL_law_347 : decode cL_law 347 = .ok (.iload 4, 2) := by decide +kernel
theorem dL_law_349 : decode cL_law 349 = .ok (.iconst 1, 1) := by decide +kernel
theorem dL_law_350 : decode cL_law 350 = .ok (.iadd, 1) := by decide +kernel
theorem dL_law_351 : decode cL_law 351 = .ok (.iaload, 1) := by decide +kernel
theorem dL_law_352 : decode cL_law 352 = .ok (.aload_n 0, 1) := by decide +kernel
theorem dL_law_353 : decode cL_law 353 = .ok (.iload 4, 2) := by decide +kernel
theorem dL_law_355 : decode cL_law 355 = .ok (.iconst 2, 1) := by decide +kernel
theorem dL_law_356 : decode cL_law 356 = .ok (.iadd, 1) := by decide +kernel
theorem dL_law_357 : decode cL_law 357 = .ok (.iaload, 1) := by decide +kernel
theorem dL_law_358 : decode cL_law 358 = .ok (.invokevirtual 114, 3) := by decide +kernel
theorem dL_law_361 : decode cL_law 361 = .ok (.istore 6, 2) := by decide +kernel
theorem dL_law_363 : decode cL_law 363 = .ok (.aload_n 2, 1) := by decide +kernel
theorem dL_law_364 : decode cL_law 364 = .ok (.invokevirtual 103, 3) := by decide +kernel
theorem dL_law_367 : decode cL_law 367 = .ok (.iload 5, 2) := by decide +kernel
theorem dL_law_369 : decode cL_law 369 = .ok (.if_icmp .eq 5, 3) := by decide +kernel
theorem dL_law_372 : decode cL_law 372 = .ok (.iconst 0, 1) := by decide +kernel
theorem dL_law_373 : decode cL_law 373 = .ok (.ireturn, 1) := by decide +kernel
theorem dL_law_374 : decode cL_law 374 = .ok (.iload 5, 2) := by decide +kernel
theorem dL_law_376 : decode cL_law 376 = .ok (.ifCond .ne 15, 3) := by decide +kernel
theorem dL_law_379 : decode cL_law 379 = .ok (.aload_n 3, 1) := by decide +kernel
theorem dL_law_380 : decode cL_law 380 = .ok (.iconst 0, 1) := by decide +kernel
theorem dL_law_381 : decode cL_law 381 = .ok (.laload, 1) := by decide +kernel
theorem dL_law_382 : decode cL_law 382 = .ok (.iload 6, 2) := by decide +kernel
theorem dL_law_384 : decode cL_law 384 = .ok (.i2l, 1) := by decide +kernel
theorem dL_law_385 : decode cL_law 385 = .ok (.lcmp, 1) := by decide +kernel
theorem dL_law_386 : decode cL_law 386 = .ok (.ifCond .eq 5, 3) := by decide +kernel
theorem dL_law_389 : decode cL_law 389 = .ok (.iconst 0, 1) := by decide +kernel
theorem dL_law_390 : decode cL_law 390 = .ok (.ireturn, 1) := by decide +kernel
theorem dL_law_391 : decode cL_law 391 = .ok (.goto 1523, 3) := by decide +kernel
theorem dL_law_394 : decode cL_law 394 = .ok (.aload_n 1, 1) := by decide +kernel
theorem dL_law_395 : decode cL_law 395 = .ok (.aload_n 0, 1) := by decide +kernel
theorem dL_law_396 : decode cL_law 396 = .ok (.iload 4, 2) := by decide +kernel
theorem dL_law_398 : decode cL_law 398 = .ok (.iconst 1, 1) := by decide +kernel
theorem dL_law_399 : decode cL_law 399 = .ok (.iadd, 1) := by decide +kernel
theorem dL_law_400 : decode cL_law 400 = .ok (.iaload, 1) := by decide +kernel
theorem dL_law_401 : decode cL_law 401 = .ok (.aload_n 0, 1) := by decide +kernel
theorem dL_law_402 : decode cL_law 402 = .ok (.iload 4, 2) := by decide +kernel
theorem dL_law_404 : decode cL_law 404 = .ok (.iconst 2, 1) := by decide +kernel
theorem dL_law_405 : decode cL_law 405 = .ok (.iadd, 1) := by decide +kernel
theorem dL_law_406 : decode cL_law 406 = .ok (.iaload, 1) := by decide +kernel
theorem dL_law_407 : decode cL_law 407 = .ok (.aload_n 0, 1) := by decide +kernel
theorem dL_law_408 : decode cL_law 408 = .ok (.iload 4, 2) := by decide +kernel
theorem dL_law_410 : decode cL_law 410 = .ok (.iconst 3, 1) := by decide +kernel
theorem dL_law_411 : decode cL_law 411 = .ok (.iadd, 1) := by decide +kernel
theorem dL_law_412 : decode cL_law 412 = .ok (.iaload, 1) := by decide +kernel
theorem dL_law_413 : decode cL_law 413 = .ok (.aload_n 3, 1) := by decide +kernel
theorem dL_law_414 : decode cL_law 414 = .ok (.invokestatic 115, 3) := by decide +kernel
theorem dL_law_417 : decode cL_law 417 = .ok (.istore 5, 2) := by decide +kernel
theorem dL_law_419 : decode cL_law 419 = .ok (.aload_n 2, 1) := by decide +kernel
theorem dL_law_420 : decode cL_law 420 = .ok (.aload_n 0, 1) := by decide +kernel
theorem dL_law_421 : decode cL_law 421 = .ok (.iload 4, 2) := by decide +kernel
theorem dL_law_423 : decode cL_law 423 = .ok (.iconst 1, 1) := by decide +kernel
theorem dL_law_424 : decode cL_law 424 = .ok (.iadd, 1) := by decide +kernel
theorem dL_law_425 : decode cL_law 425 = .ok (.iaload, 1) := by decide +kernel
theorem dL_law_426 : decode cL_law 426 = .ok (.aload_n 0, 1) := by decide +kernel
theorem dL_law_427 : decode cL_law 427 = .ok (.iload 4, 2) := by decide +kernel
theorem dL_law_429 : decode cL_law 429 = .ok (.iconst 2, 1) := by decide +kernel
theorem dL_law_430 : decode cL_law 430 = .ok (.iadd, 1) := by decide +kernel
theorem dL_law_431 : decode cL_law 431 = .ok (.iaload, 1) := by decide +kernel
theorem dL_law_432 : decode cL_law 432 = .ok (.aload_n 0, 1) := by decide +kernel
theorem dL_law_433 : decode cL_law 433 = .ok (.iload 4, 2) := by decide +kernel
theorem dL_law_435 : decode cL_law 435 = .ok (.iconst 3, 1) := by decide +kernel
theorem dL_law_436 : decode cL_law 436 = .ok (.iadd, 1) := by decide +kernel
theorem dL_law_437 : decode cL_law 437 = .ok (.iaload, 1) := by decide +kernel
theorem dL_law_438 : decode cL_law 438 = .ok (.invokevirtual 118, 3) := by decide +kernel
theorem dL_law_441 : decode cL_law 441 = .ok (.istore 6, 2) := by decide +kernel
theorem dL_law_443 : decode cL_law 443 = .ok (.aload_n 2, 1) := by decide +kernel
theorem dL_law_444 : decode cL_law 444 = .ok (.invokevirtual 103, 3) := by decide +kernel
theorem dL_law_447 : decode cL_law 447 = .ok (.iload 5, 2) := by decide +kernel
theorem dL_law_449 : decode cL_law 449 = .ok (.if_icmp .eq 5, 3) := by decide +kernel
theorem dL_law_452 : decode cL_law 452 = .ok (.iconst 0, 1) := by decide +kernel
theorem dL_law_453 : decode cL_law 453 = .ok (.ireturn, 1) := by decide +kernel
theorem dL_law_454 : decode cL_law 454 = .ok (.iload 5, 2) := by decide +kernel
theorem dL_law_456 : decode cL_law 456 = .ok (.ifCond .ne 15, 3) := by decide +kernel
theorem dL_law_459 : decode cL_law 459 = .ok (.aload_n 3, 1) := by decide +kernel
theorem dL_law_460 : decode cL_law 460 = .ok (.iconst 0, 1) := by decide +kernel
theorem dL_law_461 : decode cL_law 461 = .ok (.laload, 1) := by decide +kernel
theorem dL_law_462 : decode cL_law 462 = .ok (.iload 6, 2) := by decide +kernel
theorem dL_law_464 : decode cL_law 464 = .ok (.i2l, 1) := by decide +kernel
theorem dL_law_465 : decode cL_law 465 = .ok (.lcmp, 1) := by decide +kernel
theorem dL_law_466 : decode cL_law 466 = .ok (.ifCond .eq 5, 3) := by decide +kernel
theorem dL_law_469 : decode cL_law 469 = .ok (.iconst 0, 1) := by decide +kernel
theorem dL_law_470 : decode cL_law 470 = .ok (.ireturn, 1) := by decide +kernel
theorem dL_law_471 : decode cL_law 471 = .ok (.goto 1443, 3) := by decide +kernel
theorem dL_law_474 : decode cL_law 474 = .ok (.aload_n 1, 1) := by decide +kernel
theorem dL_law_475 : decode cL_law 475 = .ok (.aload_n 0, 1) := by decide +kernel
theorem dL_law_476 : decode cL_law 476 = .ok (.iload 4, 2) := by decide +kernel
theorem dL_law_478 : decode cL_law 478 = .ok (.iconst 1, 1) := by decide +kernel
theorem dL_law_479 : decode cL_law 479 = .ok (.iadd, 1) := by decide +kernel
theorem dL_law_480 : decode cL_law 480 = .ok (.iaload, 1) := by decide +kernel
theorem dL_law_481 : decode cL_law 481 = .ok (.aload_n 0, 1) := by decide +kernel
theorem dL_law_482 : decode cL_law 482 = .ok (.iload 4, 2) := by decide +kernel
theorem dL_law_484 : decode cL_law 484 = .ok (.iconst 2, 1) := by decide +kernel
theorem dL_law_485 : decode cL_law 485 = .ok (.iadd, 1) := by decide +kernel
theorem dL_law_486 : decode cL_law 486 = .ok (.iaload, 1) := by decide +kernel
theorem dL_law_487 : decode cL_law 487 = .ok (.aload_n 0, 1) := by decide +kernel
theorem dL_law_488 : decode cL_law 488 = .ok (.iload 4, 2) := by decide +kernel
theorem dL_law_490 : decode cL_law 490 = .ok (.iconst 3, 1) := by decide +kernel
theorem dL_law_491 : decode cL_law 491 = .ok (.iadd, 1) := by decide +kernel
theorem dL_law_492 : decode cL_law 492 = .ok (.iaload, 1) := by decide +kernel
theorem dL_law_493 : decode cL_law 493 = .ok (.aload_n 0, 1) := by decide +kernel
theorem dL_law_494 : decode cL_law 494 = .ok (.iload 4, 2) := by decide +kernel
theorem dL_law_496 : decode cL_law 496 = .ok (.iconst 4, 1) := by decide +kernel
theorem dL_law_497 : decode cL_law 497 = .ok (.iadd, 1) := by decide +kernel
theorem dL_law_498 : decode cL_law 498 = .ok (.iaload, 1) := by decide +kernel
theorem dL_law_499 : decode cL_law 499 = .ok (.aload_n 3, 1) := by decide +kernel
theorem dL_law_500 : decode cL_law 500 = .ok (.invokestatic 119, 3) := by decide +kernel
theorem dL_law_503 : decode cL_law 503 = .ok (.istore 5, 2) := by decide +kernel
theorem dL_law_505 : decode cL_law 505 = .ok (.aload_n 2, 1) := by decide +kernel
theorem dL_law_506 : decode cL_law 506 = .ok (.aload_n 0, 1) := by decide +kernel
theorem dL_law_507 : decode cL_law 507 = .ok (.iload 4, 2) := by decide +kernel
theorem dL_law_509 : decode cL_law 509 = .ok (.iconst 1, 1) := by decide +kernel
theorem dL_law_510 : decode cL_law 510 = .ok (.iadd, 1) := by decide +kernel
theorem dL_law_511 : decode cL_law 511 = .ok (.iaload, 1) := by decide +kernel
theorem dL_law_512 : decode cL_law 512 = .ok (.aload_n 0, 1) := by decide +kernel
theorem dL_law_513 : decode cL_law 513 = .ok (.iload 4, 2) := by decide +kernel
theorem dL_law_515 : decode cL_law 515 = .ok (.iconst 2, 1) := by decide +kernel
theorem dL_law_516 : decode cL_law 516 = .ok (.iadd, 1) := by decide +kernel
theorem dL_law_517 : decode cL_law 517 = .ok (.iaload, 1) := by decide +kernel
theorem dL_law_518 : decode cL_law 518 = .ok (.aload_n 0, 1) := by decide +kernel
theorem dL_law_519 : decode cL_law 519 = .ok (.iload 4, 2) := by decide +kernel
theorem dL_law_521 : decode cL_law 521 = .ok (.iconst 3, 1) := by decide +kernel
theorem dL_law_522 : decode cL_law 522 = .ok (.iadd, 1) := by decide +kernel
theorem dL_law_523 : decode cL_law 523 = .ok (.iaload, 1) := by decide +kernel
theorem dL_law_524 : decode cL_law 524 = .ok (.aload_n 0, 1) := by decide +kernel
theorem dL_law_525 : decode cL_law 525 = .ok (.iload 4, 2) := by decide +kernel
theorem dL_law_527 : decode cL_law 527 = .ok (.iconst 4, 1) := by decide +kernel
theorem dL_law_528 : decode cL_law 528 = .ok (.iadd, 1) := by decide +kernel
theorem dL_law_529 : decode cL_law 529 = .ok (.iaload, 1) := by decide +kernel
theorem dL_law_530 : decode cL_law 530 = .ok (.invokevirtual 122, 3) := by decide +kernel
theorem dL_law_533 : decode cL_law 533 = .ok (.istore 6, 2) := by decide +kernel
theorem dL_law_535 : decode cL_law 535 = .ok (.aload_n 2, 1) := by decide +kernel
theorem dL_law_536 : decode cL_law 536 = .ok (.invokevirtual 103, 3) := by decide +kernel
theorem dL_law_539 : decode cL_law 539 = .ok (.iload 5, 2) := by decide +kernel
theorem dL_law_541 : decode cL_law 541 = .ok (.if_icmp .eq 5, 3) := by decide +kernel
theorem dL_law_544 : decode cL_law 544 = .ok (.iconst 0, 1) := by decide +kernel
theorem dL_law_545 : decode cL_law 545 = .ok (.ireturn, 1) := by decide +kernel
theorem dL_law_546 : decode cL_law 546 = .ok (.iload 5, 2) := by decide +kernel
theorem dL_law_548 : decode cL_law 548 = .ok (.ifCond .ne 15, 3) := by decide +kernel
theorem dL_law_551 : decode cL_law 551 = .ok (.aload_n 3, 1) := by decide +kernel
theorem dL_law_552 : decode cL_law 552 = .ok (.iconst 0, 1) := by decide +kernel
theorem dL_law_553 : decode cL_law 553 = .ok (.laload, 1) := by decide +kernel
theorem dL_law_554 : decode cL_law 554 = .ok (.iload 6, 2) := by decide +kernel
theorem dL_law_556 : decode cL_law 556 = .ok (.i2l, 1) := by decide +kernel
theorem dL_law_557 : decode cL_law 557 = .ok (.lcmp, 1) := by decide +kernel
theorem dL_law_558 : decode cL_law 558 = .ok (.ifCond .eq 5, 3) := by decide +kernel
theorem dL_law_561 : decode cL_law 561 = .ok (.iconst 0, 1) := by decide +kernel
theorem dL_law_562 : decode cL_law 562 = .ok (.ireturn, 1) := by decide +kernel
theorem dL_law_563 : decode cL_law 563 = .ok (.goto 1351, 3) := by decide +kernel
theorem dL_law_566 : decode cL_law 566 = .ok (.aload_n 1, 1) := by decide +kernel
theorem dL_law_567 : decode cL_law 567 = .ok (.aload_n 0, 1) := by decide +kernel
theorem dL_law_568 : decode cL_law 568 = .ok (.iload 4, 2) := by decide +kernel
theorem dL_law_570 : decode cL_law 570 = .ok (.iconst 1, 1) := by decide +kernel
theorem dL_law_571 : decode cL_law 571 = .ok (.iadd, 1) := by decide +kernel
theorem dL_law_572 : decode cL_law 572 = .ok (.iaload, 1) := by decide +kernel
theorem dL_law_573 : decode cL_law 573 = .ok (.aload_n 0, 1) := by decide +kernel
theorem dL_law_574 : decode cL_law 574 = .ok (.iload 4, 2) := by decide +kernel
theorem dL_law_576 : decode cL_law 576 = .ok (.iconst 2, 1) := by decide +kernel
theorem dL_law_577 : decode cL_law 577 = .ok (.iadd, 1) := by decide +kernel
theorem dL_law_578 : decode cL_law 578 = .ok (.iaload, 1) := by decide +kernel
theorem dL_law_579 : decode cL_law 579 = .ok (.aload_n 0, 1) := by decide +kernel
theorem dL_law_580 : decode cL_law 580 = .ok (.iload 4, 2) := by decide +kernel
theorem dL_law_582 : decode cL_law 582 = .ok (.iconst 3, 1) := by decide +kernel
theorem dL_law_583 : decode cL_law 583 = .ok (.iadd, 1) := by decide +kernel
theorem dL_law_584 : decode cL_law 584 = .ok (.iaload, 1) := by decide +kernel
theorem dL_law_585 : decode cL_law 585 = .ok (.aload_n 3, 1) := by decide +kernel
theorem dL_law_586 : decode cL_law 586 = .ok (.invokestatic 123, 3) := by decide +kernel
theorem dL_law_589 : decode cL_law 589 = .ok (.istore 5, 2) := by decide +kernel
theorem dL_law_591 : decode cL_law 591 = .ok (.aload_n 2, 1) := by decide +kernel
theorem dL_law_592 : decode cL_law 592 = .ok (.aload_n 0, 1) := by decide +kernel
theorem dL_law_593 : decode cL_law 593 = .ok (.iload 4, 2) := by decide +kernel
theorem dL_law_595 : decode cL_law 595 = .ok (.iconst 1, 1) := by decide +kernel
theorem dL_law_596 : decode cL_law 596 = .ok (.iadd, 1) := by decide +kernel
theorem dL_law_597 : decode cL_law 597 = .ok (.iaload, 1) := by decide +kernel
theorem dL_law_598 : decode cL_law 598 = .ok (.aload_n 0, 1) := by decide +kernel
theorem dL_law_599 : decode cL_law 599 = .ok (.iload 4, 2) := by decide +kernel
theorem dL_law_601 : decode cL_law 601 = .ok (.iconst 2, 1) := by decide +kernel
theorem dL_law_602 : decode cL_law 602 = .ok (.iadd, 1) := by decide +kernel
theorem dL_law_603 : decode cL_law 603 = .ok (.iaload, 1) := by decide +kernel
theorem dL_law_604 : decode cL_law 604 = .ok (.aload_n 0, 1) := by decide +kernel
theorem dL_law_605 : decode cL_law 605 = .ok (.iload 4, 2) := by decide +kernel
theorem dL_law_607 : decode cL_law 607 = .ok (.iconst 3, 1) := by decide +kernel
theorem dL_law_608 : decode cL_law 608 = .ok (.iadd, 1) := by decide +kernel
theorem dL_law_609 : decode cL_law 609 = .ok (.iaload, 1) := by decide +kernel
theorem dL_law_610 : decode cL_law 610 = .ok (.invokevirtual 125, 3) := by decide +kernel
theorem dL_law_613 : decode cL_law 613 = .ok (.istore 6, 2) := by decide +kernel
theorem dL_law_615 : decode cL_law 615 = .ok (.aload_n 2, 1) := by decide +kernel
theorem dL_law_616 : decode cL_law 616 = .ok (.invokevirtual 103, 3) := by decide +kernel
theorem dL_law_619 : decode cL_law 619 = .ok (.iload 5, 2) := by decide +kernel
theorem dL_law_621 : decode cL_law 621 = .ok (.if_icmp .eq 5, 3) := by decide +kernel
theorem dL_law_624 : decode cL_law 624 = .ok (.iconst 0, 1) := by decide +kernel
theorem dL_law_625 : decode cL_law 625 = .ok (.ireturn, 1) := by decide +kernel
theorem dL_law_626 : decode cL_law 626 = .ok (.iload 5, 2) := by decide +kernel
theorem dL_law_628 : decode cL_law 628 = .ok (.ifCond .ne 15, 3) := by decide +kernel
theorem dL_law_631 : decode cL_law 631 = .ok (.aload_n 3, 1) := by decide +kernel
theorem dL_law_632 : decode cL_law 632 = .ok (.iconst 0, 1) := by decide +kernel
theorem dL_law_633 : decode cL_law 633 = .ok (.laload, 1) := by decide +kernel
theorem dL_law_634 : decode cL_law 634 = .ok (.iload 6, 2) := by decide +kernel
theorem dL_law_636 : decode cL_law 636 = .ok (.i2l, 1) := by decide +kernel
theorem dL_law_637 : decode cL_law 637 = .ok (.lcmp, 1) := by decide +kernel
theorem dL_law_638 : decode cL_law 638 = .ok (.ifCond .eq 5, 3) := by decide +kernel
theorem dL_law_641 : decode cL_law 641 = .ok (.iconst 0, 1) := by decide +kernel
theorem dL_law_642 : decode cL_law 642 = .ok (.ireturn, 1) := by decide +kernel
theorem dL_law_643 : decode cL_law 643 = .ok (.goto 1271, 3) := by decide +kernel
theorem dL_law_646 : decode cL_law 646 = .ok (.aload_n 1, 1) := by decide +kernel
theorem dL_law_647 : decode cL_law 647 = .ok (.aload_n 0, 1) := by decide +kernel
theorem dL_law_648 : decode cL_law 648 = .ok (.iload 4, 2) := by decide +kernel
theorem dL_law_650 : decode cL_law 650 = .ok (.iconst 1, 1) := by decide +kernel
theorem dL_law_651 : decode cL_law 651 = .ok (.iadd, 1) := by decide +kernel
theorem dL_law_652 : decode cL_law 652 = .ok (.iaload, 1) := by decide +kernel
theorem dL_law_653 : decode cL_law 653 = .ok (.aload_n 3, 1) := by decide +kernel
theorem dL_law_654 : decode cL_law 654 = .ok (.invokestatic 126, 3) := by decide +kernel
theorem dL_law_657 : decode cL_law 657 = .ok (.istore 5, 2) := by decide +kernel
theorem dL_law_659 : decode cL_law 659 = .ok (.aload_n 2, 1) := by decide +kernel
theorem dL_law_660 : decode cL_law 660 = .ok (.aload_n 0, 1) := by decide +kernel
theorem dL_law_661 : decode cL_law 661 = .ok (.iload 4, 2) := by decide +kernel
theorem dL_law_663 : decode cL_law 663 = .ok (.iconst 1, 1) := by decide +kernel
theorem dL_law_664 : decode cL_law 664 = .ok (.iadd, 1) := by decide +kernel
theorem dL_law_665 : decode cL_law 665 = .ok (.iaload, 1) := by decide +kernel
theorem dL_law_666 : decode cL_law 666 = .ok (.invokevirtual 128, 3) := by decide +kernel
theorem dL_law_669 : decode cL_law 669 = .ok (.istore 6, 2) := by decide +kernel
theorem dL_law_671 : decode cL_law 671 = .ok (.aload_n 2, 1) := by decide +kernel
theorem dL_law_672 : decode cL_law 672 = .ok (.invokevirtual 103, 3) := by decide +kernel
theorem dL_law_675 : decode cL_law 675 = .ok (.iload 5, 2) := by decide +kernel
theorem dL_law_677 : decode cL_law 677 = .ok (.if_icmp .eq 5, 3) := by decide +kernel
theorem dL_law_680 : decode cL_law 680 = .ok (.iconst 0, 1) := by decide +kernel
theorem dL_law_681 : decode cL_law 681 = .ok (.ireturn, 1) := by decide +kernel
theorem dL_law_682 : decode cL_law 682 = .ok (.iload 5, 2) := by decide +kernel
theorem dL_law_684 : decode cL_law 684 = .ok (.ifCond .ne 15, 3) := by decide +kernel
theorem dL_law_687 : decode cL_law 687 = .ok (.aload_n 3, 1) := by decide +kernel
theorem dL_law_688 : decode cL_law 688 = .ok (.iconst 0, 1) := by decide +kernel
theorem dL_law_689 : decode cL_law 689 = .ok (.laload, 1) := by decide +kernel
theorem dL_law_690 : decode cL_law 690 = .ok (.iload 6, 2) := by decide +kernel
theorem dL_law_692 : decode cL_law 692 = .ok (.i2l, 1) := by decide +kernel
theorem dL_law_693 : decode cL_law 693 = .ok (.lcmp, 1) := by decide +kernel
theorem dL_law_694 : decode cL_law 694 = .ok (.ifCond .eq 5, 3) := by decide +kernel
theorem dL_law_697 : decode cL_law 697 = .ok (.iconst 0, 1) := by decide +kernel
theorem dL_law_698 : decode cL_law 698 = .ok (.ireturn, 1) := by decide +kernel
theorem dL_law_699 : decode cL_law 699 = .ok (.goto 1215, 3) := by decide +kernel
theorem dL_law_702 : decode cL_law 702 = .ok (.aload_n 1, 1) := by decide +kernel
theorem dL_law_703 : decode cL_law 703 = .ok (.invokevirtual 129, 3) := by decide +kernel
theorem dL_law_706 : decode cL_law 706 = .ok (.aload_n 2, 1) := by decide +kernel
theorem dL_law_707 : decode cL_law 707 = .ok (.invokevirtual 132, 3) := by decide +kernel
theorem dL_law_710 : decode cL_law 710 = .ok (.if_icmp .eq 1204, 3) := by decide +kernel
theorem dL_law_713 : decode cL_law 713 = .ok (.iconst 0, 1) := by decide +kernel
theorem dL_law_714 : decode cL_law 714 = .ok (.ireturn, 1) := by decide +kernel
theorem dL_law_715 : decode cL_law 715 = .ok (.aload_n 1, 1) := by decide +kernel
theorem dL_law_716 : decode cL_law 716 = .ok (.aload_n 0, 1) := by decide +kernel
theorem dL_law_717 : decode cL_law 717 = .ok (.iload 4, 2) := by decide +kernel
theorem dL_law_719 : decode cL_law 719 = .ok (.iconst 1, 1) := by decide +kernel
theorem dL_law_720 : decode cL_law 720 = .ok (.iadd, 1) := by decide +kernel
theorem dL_law_721 : decode cL_law 721 = .ok (.iaload, 1) := by decide +kernel
theorem dL_law_722 : decode cL_law 722 = .ok (.aload_n 3, 1) := by decide +kernel
theorem dL_law_723 : decode cL_law 723 = .ok (.invokestatic 133, 3) := by decide +kernel
theorem dL_law_726 : decode cL_law 726 = .ok (.istore 5, 2) := by decide +kernel
theorem dL_law_728 : decode cL_law 728 = .ok (.aload_n 2, 1) := by decide +kernel
theorem dL_law_729 : decode cL_law 729 = .ok (.aload_n 0, 1) := by decide +kernel
theorem dL_law_730 : decode cL_law 730 = .ok (.iload 4, 2) := by decide +kernel
theorem dL_law_732 : decode cL_law 732 = .ok (.iconst 1, 1) := by decide +kernel
theorem dL_law_733 : decode cL_law 733 = .ok (.iadd, 1) := by decide +kernel
theorem dL_law_734 : decode cL_law 734 = .ok (.iaload, 1) := by decide +kernel
theorem dL_law_735 : decode cL_law 735 = .ok (.invokevirtual 135, 3) := by decide +kernel
theorem dL_law_738 : decode cL_law 738 = .ok (.istore 6, 2) := by decide +kernel
theorem dL_law_740 : decode cL_law 740 = .ok (.aload_n 2, 1) := by decide +kernel
theorem dL_law_741 : decode cL_law 741 = .ok (.invokevirtual 103, 3) := by decide +kernel
theorem dL_law_744 : decode cL_law 744 = .ok (.iload 5, 2) := by decide +kernel
theorem dL_law_746 : decode cL_law 746 = .ok (.if_icmp .eq 5, 3) := by decide +kernel
theorem dL_law_749 : decode cL_law 749 = .ok (.iconst 0, 1) := by decide +kernel
theorem dL_law_750 : decode cL_law 750 = .ok (.ireturn, 1) := by decide +kernel
theorem dL_law_751 : decode cL_law 751 = .ok (.iload 5, 2) := by decide +kernel
theorem dL_law_753 : decode cL_law 753 = .ok (.ifCond .ne 15, 3) := by decide +kernel
theorem dL_law_756 : decode cL_law 756 = .ok (.aload_n 3, 1) := by decide +kernel
theorem dL_law_757 : decode cL_law 757 = .ok (.iconst 0, 1) := by decide +kernel
theorem dL_law_758 : decode cL_law 758 = .ok (.laload, 1) := by decide +kernel
theorem dL_law_759 : decode cL_law 759 = .ok (.iload 6, 2) := by decide +kernel
theorem dL_law_761 : decode cL_law 761 = .ok (.i2l, 1) := by decide +kernel
theorem dL_law_762 : decode cL_law 762 = .ok (.lcmp, 1) := by decide +kernel
theorem dL_law_763 : decode cL_law 763 = .ok (.ifCond .eq 5, 3) := by decide +kernel
theorem dL_law_766 : decode cL_law 766 = .ok (.iconst 0, 1) := by decide +kernel
theorem dL_law_767 : decode cL_law 767 = .ok (.ireturn, 1) := by decide +kernel
theorem dL_law_768 : decode cL_law 768 = .ok (.goto 1146, 3) := by decide +kernel
theorem dL_law_771 : decode cL_law 771 = .ok (.aload_n 1, 1) := by decide +kernel
theorem dL_law_772 : decode cL_law 772 = .ok (.aload_n 0, 1) := by decide +kernel
theorem dL_law_773 : decode cL_law 773 = .ok (.iload 4, 2) := by decide +kernel
theorem dL_law_775 : decode cL_law 775 = .ok (.iconst 1, 1) := by decide +kernel
theorem dL_law_776 : decode cL_law 776 = .ok (.iadd, 1) := by decide +kernel
theorem dL_law_777 : decode cL_law 777 = .ok (.iaload, 1) := by decide +kernel
theorem dL_law_778 : decode cL_law 778 = .ok (.aload_n 3, 1) := by decide +kernel
