theorem dX10_init_0 : decode cX10_init 0 = .ok (.aload_n 0, 1) := by decide +kernel
theorem dX10_init_1 : decode cX10_init 1 = .ok (.invokespecial 1, 3) := by decide +kernel
theorem dX10_init_4 : decode cX10_init 4 = .ok (.aload_n 0, 1) := by decide +kernel
theorem dX10_init_5 : decode cX10_init 5 = .ok (.bipush 40, 2) := by decide +kernel
theorem dX10_init_7 : decode cX10_init 7 = .ok (.newarray .boolean, 2) := by decide +kernel
theorem dX10_init_9 : decode cX10_init 9 = .ok (.putfield 7, 3) := by decide +kernel
theorem dX10_init_12 : decode cX10_init 12 = .ok (.aload_n 0, 1) := by decide +kernel
theorem dX10_init_13 : decode cX10_init 13 = .ok (.bipush 40, 2) := by decide +kernel
theorem dX10_init_15 : decode cX10_init 15 = .ok (.newarray .int, 2) := by decide +kernel
theorem dX10_init_17 : decode cX10_init 17 = .ok (.putfield 13, 3) := by decide +kernel
theorem dX10_init_20 : decode cX10_init 20 = .ok (.aload_n 0, 1) := by decide +kernel
theorem dX10_init_21 : decode cX10_init 21 = .ok (.bipush 40, 2) := by decide +kernel
theorem dX10_init_23 : decode cX10_init 23 = .ok (.newarray .int, 2) := by decide +kernel
theorem dX10_init_25 : decode cX10_init 25 = .ok (.putfield 17, 3) := by decide +kernel
theorem dX10_init_28 : decode cX10_init 28 = .ok (.aload_n 0, 1) := by decide +kernel
theorem dX10_init_29 : decode cX10_init 29 = .ok (.bipush 40, 2) := by decide +kernel
theorem dX10_init_31 : decode cX10_init 31 = .ok (.newarray .int, 2) := by decide +kernel
theorem dX10_init_33 : decode cX10_init 33 = .ok (.putfield 20, 3) := by decide +kernel
theorem dX10_init_36 : decode cX10_init 36 = .ok (.aload_n 0, 1) := by decide +kernel
theorem dX10_init_37 : decode cX10_init 37 = .ok (.sipush 4800, 3) := by decide +kernel
theorem dX10_init_40 : decode cX10_init 40 = .ok (.newarray .int, 2) := by decide +kernel
theorem dX10_init_42 : decode cX10_init 42 = .ok (.putfield 23, 3) := by decide +kernel
theorem dX10_init_45 : decode cX10_init 45 = .ok (.aload_n 0, 1) := by decide +kernel
theorem dX10_init_46 : decode cX10_init 46 = .ok (.bipush 30, 2) := by decide +kernel
theorem dX10_init_48 : decode cX10_init 48 = .ok (.newarray .boolean, 2) := by decide +kernel
theorem dX10_init_50 : decode cX10_init 50 = .ok (.putfield 26, 3) := by decide +kernel
theorem dX10_init_53 : decode cX10_init 53 = .ok (.aload_n 0, 1) := by decide +kernel
theorem dX10_init_54 : decode cX10_init 54 = .ok (.bipush 30, 2) := by decide +kernel
theorem dX10_init_56 : decode cX10_init 56 = .ok (.newarray .int, 2) := by decide +kernel
theorem dX10_init_58 : decode cX10_init 58 = .ok (.putfield 29, 3) := by decide +kernel
theorem dX10_init_61 : decode cX10_init 61 = .ok (.aload_n 0, 1) := by decide +kernel
theorem dX10_init_62 : decode cX10_init 62 = .ok (.bipush 30, 2) := by decide +kernel
theorem dX10_init_64 : decode cX10_init 64 = .ok (.newarray .int, 2) := by decide +kernel
theorem dX10_init_66 : decode cX10_init 66 = .ok (.putfield 32, 3) := by decide +kernel
theorem dX10_init_69 : decode cX10_init 69 = .ok (.aload_n 0, 1) := by decide +kernel
theorem dX10_init_70 : decode cX10_init 70 = .ok (.bipush 30, 2) := by decide +kernel
theorem dX10_init_72 : decode cX10_init 72 = .ok (.newarray .int, 2) := by decide +kernel
theorem dX10_init_74 : decode cX10_init 74 = .ok (.putfield 35, 3) := by decide +kernel
theorem dX10_init_77 : decode cX10_init 77 = .ok (.aload_n 0, 1) := by decide +kernel
theorem dX10_init_78 : decode cX10_init 78 = .ok (.bipush 30, 2) := by decide +kernel
theorem dX10_init_80 : decode cX10_init 80 = .ok (.newarray .int, 2) := by decide +kernel
theorem dX10_init_82 : decode cX10_init 82 = .ok (.putfield 38, 3) := by decide +kernel
theorem dX10_init_85 : decode cX10_init 85 = .ok (.aload_n 0, 1) := by decide +kernel
theorem dX10_init_86 : decode cX10_init 86 = .ok (.bipush 30, 2) := by decide +kernel
theorem dX10_init_88 : decode cX10_init 88 = .ok (.newarray .int, 2) := by decide +kernel
theorem dX10_init_90 : decode cX10_init 90 = .ok (.putfield 41, 3) := by decide +kernel
theorem dX10_init_93 : decode cX10_init 93 = .ok (.aload_n 0, 1) := by decide +kernel
theorem dX10_init_94 : decode cX10_init 94 = .ok (.bipush 30, 2) := by decide +kernel
theorem dX10_init_96 : decode cX10_init 96 = .ok (.newarray .int, 2) := by decide +kernel
theorem dX10_init_98 : decode cX10_init 98 = .ok (.putfield 44, 3) := by decide +kernel
theorem dX10_init_101 : decode cX10_init 101 = .ok (.aload_n 0, 1) := by decide +kernel
theorem dX10_init_102 : decode cX10_init 102 = .ok (.sipush 3600, 3) := by decide +kernel
theorem dX10_init_105 : decode cX10_init 105 = .ok (.newarray .int, 2) := by decide +kernel
theorem dX10_init_107 : decode cX10_init 107 = .ok (.putfield 47, 3) := by decide +kernel
theorem dX10_init_110 : decode cX10_init 110 = .ok (.aload_n 0, 1) := by decide +kernel
theorem dX10_init_111 : decode cX10_init 111 = .ok (.bipush 30, 2) := by decide +kernel
theorem dX10_init_113 : decode cX10_init 113 = .ok (.newarray .boolean, 2) := by decide +kernel
theorem dX10_init_115 : decode cX10_init 115 = .ok (.putfield 50, 3) := by decide +kernel
theorem dX10_init_118 : decode cX10_init 118 = .ok (.aload_n 0, 1) := by decide +kernel
theorem dX10_init_119 : decode cX10_init 119 = .ok (.bipush 30, 2) := by decide +kernel
theorem dX10_init_121 : decode cX10_init 121 = .ok (.newarray .int, 2) := by decide +kernel
theorem dX10_init_123 : decode cX10_init 123 = .ok (.putfield 53, 3) := by decide +kernel
theorem dX10_init_126 : decode cX10_init 126 = .ok (.aload_n 0, 1) := by decide +kernel
theorem dX10_init_127 : decode cX10_init 127 = .ok (.bipush 30, 2) := by decide +kernel
theorem dX10_init_129 : decode cX10_init 129 = .ok (.newarray .int, 2) := by decide +kernel
theorem dX10_init_131 : decode cX10_init 131 = .ok (.putfield 56, 3) := by decide +kernel
theorem dX10_init_134 : decode cX10_init 134 = .ok (.aload_n 0, 1) := by decide +kernel
theorem dX10_init_135 : decode cX10_init 135 = .ok (.sipush 3600, 3) := by decide +kernel
theorem dX10_init_138 : decode cX10_init 138 = .ok (.newarray .int, 2) := by decide +kernel
theorem dX10_init_140 : decode cX10_init 140 = .ok (.putfield 59, 3) := by decide +kernel
theorem dX10_init_143 : decode cX10_init 143 = .ok (.aload_n 0, 1) := by decide +kernel
theorem dX10_init_144 : decode cX10_init 144 = .ok (.bipush 30, 2) := by decide +kernel
theorem dX10_init_146 : decode cX10_init 146 = .ok (.newarray .int, 2) := by decide +kernel
theorem dX10_init_148 : decode cX10_init 148 = .ok (.putfield 62, 3) := by decide +kernel
theorem dX10_init_151 : decode cX10_init 151 = .ok (.aload_n 0, 1) := by decide +kernel
theorem dX10_init_152 : decode cX10_init 152 = .ok (.bipush 30, 2) := by decide +kernel
theorem dX10_init_154 : decode cX10_init 154 = .ok (.newarray .int, 2) := by decide +kernel
theorem dX10_init_156 : decode cX10_init 156 = .ok (.putfield 65, 3) := by decide +kernel
theorem dX10_init_159 : decode cX10_init 159 = .ok (.aload_n 0, 1) := by decide +kernel
theorem dX10_init_160 : decode cX10_init 160 = .ok (.iconst 4, 1) := by decide +kernel
theorem dX10_init_161 : decode cX10_init 161 = .ok (.putfield 68, 3) := by decide +kernel
theorem dX10_init_164 : decode cX10_init 164 = .ok (.aload_n 0, 1) := by decide +kernel
theorem dX10_init_165 : decode cX10_init 165 = .ok (.iconst 2, 1) := by decide +kernel
theorem dX10_init_166 : decode cX10_init 166 = .ok (.putfield 72, 3) := by decide +kernel
theorem dX10_init_169 : decode cX10_init 169 = .ok (.aload_n 0, 1) := by decide +kernel
theorem dX10_init_170 : decode cX10_init 170 = .ok (.iconst 2, 1) := by decide +kernel
theorem dX10_init_171 : decode cX10_init 171 = .ok (.putfield 75, 3) := by decide +kernel
theorem dX10_init_174 : decode cX10_init 174 = .ok (.aload_n 0, 1) := by decide +kernel
theorem dX10_init_175 : decode cX10_init 175 = .ok (.iconst 2, 1) := by decide +kernel
theorem dX10_init_176 : decode cX10_init 176 = .ok (.putfield 78, 3) := by decide +kernel
theorem dX10_init_179 : decode cX10_init 179 = .ok (.aload_n 0, 1) := by decide +kernel
theorem dX10_init_180 : decode cX10_init 180 = .ok (.bipush 10, 2) := by decide +kernel
theorem dX10_init_182 : decode cX10_init 182 = .ok (.newarray .int, 2) := by decide +kernel
theorem dX10_init_184 : decode cX10_init 184 = .ok (.dup, 1) := by decide +kernel
theorem dX10_init_185 : decode cX10_init 185 = .ok (.iconst 0, 1) := by decide +kernel
theorem dX10_init_186 : decode cX10_init 186 = .ok (.iconst (-1), 1) := by decide +kernel
theorem dX10_init_187 : decode cX10_init 187 = .ok (.iastore, 1) := by decide +kernel
theorem dX10_init_188 : decode cX10_init 188 = .ok (.dup, 1) := by decide +kernel
theorem dX10_init_189 : decode cX10_init 189 = .ok (.iconst 1, 1) := by decide +kernel
theorem dX10_init_190 : decode cX10_init 190 = .ok (.iconst (-1), 1) := by decide +kernel
theorem dX10_init_191 : decode cX10_init 191 = .ok (.iastore, 1) := by decide +kernel
theorem dX10_init_192 : decode cX10_init 192 = .ok (.dup, 1) := by decide +kernel
theorem dX10_init_193 : decode cX10_init 193 = .ok (.iconst 2, 1) := by decide +kernel
theorem dX10_init_194 : decode cX10_init 194 = .ok (.iconst (-1), 1) := by decide +kernel
theorem dX10_init_195 : decode cX10_init 195 = .ok (.iastore, 1) := by decide +kernel
theorem dX10_init_196 : decode cX10_init 196 = .ok (.dup, 1) := by decide +kernel
theorem dX10_init_197 : decode cX10_init 197 = .ok (.iconst 3, 1) := by decide +kernel
theorem dX10_init_198 : decode cX10_init 198 = .ok (.iconst (-1), 1) := by decide +kernel
theorem dX10_init_199 : decode cX10_init 199 = .ok (.iastore, 1) := by decide +kernel
theorem dX10_init_200 : decode cX10_init 200 = .ok (.dup, 1) := by decide +kernel
theorem dX10_init_201 : decode cX10_init 201 = .ok (.iconst 4, 1) := by decide +kernel
theorem dX10_init_202 : decode cX10_init 202 = .ok (.iconst (-1), 1) := by decide +kernel
theorem dX10_init_203 : decode cX10_init 203 = .ok (.iastore, 1) := by decide +kernel
theorem dX10_init_204 : decode cX10_init 204 = .ok (.dup, 1) := by decide +kernel
theorem dX10_init_205 : decode cX10_init 205 = .ok (.iconst 5, 1) := by decide +kernel
theorem dX10_init_206 : decode cX10_init 206 = .ok (.iconst (-1), 1) := by decide +kernel
theorem dX10_init_207 : decode cX10_init 207 = .ok (.iastore, 1) := by decide +kernel
theorem dX10_init_208 : decode cX10_init 208 = .ok (.dup, 1) := by decide +kernel
theorem dX10_init_209 : decode cX10_init 209 = .ok (.bipush 6, 2) := by decide +kernel
theorem dX10_init_211 : decode cX10_init 211 = .ok (.iconst (-1), 1) := by decide +kernel
theorem dX10_init_212 : decode cX10_init 212 = .ok (.iastore, 1) := by decide +kernel
theorem dX10_init_213 : decode cX10_init 213 = .ok (.dup, 1) := by decide +kernel
theorem dX10_init_214 : decode cX10_init 214 = .ok (.bipush 7, 2) := by decide +kernel
theorem dX10_init_216 : decode cX10_init 216 = .ok (.iconst (-1), 1) := by decide +kernel
theorem dX10_init_217 : decode cX10_init 217 = .ok (.iastore, 1) := by decide +kernel
theorem dX10_init_218 : decode cX10_init 218 = .ok (.dup, 1) := by decide +kernel
theorem dX10_init_219 : decode cX10_init 219 = .ok (.bipush 8, 2) := by decide +kernel
theorem dX10_init_221 : decode cX10_init 221 = .ok (.iconst (-1), 1) := by decide +kernel
theorem dX10_init_222 : decode cX10_init 222 = .ok (.iastore, 1) := by decide +kernel
theorem dX10_init_223 : decode cX10_init 223 = .ok (.dup, 1) := by decide +kernel
theorem dX10_init_224 : decode cX10_init 224 = .ok (.bipush 9, 2) := by decide +kernel
theorem dX10_init_226 : decode cX10_init 226 = .ok (.iconst (-1), 1) := by decide +kernel
theorem dX10_init_227 : decode cX10_init 227 = .ok (.iastore, 1) := by decide +kernel
theorem dX10_init_228 : decode cX10_init 228 = .ok (.putfield 81, 3) := by decide +kernel
theorem dX10_init_231 : decode cX10_init 231 = .ok (.aload_n 0, 1) := by decide +kernel
theorem dX10_init_232 : decode cX10_init 232 = .ok (.bipush 10, 2) := by decide +kernel
theorem dX10_init_234 : decode cX10_init 234 = .ok (.newarray .int, 2) := by decide +kernel
theorem dX10_init_236 : decode cX10_init 236 = .ok (.putfield 84, 3) := by decide +kernel
theorem dX10_init_239 : decode cX10_init 239 = .ok (.aload_n 0, 1) := by decide +kernel
theorem dX10_init_240 : decode cX10_init 240 = .ok (.iconst 4, 1) := by decide +kernel
theorem dX10_init_241 : decode cX10_init 241 = .ok (.newarray .int, 2) := by decide +kernel
theorem dX10_init_243 : decode cX10_init 243 = .ok (.putfield 87, 3) := by decide +kernel
theorem dX10_init_246 : decode cX10_init 246 = .ok (.aload_n 0, 1) := by decide +kernel
theorem dX10_init_247 : decode cX10_init 247 = .ok (.bipush 72, 2) := by decide +kernel
theorem dX10_init_249 : decode cX10_init 249 = .ok (.newarray .int, 2) := by decide +kernel
theorem dX10_init_251 : decode cX10_init 251 = .ok (.putfield 90, 3) := by decide +kernel
theorem dX10_init_254 : decode cX10_init 254 = .ok (.aload_n 0, 1) := by decide +kernel
theorem dX10_init_255 : decode cX10_init 255 = .ok (.sipush 130, 3) := by decide +kernel
theorem dX10_init_258 : decode cX10_init 258 = .ok (.newarray .int, 2) := by decide +kernel
theorem dX10_init_260 : decode cX10_init 260 = .ok (.putfield 93, 3) := by decide +kernel
theorem dX10_init_263 : decode cX10_init 263 = .ok (.aload_n 0, 1) := by decide +kernel
theorem dX10_init_264 : decode cX10_init 264 = .ok (.bipush 6, 2) := by decide +kernel
theorem dX10_init_266 : decode cX10_init 266 = .ok (.newarray .int, 2) := by decide +kernel
theorem dX10_init_268 : decode cX10_init 268 = .ok (.putfield 96, 3) := by decide +kernel
theorem dX10_init_271 : decode cX10_init 271 = .ok (.aload_n 0, 1) := by decide +kernel
theorem dX10_init_272 : decode cX10_init 272 = .ok (.bipush 6, 2) := by decide +kernel
theorem dX10_init_274 : decode cX10_init 274 = .ok (.newarray .int, 2) := by decide +kernel
theorem dX10_init_276 : decode cX10_init 276 = .ok (.putfield 99, 3) := by decide +kernel
theorem dX10_init_279 : decode cX10_init 279 = .ok (.aload_n 0, 1) := by decide +kernel
theorem dX10_init_280 : decode cX10_init 280 = .ok (.bipush 120, 2) := by decide +kernel
theorem dX10_init_282 : decode cX10_init 282 = .ok (.newarray .int, 2) := by decide +kernel
theorem dX10_init_284 : decode cX10_init 284 = .ok (.putfield 102, 3) := by decide +kernel
theorem dX10_init_287 : decode cX10_init 287 = .ok (.aload_n 0, 1) := by decide +kernel
theorem dX10_init_288 : decode cX10_init 288 = .ok (.bipush 6, 2) := by decide +kernel
theorem dX10_init_290 : decode cX10_init 290 = .ok (.newarray .int, 2) := by decide +kernel
theorem dX10_init_292 : decode cX10_init 292 = .ok (.putfield 105, 3) := by decide +kernel
theorem dX10_init_295 : decode cX10_init 295 = .ok (.aload_n 0, 1) := by decide +kernel
theorem dX10_init_296 : decode cX10_init 296 = .ok (.iconst (-1), 1) := by decide +kernel
theorem dX10_init_297 : decode cX10_init 297 = .ok (.putfield 108, 3) := by decide +kernel
theorem dX10_init_300 : decode cX10_init 300 = .ok (.aload_n 0, 1) := by decide +kernel
theorem dX10_init_301 : decode cX10_init 301 = .ok (.bipush 18, 2) := by decide +kernel
theorem dX10_init_303 : decode cX10_init 303 = .ok (.newarray .int, 2) := by decide +kernel
theorem dX10_init_305 : decode cX10_init 305 = .ok (.putfield 111, 3) := by decide +kernel
theorem dX10_init_308 : decode cX10_init 308 = .ok (.aload_n 0, 1) := by decide +kernel
theorem dX10_init_309 : decode cX10_init 309 = .ok (.bipush 10, 2) := by decide +kernel
theorem dX10_init_311 : decode cX10_init 311 = .ok (.newarray .int, 2) := by decide +kernel
theorem dX10_init_313 : decode cX10_init 313 = .ok (.putfield 114, 3) := by decide +kernel
theorem dX10_init_316 : decode cX10_init 316 = .ok (.aload_n 0, 1) := by decide +kernel
theorem dX10_init_317 : decode cX10_init 317 = .ok (.bipush 30, 2) := by decide +kernel
theorem dX10_init_319 : decode cX10_init 319 = .ok (.newarray .int, 2) := by decide +kernel
theorem dX10_init_321 : decode cX10_init 321 = .ok (.putfield 117, 3) := by decide +kernel
theorem dX10_init_324 : decode cX10_init 324 = .ok (.aload_n 0, 1) := by decide +kernel
theorem dX10_init_325 : decode cX10_init 325 = .ok (.bipush 10, 2) := by decide +kernel
theorem dX10_init_327 : decode cX10_init 327 = .ok (.newarray .int, 2) := by decide +kernel
theorem dX10_init_329 : decode cX10_init 329 = .ok (.dup, 1) := by decide +kernel
theorem dX10_init_330 : decode cX10_init 330 = .ok (.iconst 0, 1) := by decide +kernel
theorem dX10_init_331 : decode cX10_init 331 = .ok (.iconst (-1), 1) := by decide +kernel
theorem dX10_init_332 : decode cX10_init 332 = .ok (.iastore, 1) := by decide +kernel
theorem dX10_init_333 : decode cX10_init 333 = .ok (.dup, 1) := by decide +kernel
theorem dX10_init_334 : decode cX10_init 334 = .ok (.iconst 1, 1) := by decide +kernel
theorem dX10_init_335 : decode cX10_init 335 = .ok (.iconst (-1), 1) := by decide +kernel
theorem dX10_init_336 : decode cX10_init 336 = .ok (.iastore, 1) := by decide +kernel
theorem dX10_init_337 : decode cX10_init 337 = .ok (.dup, 1) := by decide +kernel
theorem dX10_init_338 : decode cX10_init 338 = .ok (.iconst 2, 1) := by decide +kernel
theorem dX10_init_339 : decode cX10_init 339 = .ok (.iconst (-1), 1) := by decide +kernel
theorem dX10_init_340 : decode cX10_init 340 = .ok (.iastore, 1) := by decide +kernel
theorem dX10_init_341 : decode cX10_init 341 = .ok (.dup, 1) := by decide +kernel
theorem dX10_init_342 : decode cX10_init 342 = .ok (.iconst 3, 1) := by decide +kernel
theorem dX10_init_343 : decode cX10_init 343 = .ok (.iconst (-1), 1) := by decide +kernel
theorem dX10_init_344 : decode cX10_init 344 = .ok (.iastore, 1) := by decide +kernel
theorem dX10_init_345 : decode cX10_init 345 = .ok (.dup, 1) := by decide +kernel
theorem dX10_init_346 : decode cX10_init 346 = .ok (.iconst 4, 1) := by decide +kernel
theorem dX10_init_347 : decode cX10_init 347 = .ok (.iconst (-1), 1) := by decide +kernel
theorem dX10_init_348 : decode cX10_init 348 = .ok (.iastore, 1) := by decide +kernel
theorem dX10_init_349 : decode cX10_init 349 = .ok (.dup, 1) := by decide +kernel
theorem dX10_init_350 : decode cX10_init 350 = .ok (.iconst 5, 1) := by decide +kernel
theorem dX10_init_351 : decode cX10_init 351 = .ok (.iconst (-1), 1) := by decide +kernel
theorem dX10_init_352 : decode cX10_init 352 = .ok (.iastore, 1) := by decide +kernel
theorem dX10_init_353 : decode cX10_init 353 = .ok (.dup, 1) := by decide +kernel
theorem dX10_init_354 : decode cX10_init 354 = .ok (.bipush 6, 2) := by decide +kernel
theorem dX10_init_356 : decode cX10_init 356 = .ok (.iconst (-1), 1) := by decide +kernel
theorem dX10_init_357 : decode cX10_init 357 = .ok (.iastore, 1) := by decide +kernel
theorem dX10_init_358 : decode cX10_init 358 = .ok (.dup, 1) := by decide +kernel
theorem dX10_init_359 : decode cX10_init 359 = .ok (.bipush 7, 2) := by decide +kernel
theorem dX10_init_361 : decode cX10_init 361 = .ok (.iconst (-1), 1) := by decide +kernel
theorem dX10_init_362 : decode cX10_init 362 = .ok (.iastore, 1) := by decide +kernel
theorem dX10_init_363 : decode cX10_init 363 = .ok (.dup, 1) := by decide +kernel
theorem dX10_init_364 : decode cX10_init 364 = .ok (.bipush 8, 2) := by decide +kernel
theorem dX10_init_366 : decode cX10_init 366 = .ok (.iconst (-1), 1) := by decide +kernel
theorem dX10_init_367 : decode cX10_init 367 = .ok (.iastore, 1) := by decide +kernel
theorem dX10_init_368 : decode cX10_init 368 = .ok (.dup, 1) := by decide +kernel
theorem dX10_init_369 : decode cX10_init 369 = .ok (.bipush 9, 2) := by decide +kernel
theorem dX10_init_371 : decode cX10_init 371 = .ok (.iconst (-1), 1) := by decide +kernel
theorem dX10_init_372 : decode cX10_init 372 = .ok (.iastore, 1) := by decide +kernel
theorem dX10_init_373 : decode cX10_init 373 = .ok (.putfield 120, 3) := by decide +kernel
theorem dX10_init_376 : decode cX10_init 376 = .ok (.aload_n 0, 1) := by decide +kernel
theorem dX10_init_377 : decode cX10_init 377 = .ok (.bipush 30, 2) := by decide +kernel
theorem dX10_init_379 : decode cX10_init 379 = .ok (.newarray .int, 2) := by decide +kernel
theorem dX10_init_381 : decode cX10_init 381 = .ok (.putfield 123, 3) := by decide +kernel
theorem dX10_init_384 : decode cX10_init 384 = .ok (.aload_n 0, 1) := by decide +kernel
theorem dX10_init_385 : decode cX10_init 385 = .ok (.bipush 11, 2) := by decide +kernel
theorem dX10_init_387 : decode cX10_init 387 = .ok (.newarray .int, 2) := by decide +kernel
theorem dX10_init_389 : decode cX10_init 389 = .ok (.putfield 126, 3) := by decide +kernel
theorem dX10_init_392 : decode cX10_init 392 = .ok (.aload_n 0, 1) := by decide +kernel
theorem dX10_init_393 : decode cX10_init 393 = .ok (.bipush 30, 2) := by decide +kernel
theorem dX10_init_395 : decode cX10_init 395 = .ok (.newarray .boolean, 2) := by decide +kernel
theorem dX10_init_397 : decode cX10_init 397 = .ok (.putfield 129, 3) := by decide +kernel
theorem dX10_init_400 : decode cX10_init 400 = .ok (.aload_n 0, 1) := by decide +kernel
theorem dX10_init_401 : decode cX10_init 401 = .ok (.bipush 10, 2) := by decide +kernel
theorem dX10_init_403 : decode cX10_init 403 = .ok (.newarray .int, 2) := by decide +kernel
theorem dX10_init_405 : decode cX10_init 405 = .ok (.putfield 132, 3) := by decide +kernel
theorem dX10_init_408 : decode cX10_init 408 = .ok (.aload_n 0, 1) := by decide +kernel
theorem dX10_init_409 : decode cX10_init 409 = .ok (.bipush 10, 2) := by decide +kernel
theorem dX10_init_411 : decode cX10_init 411 = .ok (.newarray .int, 2) := by decide +kernel
theorem dX10_init_413 : decode cX10_init 413 = .ok (.putfield 135, 3) := by decide +kernel
theorem dX10_init_416 : decode cX10_init 416 = .ok (.return_, 1) := by decide +kernel
theorem dX10_in_0 : decode cX10_in 0 = .ok (.iload_n 0, 1) := by decide +kernel
theorem dX10_in_1 : decode cX10_in 1 = .ok (.iload_n 1, 1) := by decide +kernel
theorem dX10_in_2 : decode cX10_in 2 = .ok (.if_icmp .lt 12, 3) := by decide +kernel
theorem dX10_in_5 : decode cX10_in 5 = .ok (.iload_n 0, 1) := by decide +kernel
theorem dX10_in_6 : decode cX10_in 6 = .ok (.iload_n 2, 1) := by decide +kernel
theorem dX10_in_7 : decode cX10_in 7 = .ok (.if_icmp .gt 7, 3) := by decide +kernel
theorem dX10_in_10 : decode cX10_in 10 = .ok (.iconst 1, 1) := by decide +kernel
theorem dX10_in_11 : decode cX10_in 11 = .ok (.goto 4, 3) := by decide +kernel
theorem dX10_in_14 : decode cX10_in 14 = .ok (.iconst 0, 1) := by decide +kernel
theorem dX10_in_15 : decode cX10_in 15 = .ok (.ireturn, 1) := by decide +kernel
theorem dX10_isThere_0 : decode cX10_isThere 0 = .ok (.iload_n 1, 1) := by decide +kernel
theorem dX10_isThere_1 : decode cX10_isThere 1 = .ok (.iconst 0, 1) := by decide +kernel
theorem dX10_isThere_2 : decode cX10_isThere 2 = .ok (.aload_n 0, 1) := by decide +kernel
theorem dX10_isThere_3 : decode cX10_isThere 3 = .ok (.getfield 138, 3) := by decide +kernel
theorem dX10_isThere_6 : decode cX10_isThere 6 = .ok (.iconst 1, 1) := by decide +kernel
theorem dX10_isThere_7 : decode cX10_isThere 7 = .ok (.isub, 1) := by decide +kernel
theorem dX10_isThere_8 : decode cX10_isThere 8 = .ok (.invokestatic 141, 3) := by decide +kernel
theorem dX10_isThere_11 : decode cX10_isThere 11 = .ok (.ifCond .eq 16, 3) := by decide +kernel
theorem dX10_isThere_14 : decode cX10_isThere 14 = .ok (.aload_n 0, 1) := by decide +kernel
theorem dX10_isThere_15 : decode cX10_isThere 15 = .ok (.getfield 7, 3) := by decide +kernel
theorem dX10_isThere_18 : decode cX10_isThere 18 = .ok (.iload_n 1, 1) := by decide +kernel
theorem dX10_isThere_19 : decode cX10_isThere 19 = .ok (.baload, 1) := by decide +kernel
theorem dX10_isThere_20 : decode cX10_isThere 20 = .ok (.ifCond .eq 7, 3) := by decide +kernel
theorem dX10_isThere_23 : decode cX10_isThere 23 = .ok (.iconst 1, 1) := by decide +kernel
theorem dX10_isThere_24 : decode cX10_isThere 24 = .ok (.goto 4, 3) := by decide +kernel
theorem dX10_isThere_27 : decode cX10_isThere 27 = .ok (.iconst 0, 1) := by decide +kernel
theorem dX10_isThere_28 : decode cX10_isThere 28 = .ok (.ireturn, 1) := by decide +kernel
theorem dX10_isMade_0 : decode cX10_isMade 0 = .ok (.iload_n 1, 1) := by decide +kernel
theorem dX10_isMade_1 : decode cX10_isMade 1 = .ok (.iconst 0, 1) := by decide +kernel
theorem dX10_isMade_2 : decode cX10_isMade 2 = .ok (.aload_n 0, 1) := by decide +kernel
theorem dX10_isMade_3 : decode cX10_isMade 3 = .ok (.getfield 145, 3) := by decide +kernel
theorem dX10_isMade_6 : decode cX10_isMade 6 = .ok (.iconst 1, 1) := by decide +kernel
theorem dX10_isMade_7 : decode cX10_isMade 7 = .ok (.isub, 1) := by decide +kernel
theorem dX10_isMade_8 : decode cX10_isMade 8 = .ok (.invokestatic 141, 3) := by decide +kernel
theorem dX10_isMade_11 : decode cX10_isMade 11 = .ok (.ifCond .eq 16, 3) := by decide +kernel
theorem dX10_isMade_14 : decode cX10_isMade 14 = .ok (.aload_n 0, 1) := by decide +kernel
theorem dX10_isMade_15 : decode cX10_isMade 15 = .ok (.getfield 26, 3) := by decide +kernel
theorem dX10_isMade_18 : decode cX10_isMade 18 = .ok (.iload_n 1, 1) := by decide +kernel
theorem dX10_isMade_19 : decode cX10_isMade 19 = .ok (.baload, 1) := by decide +kernel
theorem dX10_isMade_20 : decode cX10_isMade 20 = .ok (.ifCond .eq 7, 3) := by decide +kernel
theorem dX10_isMade_23 : decode cX10_isMade 23 = .ok (.iconst 1, 1) := by decide +kernel
theorem dX10_isMade_24 : decode cX10_isMade 24 = .ok (.goto 4, 3) := by decide +kernel
theorem dX10_isMade_27 : decode cX10_isMade 27 = .ok (.iconst 0, 1) := by decide +kernel
theorem dX10_isMade_28 : decode cX10_isMade 28 = .ok (.ireturn, 1) := by decide +kernel
theorem dX10_feed_0 : decode cX10_feed 0 = .ok (.iload_n 3, 1) := by decide +kernel
theorem dX10_feed_1 : decode cX10_feed 1 = .ok (.iconst 1, 1) := by decide +kernel
theorem dX10_feed_2 : decode cX10_feed 2 = .ok (.bipush 8, 2) := by decide +kernel
theorem dX10_feed_4 : decode cX10_feed 4 = .ok (.invokestatic 141, 3) := by decide +kernel
theorem dX10_feed_7 : decode cX10_feed 7 = .ok (.ifCond .ne 6, 3) := by decide +kernel
theorem dX10_feed_10 : decode cX10_feed 10 = .ok (.bipush (-2), 2) := by decide +kernel
theorem dX10_feed_12 : decode cX10_feed 12 = .ok (.ireturn, 1) := by decide +kernel
theorem dX10_feed_13 : decode cX10_feed 13 = .ok (.aload_n 0, 1) := by decide +kernel
theorem dX10_feed_14 : decode cX10_feed 14 = .ok (.getfield 148, 3) := by decide +kernel
theorem dX10_feed_17 : decode cX10_feed 17 = .ok (.iload_n 3, 1) := by decide +kernel
theorem dX10_feed_18 : decode cX10_feed 18 = .ok (.iadd, 1) := by decide +kernel
theorem dX10_feed_19 : decode cX10_feed 19 = .ok (.sipush 130, 3) := by decide +kernel
theorem dX10_feed_22 : decode cX10_feed 22 = .ok (.if_icmp .le 6, 3) := by decide +kernel
theorem dX10_feed_25 : decode cX10_feed 25 = .ok (.bipush (-4), 2) := by decide +kernel
theorem dX10_feed_27 : decode cX10_feed 27 = .ok (.ireturn, 1) := by decide +kernel
theorem dX10_feed_28 : decode cX10_feed 28 = .ok (.iload_n 3, 1) := by decide +kernel
theorem dX10_feed_29 : decode cX10_feed 29 = .ok (.iconst 1, 1) := by decide +kernel
theorem dX10_feed_30 : decode cX10_feed 30 = .ok (.isub, 1) := by decide +kernel
theorem dX10_feed_31 : decode cX10_feed 31 = .ok (.istore 4, 2) := by decide +kernel
theorem dX10_feed_33 : decode cX10_feed 33 = .ok (.iload 4, 2) := by decide +kernel
theorem dX10_feed_35 : decode cX10_feed 35 = .ok (.ifCond .lt 40, 3) := by decide +kernel
theorem dX10_feed_38 : decode cX10_feed 38 = .ok (.aload_n 0, 1) := by decide +kernel
theorem dX10_feed_39 : decode cX10_feed 39 = .ok (.getfield 93, 3) := by decide +kernel
theorem dX10_feed_42 : decode cX10_feed 42 = .ok (.aload_n 0, 1) := by decide +kernel
theorem dX10_feed_43 : decode cX10_feed 43 = .ok (.getfield 148, 3) := by decide +kernel
theorem dX10_feed_46 : decode cX10_feed 46 = .ok (.lload_n 1, 1) := by decide +kernel
theorem dX10_feed_47 : decode cX10_feed 47 = .ok (.bipush 8, 2) := by decide +kernel
theorem dX10_feed_49 : decode cX10_feed 49 = .ok (.iload 4, 2) := by decide +kernel
theorem dX10_feed_51 : decode cX10_feed 51 = .ok (.imul, 1) := by decide +kernel
theorem dX10_feed_52 : decode cX10_feed 52 = .ok (.lshr, 1) := by decide +kernel
theorem dX10_feed_53 : decode cX10_feed 53 = .ok (.ldc2_w 151, 3) := by decide +kernel
theorem dX10_feed_56 : decode cX10_feed 56 = .ok (.land, 1) := by decide +kernel
theorem dX10_feed_57 : decode cX10_feed 57 = .ok (.l2i, 1) := by decide +kernel
theorem dX10_feed_58 : decode cX10_feed 58 = .ok (.iastore, 1) := by decide +kernel
theorem dX10_feed_59 : decode cX10_feed 59 = .ok (.aload_n 0, 1) := by decide +kernel
theorem dX10_feed_60 : decode cX10_feed 60 = .ok (.dup, 1) := by decide +kernel
theorem dX10_feed_61 : decode cX10_feed 61 = .ok (.getfield 148, 3) := by decide +kernel
theorem dX10_feed_64 : decode cX10_feed 64 = .ok (.iconst 1, 1) := by decide +kernel
theorem dX10_feed_65 : decode cX10_feed 65 = .ok (.iadd, 1) := by decide +kernel
theorem dX10_feed_66 : decode cX10_feed 66 = .ok (.putfield 148, 3) := by decide +kernel
theorem dX10_feed_69 : decode cX10_feed 69 = .ok (.iinc 4 (-1), 3) := by decide +kernel
theorem dX10_feed_72 : decode cX10_feed 72 = .ok (.goto (-39), 3) := by decide +kernel
theorem dX10_feed_75 : decode cX10_feed 75 = .ok (.aload_n 0, 1) := by decide +kernel
theorem dX10_feed_76 : decode cX10_feed 76 = .ok (.getfield 148, 3) := by decide +kernel
theorem dX10_feed_79 : decode cX10_feed 79 = .ok (.ireturn, 1) := by decide +kernel
theorem dX10_comes_0 : decode cX10_comes 0 = .ok (.aload_n 0, 1) := by decide +kernel
theorem dX10_comes_1 : decode cX10_comes 1 = .ok (.getfield 7, 3) := by decide +kernel
theorem dX10_comes_4 : decode cX10_comes 4 = .ok (.aload_n 0, 1) := by decide +kernel
theorem dX10_comes_5 : decode cX10_comes 5 = .ok (.getfield 138, 3) := by decide +kernel
theorem dX10_comes_8 : decode cX10_comes 8 = .ok (.iconst 1, 1) := by decide +kernel
theorem dX10_comes_9 : decode cX10_comes 9 = .ok (.bastore, 1) := by decide +kernel
theorem dX10_comes_10 : decode cX10_comes 10 = .ok (.aload_n 0, 1) := by decide +kernel
theorem dX10_comes_11 : decode cX10_comes 11 = .ok (.getfield 13, 3) := by decide +kernel
theorem dX10_comes_14 : decode cX10_comes 14 = .ok (.aload_n 0, 1) := by decide +kernel
theorem dX10_comes_15 : decode cX10_comes 15 = .ok (.getfield 138, 3) := by decide +kernel
theorem dX10_comes_18 : decode cX10_comes 18 = .ok (.iload_n 1, 1) := by decide +kernel
theorem dX10_comes_19 : decode cX10_comes 19 = .ok (.iastore, 1) := by decide +kernel
theorem dX10_comes_20 : decode cX10_comes 20 = .ok (.aload_n 0, 1) := by decide +kernel
theorem dX10_comes_21 : decode cX10_comes 21 = .ok (.getfield 17, 3) := by decide +kernel
theorem dX10_comes_24 : decode cX10_comes 24 = .ok (.aload_n 0, 1) := by decide +kernel
theorem dX10_comes_25 : decode cX10_comes 25 = .ok (.getfield 138, 3) := by decide +kernel
theorem dX10_comes_28 : decode cX10_comes 28 = .ok (.iload_n 2, 1) := by decide +kernel
theorem dX10_comes_29 : decode cX10_comes 29 = .ok (.iastore, 1) := by decide +kernel
theorem dX10_comes_30 : decode cX10_comes 30 = .ok (.aload_n 0, 1) := by decide +kernel
theorem dX10_comes_31 : decode cX10_comes 31 = .ok (.getfield 20, 3) := by decide +kernel
theorem dX10_comes_34 : decode cX10_comes 34 = .ok (.aload_n 0, 1) := by decide +kernel
theorem dX10_comes_35 : decode cX10_comes 35 = .ok (.getfield 138, 3) := by decide +kernel
theorem dX10_comes_38 : decode cX10_comes 38 = .ok (.iload_n 3, 1) := by decide +kernel
theorem dX10_comes_39 : decode cX10_comes 39 = .ok (.iastore, 1) := by decide +kernel
theorem dX10_comes_40 : decode cX10_comes 40 = .ok (.aload_n 0, 1) := by decide +kernel
theorem dX10_comes_41 : decode cX10_comes 41 = .ok (.dup, 1) := by decide +kernel
theorem dX10_comes_42 : decode cX10_comes 42 = .ok (.getfield 138, 3) := by decide +kernel
theorem dX10_comes_45 : decode cX10_comes 45 = .ok (.iconst 1, 1) := by decide +kernel
theorem dX10_comes_46 : decode cX10_comes 46 = .ok (.iadd, 1) := by decide +kernel
theorem dX10_comes_47 : decode cX10_comes 47 = .ok (.putfield 138, 3) := by decide +kernel
theorem dX10_comes_50 : decode cX10_comes 50 = .ok (.aload_n 0, 1) := by decide +kernel
theorem dX10_comes_51 : decode cX10_comes 51 = .ok (.getfield 138, 3) := by decide +kernel
theorem dX10_comes_54 : decode cX10_comes 54 = .ok (.iconst 1, 1) := by decide +kernel
theorem dX10_comes_55 : decode cX10_comes 55 = .ok (.isub, 1) := by decide +kernel
theorem dX10_comes_56 : decode cX10_comes 56 = .ok (.ireturn, 1) := by decide +kernel
theorem dX10_bolt_0 : decode cX10_bolt 0 = .ok (.iload_n 1, 1) := by decide +kernel
theorem dX10_bolt_1 : decode cX10_bolt 1 = .ok (.iconst 0, 1) := by decide +kernel
theorem dX10_bolt_2 : decode cX10_bolt 2 = .ok (.bipush 9, 2) := by decide +kernel
theorem dX10_bolt_4 : decode cX10_bolt 4 = .ok (.invokestatic 141, 3) := by decide +kernel
theorem dX10_bolt_7 : decode cX10_bolt 7 = .ok (.ifCond .eq 12, 3) := by decide +kernel
theorem dX10_bolt_10 : decode cX10_bolt 10 = .ok (.iload_n 2, 1) := by decide +kernel
theorem dX10_bolt_11 : decode cX10_bolt 11 = .ok (.iconst 0, 1) := by decide +kernel
theorem dX10_bolt_12 : decode cX10_bolt 12 = .ok (.iconst 1, 1) := by decide +kernel
theorem dX10_bolt_13 : decode cX10_bolt 13 = .ok (.invokestatic 141, 3) := by decide +kernel
theorem dX10_bolt_16 : decode cX10_bolt 16 = .ok (.ifCond .ne 6, 3) := by decide +kernel
theorem dX10_bolt_19 : decode cX10_bolt 19 = .ok (.bipush (-2), 2) := by decide +kernel
theorem dX10_bolt_21 : decode cX10_bolt 21 = .ok (.ireturn, 1) := by decide +kernel
theorem dX10_bolt_22 : decode cX10_bolt 22 = .ok (.aload_n 0, 1) := by decide +kernel
theorem dX10_bolt_23 : decode cX10_bolt 23 = .ok (.getfield 138, 3) := by decide +kernel
theorem dX10_bolt_26 : decode cX10_bolt 26 = .ok (.bipush 40, 2) := by decide +kernel
theorem dX10_bolt_28 : decode cX10_bolt 28 = .ok (.if_icmp .ne 6, 3) := by decide +kernel
theorem dX10_bolt_31 : decode cX10_bolt 31 = .ok (.bipush (-4), 2) := by decide +kernel
theorem dX10_bolt_33 : decode cX10_bolt 33 = .ok (.ireturn, 1) := by decide +kernel
theorem dX10_bolt_34 : decode cX10_bolt 34 = .ok (.iconst 0, 1) := by decide +kernel
theorem dX10_bolt_35 : decode cX10_bolt 35 = .ok (.istore_n 3, 1) := by decide +kernel
theorem dX10_bolt_36 : decode cX10_bolt 36 = .ok (.iconst 0, 1) := by decide +kernel
theorem dX10_bolt_37 : decode cX10_bolt 37 = .ok (.istore 4, 2) := by decide +kernel
theorem dX10_bolt_39 : decode cX10_bolt 39 = .ok (.iconst 0, 1) := by decide +kernel
theorem dX10_bolt_40 : decode cX10_bolt 40 = .ok (.istore 5, 2) := by decide +kernel
theorem dX10_bolt_42 : decode cX10_bolt 42 = .ok (.iconst 1, 1) := by decide +kernel
theorem dX10_bolt_43 : decode cX10_bolt 43 = .ok (.istore 6, 2) := by decide +kernel
theorem dX10_bolt_45 : decode cX10_bolt 45 = .ok (.iload 6, 2) := by decide +kernel
theorem dX10_bolt_47 : decode cX10_bolt 47 = .ok (.ifCond .eq 124, 3) := by decide +kernel
theorem dX10_bolt_50 : decode cX10_bolt 50 = .ok (.iload 4, 2) := by decide +kernel
theorem dX10_bolt_52 : decode cX10_bolt 52 = .ok (.aload_n 0, 1) := by decide +kernel
theorem dX10_bolt_53 : decode cX10_bolt 53 = .ok (.getfield 148, 3) := by decide +kernel
theorem dX10_bolt_56 : decode cX10_bolt 56 = .ok (.if_icmp .ge 115, 3) := by decide +kernel
theorem dX10_bolt_59 : decode cX10_bolt 59 = .ok (.aload_n 0, 1) := by decide +kernel
theorem dX10_bolt_60 : decode cX10_bolt 60 = .ok (.getfield 93, 3) := by decide +kernel
theorem dX10_bolt_63 : decode cX10_bolt 63 = .ok (.iload 4, 2) := by decide +kernel
theorem dX10_bolt_65 : decode cX10_bolt 65 = .ok (.iaload, 1) := by decide +kernel
theorem dX10_bolt_66 : decode cX10_bolt 66 = .ok (.bipush 48, 2) := by decide +kernel
theorem dX10_bolt_68 : decode cX10_bolt 68 = .ok (.bipush 57, 2) := by decide +kernel
theorem dX10_bolt_70 : decode cX10_bolt 70 = .ok (.invokestatic 141, 3) := by decide +kernel
theorem dX10_bolt_73 : decode cX10_bolt 73 = .ok (.ifCond .eq 45, 3) := by decide +kernel
theorem dX10_bolt_76 : decode cX10_bolt 76 = .ok (.iload_n 3, 1) := by decide +kernel
theorem dX10_bolt_77 : decode cX10_bolt 77 = .ok (.bipush 120, 2) := by decide +kernel
theorem dX10_bolt_79 : decode cX10_bolt 79 = .ok (.if_icmp .ge 39, 3) := by decide +kernel
theorem dX10_bolt_82 : decode cX10_bolt 82 = .ok (.aload_n 0, 1) := by decide +kernel
theorem dX10_bolt_83 : decode cX10_bolt 83 = .ok (.getfield 23, 3) := by decide +kernel
theorem dX10_bolt_86 : decode cX10_bolt 86 = .ok (.bipush 120, 2) := by decide +kernel
theorem dX10_bolt_88 : decode cX10_bolt 88 = .ok (.aload_n 0, 1) := by decide +kernel
theorem dX10_bolt_89 : decode cX10_bolt 89 = .ok (.getfield 138, 3) := by decide +kernel
theorem dX10_bolt_92 : decode cX10_bolt 92 = .ok (.imul, 1) := by decide +kernel
theorem dX10_bolt_93 : decode cX10_bolt 93 = .ok (.iload_n 3, 1) := by decide +kernel
theorem dX10_bolt_94 : decode cX10_bolt 94 = .ok (.iadd, 1) := by decide +kernel
theorem dX10_bolt_95 : decode cX10_bolt 95 = .ok (.aload_n 0, 1) := by decide +kernel
theorem dX10_bolt_96 : decode cX10_bolt 96 = .ok (.getfield 93, 3) := by decide +kernel
theorem dX10_bolt_99 : decode cX10_bolt 99 = .ok (.iload 4, 2) := by decide +kernel
theorem dX10_bolt_101 : decode cX10_bolt 101 = .ok (.iaload, 1) := by decide +kernel
theorem dX10_bolt_102 : decode cX10_bolt 102 = .ok (.bipush 48, 2) := by decide +kernel
theorem dX10_bolt_104 : decode cX10_bolt 104 = .ok (.isub, 1) := by decide +kernel
theorem dX10_bolt_105 : decode cX10_bolt 105 = .ok (.iastore, 1) := by decide +kernel
theorem dX10_bolt_106 : decode cX10_bolt 106 = .ok (.iinc 3 1, 3) := by decide +kernel
theorem dX10_bolt_109 : decode cX10_bolt 109 = .ok (.iconst 1, 1) := by decide +kernel
theorem dX10_bolt_110 : decode cX10_bolt 110 = .ok (.istore 5, 2) := by decide +kernel
theorem dX10_bolt_112 : decode cX10_bolt 112 = .ok (.iinc 4 1, 3) := by decide +kernel
theorem dX10_bolt_115 : decode cX10_bolt 115 = .ok (.goto (-70), 3) := by decide +kernel
theorem dX10_bolt_118 : decode cX10_bolt 118 = .ok (.aload_n 0, 1) := by decide +kernel
theorem dX10_bolt_119 : decode cX10_bolt 119 = .ok (.getfield 93, 3) := by decide +kernel
theorem dX10_bolt_122 : decode cX10_bolt 122 = .ok (.iload 4, 2) := by decide +kernel
theorem dX10_bolt_124 : decode cX10_bolt 124 = .ok (.iaload, 1) := by decide +kernel
theorem dX10_bolt_125 : decode cX10_bolt 125 = .ok (.bipush 33, 2) := by decide +kernel
theorem dX10_bolt_127 : decode cX10_bolt 127 = .ok (.if_icmp .ne 38, 3) := by decide +kernel
theorem dX10_bolt_130 : decode cX10_bolt 130 = .ok (.iload 5, 2) := by decide +kernel
theorem dX10_bolt_132 : decode cX10_bolt 132 = .ok (.ifCond .eq 33, 3) := by decide +kernel
theorem dX10_bolt_135 : decode cX10_bolt 135 = .ok (.aload_n 0, 1) := by decide +kernel
theorem dX10_bolt_136 : decode cX10_bolt 136 = .ok (.getfield 23, 3) := by decide +kernel
theorem dX10_bolt_139 : decode cX10_bolt 139 = .ok (.bipush 120, 2) := by decide +kernel
theorem dX10_bolt_141 : decode cX10_bolt 141 = .ok (.aload_n 0, 1) := by decide +kernel
theorem dX10_bolt_142 : decode cX10_bolt 142 = .ok (.getfield 138, 3) := by decide +kernel
theorem dX10_bolt_145 : decode cX10_bolt 145 = .ok (.imul, 1) := by decide +kernel
theorem dX10_bolt_146 : decode cX10_bolt 146 = .ok (.iload_n 3, 1) := by decide +kernel
theorem dX10_bolt_147 : decode cX10_bolt 147 = .ok (.iadd, 1) := by decide +kernel
theorem dX10_bolt_148 : decode cX10_bolt 148 = .ok (.iconst 1, 1) := by decide +kernel
theorem dX10_bolt_149 : decode cX10_bolt 149 = .ok (.isub, 1) := by decide +kernel
theorem dX10_bolt_150 : decode cX10_bolt 150 = .ok (.dup2, 1) := by decide +kernel
theorem dX10_bolt_151 : decode cX10_bolt 151 = .ok (.iaload, 1) := by decide +kernel
theorem dX10_bolt_152 : decode cX10_bolt 152 = .ok (.bipush 10, 2) := by decide +kernel
theorem dX10_bolt_154 : decode cX10_bolt 154 = .ok (.iadd, 1) := by decide +kernel
theorem dX10_bolt_155 : decode cX10_bolt 155 = .ok (.iastore, 1) := by decide +kernel
theorem dX10_bolt_156 : decode cX10_bolt 156 = .ok (.iconst 0, 1) := by decide +kernel
theorem dX10_bolt_157 : decode cX10_bolt 157 = .ok (.istore 5, 2) := by decide +kernel
theorem dX10_bolt_159 : decode cX10_bolt 159 = .ok (.iinc 4 1, 3) := by decide +kernel
theorem dX10_bolt_162 : decode cX10_bolt 162 = .ok (.goto (-117), 3) := by decide +kernel
theorem dX10_bolt_165 : decode cX10_bolt 165 = .ok (.iconst 0, 1) := by decide +kernel
theorem dX10_bolt_166 : decode cX10_bolt 166 = .ok (.istore 6, 2) := by decide +kernel
theorem dX10_bolt_168 : decode cX10_bolt 168 = .ok (.goto (-123), 3) := by decide +kernel
theorem dX10_bolt_171 : decode cX10_bolt 171 = .ok (.iload 6, 2) := by decide +kernel
theorem dX10_bolt_173 : decode cX10_bolt 173 = .ok (.ifCond .eq 7, 3) := by decide +kernel
theorem dX10_bolt_176 : decode cX10_bolt 176 = .ok (.iload_n 3, 1) := by decide +kernel
theorem dX10_bolt_177 : decode cX10_bolt 177 = .ok (.ifCond .ne 7, 3) := by decide +kernel
theorem dX10_bolt_180 : decode cX10_bolt 180 = .ok (.iconst 1, 1) := by decide +kernel
theorem dX10_bolt_181 : decode cX10_bolt 181 = .ok (.goto 4, 3) := by decide +kernel
theorem dX10_bolt_184 : decode cX10_bolt 184 = .ok (.iconst 0, 1) := by decide +kernel
theorem dX10_bolt_185 : decode cX10_bolt 185 = .ok (.istore 7, 2) := by decide +kernel
theorem dX10_bolt_187 : decode cX10_bolt 187 = .ok (.aload_n 0, 1) := by decide +kernel
theorem dX10_bolt_188 : decode cX10_bolt 188 = .ok (.iconst 0, 1) := by decide +kernel
theorem dX10_bolt_189 : decode cX10_bolt 189 = .ok (.putfield 148, 3) := by decide +kernel
theorem dX10_bolt_192 : decode cX10_bolt 192 = .ok (.iload 7, 2) := by decide +kernel
theorem dX10_bolt_194 : decode cX10_bolt 194 = .ok (.ifCond .eq 11, 3) := by decide +kernel
theorem dX10_bolt_197 : decode cX10_bolt 197 = .ok (.bipush (-10), 2) := by decide +kernel
theorem dX10_bolt_199 : decode cX10_bolt 199 = .ok (.iload 4, 2) := by decide +kernel
theorem dX10_bolt_201 : decode cX10_bolt 201 = .ok (.isub, 1) := by decide +kernel
theorem dX10_bolt_202 : decode cX10_bolt 202 = .ok (.goto 10, 3) := by decide +kernel
theorem dX10_bolt_205 : decode cX10_bolt 205 = .ok (.aload_n 0, 1) := by decide +kernel
theorem dX10_bolt_206 : decode cX10_bolt 206 = .ok (.iload_n 3, 1) := by decide +kernel
theorem dX10_bolt_207 : decode cX10_bolt 207 = .ok (.iload_n 1, 1) := by decide +kernel
theorem dX10_bolt_208 : decode cX10_bolt 208 = .ok (.iload_n 2, 1) := by decide +kernel
theorem dX10_bolt_209 : decode cX10_bolt 209 = .ok (.invokevirtual 153, 3) := by decide +kernel
theorem dX10_bolt_212 : decode cX10_bolt 212 = .ok (.ireturn, 1) := by decide +kernel
theorem dX10_about_0 : decode cX10_about 0 = .ok (.aload_n 0, 1) := by decide +kernel
theorem dX10_about_1 : decode cX10_about 1 = .ok (.iload_n 1, 1) := by decide +kernel
theorem dX10_about_2 : decode cX10_about 2 = .ok (.invokevirtual 157, 3) := by decide +kernel
theorem dX10_about_5 : decode cX10_about 5 = .ok (.ifCond .ne 5, 3) := by decide +kernel
theorem dX10_about_8 : decode cX10_about 8 = .ok (.iconst (-1), 1) := by decide +kernel
theorem dX10_about_9 : decode cX10_about 9 = .ok (.ireturn, 1) := by decide +kernel
theorem dX10_about_10 : decode cX10_about 10 = .ok (.iload_n 2, 1) := by decide +kernel
theorem dX10_about_11 : decode cX10_about 11 = .ok (.ifCond .ne 12, 3) := by decide +kernel
theorem dX10_about_14 : decode cX10_about 14 = .ok (.aload_n 0, 1) := by decide +kernel
theorem dX10_about_15 : decode cX10_about 15 = .ok (.getfield 13, 3) := by decide +kernel
theorem dX10_about_18 : decode cX10_about 18 = .ok (.iload_n 1, 1) := by decide +kernel
theorem dX10_about_19 : decode cX10_about 19 = .ok (.iaload, 1) := by decide +kernel
theorem dX10_about_20 : decode cX10_about 20 = .ok (.goto 32, 3) := by decide +kernel
theorem dX10_about_23 : decode cX10_about 23 = .ok (.iload_n 2, 1) := by decide +kernel
theorem dX10_about_24 : decode cX10_about 24 = .ok (.iconst 1, 1) := by decide +kernel
theorem dX10_about_25 : decode cX10_about 25 = .ok (.if_icmp .ne 12, 3) := by decide +kernel
theorem dX10_about_28 : decode cX10_about 28 = .ok (.aload_n 0, 1) := by decide +kernel
theorem dX10_about_29 : decode cX10_about 29 = .ok (.getfield 17, 3) := by decide +kernel
theorem dX10_about_32 : decode cX10_about 32 = .ok (.iload_n 1, 1) := by decide +kernel
theorem dX10_about_33 : decode cX10_about 33 = .ok (.iaload, 1) := by decide +kernel
theorem dX10_about_34 : decode cX10_about 34 = .ok (.goto 18, 3) := by decide +kernel
theorem dX10_about_37 : decode cX10_about 37 = .ok (.iload_n 2, 1) := by decide +kernel
theorem dX10_about_38 : decode cX10_about 38 = .ok (.iconst 2, 1) := by decide +kernel
theorem dX10_about_39 : decode cX10_about 39 = .ok (.if_icmp .ne 12, 3) := by decide +kernel
theorem dX10_about_42 : decode cX10_about 42 = .ok (.aload_n 0, 1) := by decide +kernel
theorem dX10_about_43 : decode cX10_about 43 = .ok (.getfield 20, 3) := by decide +kernel
theorem dX10_about_46 : decode cX10_about 46 = .ok (.iload_n 1, 1) := by decide +kernel
theorem dX10_about_47 : decode cX10_about 47 = .ok (.iaload, 1) := by decide +kernel
theorem dX10_about_48 : decode cX10_about 48 = .ok (.goto 4, 3) := by decide +kernel
theorem dX10_about_51 : decode cX10_about 51 = .ok (.iconst (-1), 1) := by decide +kernel
theorem dX10_about_52 : decode cX10_about 52 = .ok (.ireturn, 1) := by decide +kernel
theorem dX10_told_0 : decode cX10_told 0 = .ok (.iload_n 1, 1) := by decide +kernel
theorem dX10_told_1 : decode cX10_told 1 = .ok (.ifCond .ne 10, 3) := by decide +kernel
theorem dX10_told_4 : decode cX10_told 4 = .ok (.iload_n 0, 1) := by decide +kernel
theorem dX10_told_5 : decode cX10_told 5 = .ok (.bipush 10, 2) := by decide +kernel
theorem dX10_told_7 : decode cX10_told 7 = .ok (.irem, 1) := by decide +kernel
theorem dX10_told_8 : decode cX10_told 8 = .ok (.goto 31, 3) := by decide +kernel
theorem dX10_told_11 : decode cX10_told 11 = .ok (.iload_n 1, 1) := by decide +kernel
theorem dX10_told_12 : decode cX10_told 12 = .ok (.iconst 1, 1) := by decide +kernel
theorem dX10_told_13 : decode cX10_told 13 = .ok (.if_icmp .ne 13, 3) := by decide +kernel
theorem dX10_told_16 : decode cX10_told 16 = .ok (.iload_n 0, 1) := by decide +kernel
theorem dX10_told_17 : decode cX10_told 17 = .ok (.bipush 10, 2) := by decide +kernel
theorem dX10_told_19 : decode cX10_told 19 = .ok (.idiv, 1) := by decide +kernel
theorem dX10_told_20 : decode cX10_told 20 = .ok (.bipush 10, 2) := by decide +kernel
theorem dX10_told_22 : decode cX10_told 22 = .ok (.irem, 1) := by decide +kernel
theorem dX10_told_23 : decode cX10_told 23 = .ok (.goto 16, 3) := by decide +kernel
theorem dX10_told_26 : decode cX10_told 26 = .ok (.iload_n 1, 1) := by decide +kernel
theorem dX10_told_27 : decode cX10_told 27 = .ok (.iconst 2, 1) := by decide +kernel
theorem dX10_told_28 : decode cX10_told 28 = .ok (.if_icmp .ne 10, 3) := by decide +kernel
theorem dX10_told_31 : decode cX10_told 31 = .ok (.iload_n 0, 1) := by decide +kernel
theorem dX10_told_32 : decode cX10_told 32 = .ok (.bipush 100, 2) := by decide +kernel
theorem dX10_told_34 : decode cX10_told 34 = .ok (.idiv, 1) := by decide +kernel
theorem dX10_told_35 : decode cX10_told 35 = .ok (.goto 4, 3) := by decide +kernel
theorem dX10_told_38 : decode cX10_told 38 = .ok (.iconst (-1), 1) := by decide +kernel
theorem dX10_told_39 : decode cX10_told 39 = .ok (.ireturn, 1) := by decide +kernel
theorem dX10_row_0 : decode cX10_row 0 = .ok (.aload_n 0, 1) := by decide +kernel
theorem dX10_row_1 : decode cX10_row 1 = .ok (.iload_n 1, 1) := by decide +kernel
theorem dX10_row_2 : decode cX10_row 2 = .ok (.invokevirtual 157, 3) := by decide +kernel
theorem dX10_row_5 : decode cX10_row 5 = .ok (.ifCond .eq 37, 3) := by decide +kernel
theorem dX10_row_8 : decode cX10_row 8 = .ok (.iload_n 2, 1) := by decide +kernel
theorem dX10_row_9 : decode cX10_row 9 = .ok (.iconst 0, 1) := by decide +kernel
theorem dX10_row_10 : decode cX10_row 10 = .ok (.aload_n 0, 1) := by decide +kernel
theorem dX10_row_11 : decode cX10_row 11 = .ok (.getfield 13, 3) := by decide +kernel
theorem dX10_row_14 : decode cX10_row 14 = .ok (.iload_n 1, 1) := by decide +kernel
theorem dX10_row_15 : decode cX10_row 15 = .ok (.iaload, 1) := by decide +kernel
theorem dX10_row_16 : decode cX10_row 16 = .ok (.iconst 1, 1) := by decide +kernel
theorem dX10_row_17 : decode cX10_row 17 = .ok (.isub, 1) := by decide +kernel
theorem dX10_row_18 : decode cX10_row 18 = .ok (.invokestatic 141, 3) := by decide +kernel
theorem dX10_row_21 : decode cX10_row 21 = .ok (.ifCond .eq 21, 3) := by decide +kernel
theorem dX10_row_24 : decode cX10_row 24 = .ok (.aload_n 0, 1) := by decide +kernel
theorem dX10_row_25 : decode cX10_row 25 = .ok (.getfield 23, 3) := by decide +kernel
theorem dX10_row_28 : decode cX10_row 28 = .ok (.bipush 120, 2) := by decide +kernel
theorem dX10_row_30 : decode cX10_row 30 = .ok (.iload_n 1, 1) := by decide +kernel
theorem dX10_row_31 : decode cX10_row 31 = .ok (.imul, 1) := by decide +kernel
theorem dX10_row_32 : decode cX10_row 32 = .ok (.iload_n 2, 1) := by decide +kernel
theorem dX10_row_33 : decode cX10_row 33 = .ok (.iadd, 1) := by decide +kernel
theorem dX10_row_34 : decode cX10_row 34 = .ok (.iaload, 1) := by decide +kernel
theorem dX10_row_35 : decode cX10_row 35 = .ok (.iload_n 3, 1) := by decide +kernel
theorem dX10_row_36 : decode cX10_row 36 = .ok (.invokestatic 161, 3) := by decide +kernel
theorem dX10_row_39 : decode cX10_row 39 = .ok (.goto 4, 3) := by decide +kernel
theorem dX10_row_42 : decode cX10_row 42 = .ok (.iconst (-1), 1) := by decide +kernel
theorem dX10_row_43 : decode cX10_row 43 = .ok (.ireturn, 1) := by decide +kernel
theorem dX10_wash_0 : decode cX10_wash 0 = .ok (.aload_n 0, 1) := by decide +kernel
theorem dX10_wash_1 : decode cX10_wash 1 = .ok (.iload_n 1, 1) := by decide +kernel
theorem dX10_wash_2 : decode cX10_wash 2 = .ok (.invokevirtual 157, 3) := by decide +kernel
theorem dX10_wash_5 : decode cX10_wash 5 = .ok (.ifCond .ne 5, 3) := by decide +kernel
theorem dX10_wash_8 : decode cX10_wash 8 = .ok (.iconst (-1), 1) := by decide +kernel
theorem dX10_wash_9 : decode cX10_wash 9 = .ok (.ireturn, 1) := by decide +kernel
theorem dX10_wash_10 : decode cX10_wash 10 = .ok (.aload_n 0, 1) := by decide +kernel
theorem dX10_wash_11 : decode cX10_wash 11 = .ok (.getfield 17, 3) := by decide +kernel
theorem dX10_wash_14 : decode cX10_wash 14 = .ok (.iload_n 1, 1) := by decide +kernel
theorem dX10_wash_15 : decode cX10_wash 15 = .ok (.dup2, 1) := by decide +kernel
theorem dX10_wash_16 : decode cX10_wash 16 = .ok (.iaload, 1) := by decide +kernel
theorem dX10_wash_17 : decode cX10_wash 17 = .ok (.aload_n 0, 1) := by decide +kernel
theorem dX10_wash_18 : decode cX10_wash 18 = .ok (.getfield 17, 3) := by decide +kernel
theorem dX10_wash_21 : decode cX10_wash 21 = .ok (.iload_n 1, 1) := by decide +kernel
theorem dX10_wash_22 : decode cX10_wash 22 = .ok (.iaload, 1) := by decide +kernel
theorem dX10_wash_23 : decode cX10_wash 23 = .ok (.ifCond .le 7, 3) := by decide +kernel
theorem dX10_wash_26 : decode cX10_wash 26 = .ok (.iconst 1, 1) := by decide +kernel
theorem dX10_wash_27 : decode cX10_wash 27 = .ok (.goto 4, 3) := by decide +kernel
theorem dX10_wash_30 : decode cX10_wash 30 = .ok (.iconst 0, 1) := by decide +kernel
theorem dX10_wash_31 : decode cX10_wash 31 = .ok (.isub, 1) := by decide +kernel
theorem dX10_wash_32 : decode cX10_wash 32 = .ok (.iastore, 1) := by decide +kernel
theorem dX10_wash_33 : decode cX10_wash 33 = .ok (.aload_n 0, 1) := by decide +kernel
theorem dX10_wash_34 : decode cX10_wash 34 = .ok (.getfield 17, 3) := by decide +kernel
theorem dX10_wash_37 : decode cX10_wash 37 = .ok (.iload_n 1, 1) := by decide +kernel
theorem dX10_wash_38 : decode cX10_wash 38 = .ok (.iaload, 1) := by decide +kernel
theorem dX10_wash_39 : decode cX10_wash 39 = .ok (.ireturn, 1) := by decide +kernel
theorem dX10_dye_0 : decode cX10_dye 0 = .ok (.aload_n 0, 1) := by decide +kernel
theorem dX10_dye_1 : decode cX10_dye 1 = .ok (.iload_n 1, 1) := by decide +kernel
theorem dX10_dye_2 : decode cX10_dye 2 = .ok (.invokevirtual 157, 3) := by decide +kernel
theorem dX10_dye_5 : decode cX10_dye 5 = .ok (.ifCond .ne 5, 3) := by decide +kernel
theorem dX10_dye_8 : decode cX10_dye 8 = .ok (.iconst (-1), 1) := by decide +kernel
theorem dX10_dye_9 : decode cX10_dye 9 = .ok (.ireturn, 1) := by decide +kernel
theorem dX10_dye_10 : decode cX10_dye 10 = .ok (.iload_n 2, 1) := by decide +kernel
theorem dX10_dye_11 : decode cX10_dye 11 = .ok (.iconst 0, 1) := by decide +kernel
theorem dX10_dye_12 : decode cX10_dye 12 = .ok (.bipush 9, 2) := by decide +kernel
theorem dX10_dye_14 : decode cX10_dye 14 = .ok (.invokestatic 141, 3) := by decide +kernel
theorem dX10_dye_17 : decode cX10_dye 17 = .ok (.ifCond .ne 6, 3) := by decide +kernel
theorem dX10_dye_20 : decode cX10_dye 20 = .ok (.bipush (-2), 2) := by decide +kernel
theorem dX10_dye_22 : decode cX10_dye 22 = .ok (.ireturn, 1) := by decide +kernel
theorem dX10_dye_23 : decode cX10_dye 23 = .ok (.iload_n 2, 1) := by decide +kernel
theorem dX10_dye_24 : decode cX10_dye 24 = .ok (.aload_n 0, 1) := by decide +kernel
theorem dX10_dye_25 : decode cX10_dye 25 = .ok (.getfield 17, 3) := by decide +kernel
theorem dX10_dye_28 : decode cX10_dye 28 = .ok (.iload_n 1, 1) := by decide +kernel
theorem dX10_dye_29 : decode cX10_dye 29 = .ok (.iaload, 1) := by decide +kernel
theorem dX10_dye_30 : decode cX10_dye 30 = .ok (.if_icmp .gt 6, 3) := by decide +kernel
theorem dX10_dye_33 : decode cX10_dye 33 = .ok (.bipush (-3), 2) := by decide +kernel
theorem dX10_dye_35 : decode cX10_dye 35 = .ok (.ireturn, 1) := by decide +kernel
theorem dX10_dye_36 : decode cX10_dye 36 = .ok (.aload_n 0, 1) := by decide +kernel
theorem dX10_dye_37 : decode cX10_dye 37 = .ok (.getfield 17, 3) := by decide +kernel
theorem dX10_dye_40 : decode cX10_dye 40 = .ok (.iload_n 1, 1) := by decide +kernel
theorem dX10_dye_41 : decode cX10_dye 41 = .ok (.iload_n 2, 1) := by decide +kernel
theorem dX10_dye_42 : decode cX10_dye 42 = .ok (.iastore, 1) := by decide +kernel
theorem dX10_dye_43 : decode cX10_dye 43 = .ok (.iconst 0, 1) := by decide +kernel
theorem dX10_dye_44 : decode cX10_dye 44 = .ok (.istore_n 3, 1) := by decide +kernel
theorem dX10_dye_45 : decode cX10_dye 45 = .ok (.bipush 120, 2) := by decide +kernel
theorem dX10_dye_47 : decode cX10_dye 47 = .ok (.iload_n 1, 1) := by decide +kernel
theorem dX10_dye_48 : decode cX10_dye 48 = .ok (.imul, 1) := by decide +kernel
theorem dX10_dye_49 : decode cX10_dye 49 = .ok (.istore 4, 2) := by decide +kernel
theorem dX10_dye_51 : decode cX10_dye 51 = .ok (.iload 4, 2) := by decide +kernel
theorem dX10_dye_53 : decode cX10_dye 53 = .ok (.bipush 120, 2) := by decide +kernel
theorem dX10_dye_55 : decode cX10_dye 55 = .ok (.iload_n 1, 1) := by decide +kernel
theorem dX10_dye_56 : decode cX10_dye 56 = .ok (.imul, 1) := by decide +kernel
theorem dX10_dye_57 : decode cX10_dye 57 = .ok (.aload_n 0, 1) := by decide +kernel
theorem dX10_dye_58 : decode cX10_dye 58 = .ok (.getfield 13, 3) := by decide +kernel
theorem dX10_dye_61 : decode cX10_dye 61 = .ok (.iload_n 1, 1) := by decide +kernel
theorem dX10_dye_62 : decode cX10_dye 62 = .ok (.iaload, 1) := by decide +kernel
theorem dX10_dye_63 : decode cX10_dye 63 = .ok (.iadd, 1) := by decide +kernel
theorem dX10_dye_64 : decode cX10_dye 64 = .ok (.if_icmp .ge 44, 3) := by decide +kernel
theorem dX10_dye_67 : decode cX10_dye 67 = .ok (.aload_n 0, 1) := by decide +kernel
theorem dX10_dye_68 : decode cX10_dye 68 = .ok (.getfield 23, 3) := by decide +kernel
theorem dX10_dye_71 : decode cX10_dye 71 = .ok (.iload 4, 2) := by decide +kernel
theorem dX10_dye_73 : decode cX10_dye 73 = .ok (.iaload, 1) := by decide +kernel
theorem dX10_dye_74 : decode cX10_dye 74 = .ok (.bipush 10, 2) := by decide +kernel
theorem dX10_dye_76 : decode cX10_dye 76 = .ok (.irem, 1) := by decide +kernel
theorem dX10_dye_77 : decode cX10_dye 77 = .ok (.istore 5, 2) := by decide +kernel
theorem dX10_dye_79 : decode cX10_dye 79 = .ok (.iload 5, 2) := by decide +kernel
theorem dX10_dye_81 : decode cX10_dye 81 = .ok (.iload_n 2, 1) := by decide +kernel
theorem dX10_dye_82 : decode cX10_dye 82 = .ok (.if_icmp .ge 20, 3) := by decide +kernel
theorem dX10_dye_85 : decode cX10_dye 85 = .ok (.aload_n 0, 1) := by decide +kernel
theorem dX10_dye_86 : decode cX10_dye 86 = .ok (.getfield 23, 3) := by decide +kernel
theorem dX10_dye_89 : decode cX10_dye 89 = .ok (.iload 4, 2) := by decide +kernel
theorem dX10_dye_91 : decode cX10_dye 91 = .ok (.dup2, 1) := by decide +kernel
theorem dX10_dye_92 : decode cX10_dye 92 = .ok (.iaload, 1) := by decide +kernel
theorem dX10_dye_93 : decode cX10_dye 93 = .ok (.iload_n 2, 1) := by decide +kernel
theorem dX10_dye_94 : decode cX10_dye 94 = .ok (.iload 5, 2) := by decide +kernel
theorem dX10_dye_96 : decode cX10_dye 96 = .ok (.isub, 1) := by decide +kernel
theorem dX10_dye_97 : decode cX10_dye 97 = .ok (.iadd, 1) := by decide +kernel
theorem dX10_dye_98 : decode cX10_dye 98 = .ok (.iastore, 1) := by decide +kernel
theorem dX10_dye_99 : decode cX10_dye 99 = .ok (.iinc 3 1, 3) := by decide +kernel
theorem dX10_dye_102 : decode cX10_dye 102 = .ok (.iinc 4 1, 3) := by decide +kernel
theorem dX10_dye_105 : decode cX10_dye 105 = .ok (.goto (-54), 3) := by decide +kernel
theorem dX10_dye_108 : decode cX10_dye 108 = .ok (.iload_n 3, 1) := by decide +kernel
theorem dX10_dye_109 : decode cX10_dye 109 = .ok (.ireturn, 1) := by decide +kernel
theorem dX10_measure_0 : decode cX10_measure 0 = .ok (.iload_n 1, 1) := by decide +kernel
theorem dX10_measure_1 : decode cX10_measure 1 = .ok (.iconst 1, 1) := by decide +kernel
theorem dX10_measure_2 : decode cX10_measure 2 = .ok (.bipush 30, 2) := by decide +kernel
theorem dX10_measure_4 : decode cX10_measure 4 = .ok (.invokestatic 141, 3) := by decide +kernel
theorem dX10_measure_7 : decode cX10_measure 7 = .ok (.ifCond .eq 23, 3) := by decide +kernel
theorem dX10_measure_10 : decode cX10_measure 10 = .ok (.iload_n 2, 1) := by decide +kernel
theorem dX10_measure_11 : decode cX10_measure 11 = .ok (.iconst 1, 1) := by decide +kernel
theorem dX10_measure_12 : decode cX10_measure 12 = .ok (.bipush 30, 2) := by decide +kernel
theorem dX10_measure_14 : decode cX10_measure 14 = .ok (.invokestatic 141, 3) := by decide +kernel
theorem dX10_measure_17 : decode cX10_measure 17 = .ok (.ifCond .eq 13, 3) := by decide +kernel
theorem dX10_measure_20 : decode cX10_measure 20 = .ok (.iload_n 3, 1) := by decide +kernel
theorem dX10_measure_21 : decode cX10_measure 21 = .ok (.iconst 1, 1) := by decide +kernel
theorem dX10_measure_22 : decode cX10_measure 22 = .ok (.bipush 30, 2) := by decide +kernel
theorem dX10_measure_24 : decode cX10_measure 24 = .ok (.invokestatic 141, 3) := by decide +kernel
theorem dX10_measure_27 : decode cX10_measure 27 = .ok (.ifCond .ne 6, 3) := by decide +kernel
theorem dX10_measure_30 : decode cX10_measure 30 = .ok (.bipush (-2), 2) := by decide +kernel
theorem dX10_measure_32 : decode cX10_measure 32 = .ok (.ireturn, 1) := by decide +kernel
theorem dX10_measure_33 : decode cX10_measure 33 = .ok (.aload_n 0, 1) := by decide +kernel
theorem dX10_measure_34 : decode cX10_measure 34 = .ok (.iload_n 1, 1) := by decide +kernel
theorem dX10_measure_35 : decode cX10_measure 35 = .ok (.putfield 68, 3) := by decide +kernel
theorem dX10_measure_38 : decode cX10_measure 38 = .ok (.aload_n 0, 1) := by decide +kernel
theorem dX10_measure_39 : decode cX10_measure 39 = .ok (.iload_n 2, 1) := by decide +kernel
theorem dX10_measure_40 : decode cX10_measure 40 = .ok (.putfield 72, 3) := by decide +kernel
theorem dX10_measure_43 : decode cX10_measure 43 = .ok (.aload_n 0, 1) := by decide +kernel
theorem dX10_measure_44 : decode cX10_measure 44 = .ok (.iload_n 3, 1) := by decide +kernel
theorem dX10_measure_45 : decode cX10_measure 45 = .ok (.putfield 75, 3) := by decide +kernel
theorem dX10_measure_48 : decode cX10_measure 48 = .ok (.iconst 0, 1) := by decide +kernel
theorem dX10_measure_49 : decode cX10_measure 49 = .ok (.ireturn, 1) := by decide +kernel
theorem dX10_set_0 : decode cX10_set 0 = .ok (.iload_n 1, 1) := by decide +kernel
theorem dX10_set_1 : decode cX10_set 1 = .ok (.iconst 0, 1) := by decide +kernel
theorem dX10_set_2 : decode cX10_set 2 = .ok (.iconst 1, 1) := by decide +kernel
theorem dX10_set_3 : decode cX10_set 3 = .ok (.invokestatic 141, 3) := by decide +kernel
theorem dX10_set_6 : decode cX10_set 6 = .ok (.ifCond .ne 5, 3) := by decide +kernel
theorem dX10_set_9 : decode cX10_set 9 = .ok (.iconst (-1), 1) := by decide +kernel
theorem dX10_set_10 : decode cX10_set 10 = .ok (.ireturn, 1) := by decide +kernel
theorem dX10_set_11 : decode cX10_set 11 = .ok (.iload_n 2, 1) := by decide +kernel
theorem dX10_set_12 : decode cX10_set 12 = .ok (.iconst 0, 1) := by decide +kernel
theorem dX10_set_13 : decode cX10_set 13 = .ok (.bipush 9, 2) := by decide +kernel
theorem dX10_set_15 : decode cX10_set 15 = .ok (.invokestatic 141, 3) := by decide +kernel
