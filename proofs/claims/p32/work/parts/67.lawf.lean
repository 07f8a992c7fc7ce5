/-! f_L_law -/
theorem dL_law_0 : decode cL_law 0 = .ok (.new 10, 3) := by decide +kernel
theorem dL_law_3 : decode cL_law 3 = .ok (.dup, 1) := by decide +kernel
theorem dL_law_4 : decode cL_law 4 = .ok (.invokespecial 176, 3) := by decide +kernel
theorem dL_law_7 : decode cL_law 7 = .ok (.astore_n 1, 1) := by decide +kernel
theorem dL_law_8 : decode cL_law 8 = .ok (.iconst 4, 1) := by decide +kernel
theorem dL_law_9 : decode cL_law 9 = .ok (.newarray .int, 2) := by decide +kernel
theorem dL_law_11 : decode cL_law 11 = .ok (.astore_n 2, 1) := by decide +kernel
theorem dL_law_12 : decode cL_law 12 = .ok (.bipush 60, 2) := by decide +kernel
theorem dL_law_14 : decode cL_law 14 = .ok (.newarray .int, 2) := by decide +kernel
theorem dL_law_16 : decode cL_law 16 = .ok (.astore_n 3, 1) := by decide +kernel
theorem dL_law_17 : decode cL_law 17 = .ok (.bipush 64, 2) := by decide +kernel
theorem dL_law_19 : decode cL_law 19 = .ok (.newarray .int, 2) := by decide +kernel
theorem dL_law_21 : decode cL_law 21 = .ok (.astore 4, 2) := by decide +kernel
theorem dL_law_23 : decode cL_law 23 = .ok (.bipush 48, 2) := by decide +kernel
theorem dL_law_25 : decode cL_law 25 = .ok (.newarray .int, 2) := by decide +kernel
theorem dL_law_27 : decode cL_law 27 = .ok (.astore 5, 2) := by decide +kernel
theorem dL_law_29 : decode cL_law 29 = .ok (.bipush 40, 2) := by decide +kernel
theorem dL_law_31 : decode cL_law 31 = .ok (.newarray .int, 2) := by decide +kernel
theorem dL_law_33 : decode cL_law 33 = .ok (.astore 6, 2) := by decide +kernel
theorem dL_law_35 : decode cL_law 35 = .ok (.bipush 64, 2) := by decide +kernel
theorem dL_law_37 : decode cL_law 37 = .ok (.newarray .int, 2) := by decide +kernel
theorem dL_law_39 : decode cL_law 39 = .ok (.astore 7, 2) := by decide +kernel
theorem dL_law_41 : decode cL_law 41 = .ok (.aload_n 1, 1) := by decide +kernel
theorem dL_law_42 : decode cL_law 42 = .ok (.aload 5, 2) := by decide +kernel
theorem dL_law_44 : decode cL_law 44 = .ok (.aload_n 2, 1) := by decide +kernel
theorem dL_law_45 : decode cL_law 45 = .ok (.iconst 0, 1) := by decide +kernel
theorem dL_law_46 : decode cL_law 46 = .ok (.invokestatic 177, 3) := by decide +kernel
theorem dL_law_49 : decode cL_law 49 = .ok (.ifCond .eq 39, 3) := by decide +kernel
theorem dL_law_52 : decode cL_law 52 = .ok (.aload_n 1, 1) := by decide +kernel
theorem dL_law_53 : decode cL_law 53 = .ok (.aload 5, 2) := by decide +kernel
theorem dL_law_55 : decode cL_law 55 = .ok (.aload_n 2, 1) := by decide +kernel
theorem dL_law_56 : decode cL_law 56 = .ok (.iconst 1, 1) := by decide +kernel
theorem dL_law_57 : decode cL_law 57 = .ok (.invokestatic 177, 3) := by decide +kernel
theorem dL_law_60 : decode cL_law 60 = .ok (.ifCond .eq 28, 3) := by decide +kernel
theorem dL_law_63 : decode cL_law 63 = .ok (.aload_n 1, 1) := by decide +kernel
theorem dL_law_64 : decode cL_law 64 = .ok (.invokevirtual 123, 3) := by decide +kernel
theorem dL_law_67 : decode cL_law 67 = .ok (.iconst (-1), 1) := by decide +kernel
theorem dL_law_68 : decode cL_law 68 = .ok (.if_icmp .ne 20, 3) := by decide +kernel
theorem dL_law_71 : decode cL_law 71 = .ok (.aload_n 1, 1) := by decide +kernel
theorem dL_law_72 : decode cL_law 72 = .ok (.aload_n 0, 1) := by decide +kernel
theorem dL_law_73 : decode cL_law 73 = .ok (.aload 6, 2) := by decide +kernel
theorem dL_law_75 : decode cL_law 75 = .ok (.sipush 300, 3) := by decide +kernel
theorem dL_law_78 : decode cL_law 78 = .ok (.invokestatic 181, 3) := by decide +kernel
theorem dL_law_81 : decode cL_law 81 = .ok (.ifCond .eq 7, 3) := by decide +kernel
theorem dL_law_84 : decode cL_law 84 = .ok (.iconst 1, 1) := by decide +kernel
theorem dL_law_85 : decode cL_law 85 = .ok (.goto 4, 3) := by decide +kernel
theorem dL_law_88 : decode cL_law 88 = .ok (.iconst 0, 1) := by decide +kernel
theorem dL_law_89 : decode cL_law 89 = .ok (.istore 8, 2) := by decide +kernel
theorem dL_law_91 : decode cL_law 91 = .ok (.iconst 0, 1) := by decide +kernel
theorem dL_law_92 : decode cL_law 92 = .ok (.istore 9, 2) := by decide +kernel
theorem dL_law_94 : decode cL_law 94 = .ok (.iload 9, 2) := by decide +kernel
theorem dL_law_96 : decode cL_law 96 = .ok (.bipush 100, 2) := by decide +kernel
theorem dL_law_98 : decode cL_law 98 = .ok (.if_icmp .ge 1123, 3) := by decide +kernel
theorem dL_law_101 : decode cL_law 101 = .ok (.iload 8, 2) := by decide +kernel
theorem dL_law_103 : decode cL_law 103 = .ok (.ifCond .eq 1118, 3) := by decide +kernel
theorem dL_law_106 : decode cL_law 106 = .ok (.aload_n 0, 1) := by decide +kernel
theorem dL_law_107 : decode cL_law 107 = .ok (.iload 9, 2) := by decide +kernel
theorem dL_law_109 : decode cL_law 109 = .ok (.invokestatic 139, 3) := by decide +kernel
theorem dL_law_112 : decode cL_law 112 = .ok (.istore 10, 2) := by decide +kernel
theorem dL_law_114 : decode cL_law 114 = .ok (.iload 10, 2) := by decide +kernel
theorem dL_law_116 : decode cL_law 116 = .ok (.bipush 32, 2) := by decide +kernel
theorem dL_law_118 : decode cL_law 118 = .ok (.idiv, 1) := by decide +kernel
theorem dL_law_119 : decode cL_law 119 = .ok (.istore 11, 2) := by decide +kernel
theorem dL_law_121 : decode cL_law 121 = .ok (.iload 10, 2) := by decide +kernel
theorem dL_law_123 : decode cL_law 123 = .ok (.bipush 32, 2) := by decide +kernel
theorem dL_law_125 : decode cL_law 125 = .ok (.irem, 1) := by decide +kernel
theorem dL_law_126 : decode cL_law 126 = .ok (.istore 12, 2) := by decide +kernel
theorem dL_law_128 : decode cL_law 128 = .ok (.aload_n 1, 1) := by decide +kernel
theorem dL_law_129 : decode cL_law 129 = .ok (.invokevirtual 103, 3) := by decide +kernel
theorem dL_law_132 : decode cL_law 132 = .ok (.bipush 8, 2) := by decide +kernel
theorem dL_law_134 : decode cL_law 134 = .ok (.idiv, 1) := by decide +kernel
theorem dL_law_135 : decode cL_law 135 = .ok (.istore 13, 2) := by decide +kernel
theorem dL_law_137 : decode cL_law 137 = .ok (.aload_n 2, 1) := by decide +kernel
theorem dL_law_138 : decode cL_law 138 = .ok (.iconst 0, 1) := by decide +kernel
theorem dL_law_139 : decode cL_law 139 = .ok (.iaload, 1) := by decide +kernel
theorem dL_law_140 : decode cL_law 140 = .ok (.ifCond .ne 7, 3) := by decide +kernel
theorem dL_law_143 : decode cL_law 143 = .ok (.iconst 0, 1) := by decide +kernel
theorem dL_law_144 : decode cL_law 144 = .ok (.goto 9, 3) := by decide +kernel
theorem dL_law_147 : decode cL_law 147 = .ok (.iload 11, 2) := by decide +kernel
theorem dL_law_149 : decode cL_law 149 = .ok (.aload_n 2, 1) := by decide +kernel
theorem dL_law_150 : decode cL_law 150 = .ok (.iconst 0, 1) := by decide +kernel
theorem dL_law_151 : decode cL_law 151 = .ok (.iaload, 1) := by decide +kernel
theorem dL_law_152 : decode cL_law 152 = .ok (.irem, 1) := by decide +kernel
theorem dL_law_153 : decode cL_law 153 = .ok (.istore 14, 2) := by decide +kernel
theorem dL_law_155 : decode cL_law 155 = .ok (.aload_n 2, 1) := by decide +kernel
theorem dL_law_156 : decode cL_law 156 = .ok (.iconst 0, 1) := by decide +kernel
theorem dL_law_157 : decode cL_law 157 = .ok (.iaload, 1) := by decide +kernel
theorem dL_law_158 : decode cL_law 158 = .ok (.iconst 2, 1) := by decide +kernel
theorem dL_law_159 : decode cL_law 159 = .ok (.if_icmp .lt 15, 3) := by decide +kernel
theorem dL_law_162 : decode cL_law 162 = .ok (.iload 12, 2) := by decide +kernel
theorem dL_law_164 : decode cL_law 164 = .ok (.ifCond .ne 44, 3) := by decide +kernel
theorem dL_law_167 : decode cL_law 167 = .ok (.aload_n 2, 1) := by decide +kernel
theorem dL_law_168 : decode cL_law 168 = .ok (.iconst 0, 1) := by decide +kernel
theorem dL_law_169 : decode cL_law 169 = .ok (.iaload, 1) := by decide +kernel
theorem dL_law_170 : decode cL_law 170 = .ok (.iconst 5, 1) := by decide +kernel
theorem dL_law_171 : decode cL_law 171 = .ok (.if_icmp .ge 37, 3) := by decide +kernel
theorem dL_law_174 : decode cL_law 174 = .ok (.aload_n 2, 1) := by decide +kernel
theorem dL_law_175 : decode cL_law 175 = .ok (.iconst 0, 1) := by decide +kernel
theorem dL_law_176 : decode cL_law 176 = .ok (.dup2, 1) := by decide +kernel
theorem dL_law_177 : decode cL_law 177 = .ok (.iaload, 1) := by decide +kernel
theorem dL_law_178 : decode cL_law 178 = .ok (.iconst 1, 1) := by decide +kernel
theorem dL_law_179 : decode cL_law 179 = .ok (.iadd, 1) := by decide +kernel
theorem dL_law_180 : decode cL_law 180 = .ok (.iastore, 1) := by decide +kernel
theorem dL_law_181 : decode cL_law 181 = .ok (.aload_n 1, 1) := by decide +kernel
theorem dL_law_182 : decode cL_law 182 = .ok (.iconst 3, 1) := by decide +kernel
theorem dL_law_183 : decode cL_law 183 = .ok (.iconst 0, 1) := by decide +kernel
theorem dL_law_184 : decode cL_law 184 = .ok (.iconst 0, 1) := by decide +kernel
theorem dL_law_185 : decode cL_law 185 = .ok (.iconst 0, 1) := by decide +kernel
theorem dL_law_186 : decode cL_law 186 = .ok (.iconst 0, 1) := by decide +kernel
theorem dL_law_187 : decode cL_law 187 = .ok (.invokestatic 133, 3) := by decide +kernel
theorem dL_law_190 : decode cL_law 190 = .ok (.aload_n 2, 1) := by decide +kernel
theorem dL_law_191 : decode cL_law 191 = .ok (.iconst 0, 1) := by decide +kernel
theorem dL_law_192 : decode cL_law 192 = .ok (.iaload, 1) := by decide +kernel
theorem dL_law_193 : decode cL_law 193 = .ok (.iconst 1, 1) := by decide +kernel
theorem dL_law_194 : decode cL_law 194 = .ok (.isub, 1) := by decide +kernel
theorem dL_law_195 : decode cL_law 195 = .ok (.if_icmp .ne 7, 3) := by decide +kernel
theorem dL_law_198 : decode cL_law 198 = .ok (.iconst 1, 1) := by decide +kernel
theorem dL_law_199 : decode cL_law 199 = .ok (.goto 4, 3) := by decide +kernel
theorem dL_law_202 : decode cL_law 202 = .ok (.iconst 0, 1) := by decide +kernel
theorem dL_law_203 : decode cL_law 203 = .ok (.istore 8, 2) := by decide +kernel
theorem dL_law_205 : decode cL_law 205 = .ok (.goto 893, 3) := by decide +kernel
theorem dL_law_208 : decode cL_law 208 = .ok (.iload 12, 2) := by decide +kernel
theorem dL_law_210 : decode cL_law 210 = .ok (.bipush 8, 2) := by decide +kernel
theorem dL_law_212 : decode cL_law 212 = .ok (.if_icmp .ge 133, 3) := by decide +kernel
theorem dL_law_215 : decode cL_law 215 = .ok (.aload_n 2, 1) := by decide +kernel
theorem dL_law_216 : decode cL_law 216 = .ok (.iconst 2, 1) := by decide +kernel
theorem dL_law_217 : decode cL_law 217 = .ok (.iaload, 1) := by decide +kernel
theorem dL_law_218 : decode cL_law 218 = .ok (.bipush 60, 2) := by decide +kernel
theorem dL_law_220 : decode cL_law 220 = .ok (.if_icmp .ge 125, 3) := by decide +kernel
theorem dL_law_223 : decode cL_law 223 = .ok (.aload_n 1, 1) := by decide +kernel
theorem dL_law_224 : decode cL_law 224 = .ok (.invokevirtual 103, 3) := by decide +kernel
theorem dL_law_227 : decode cL_law 227 = .ok (.iload 11, 2) := by decide +kernel
theorem dL_law_229 : decode cL_law 229 = .ok (.bipush 7, 2) := by decide +kernel
theorem dL_law_231 : decode cL_law 231 = .ok (.idiv, 1) := by decide +kernel
theorem dL_law_232 : decode cL_law 232 = .ok (.aload_n 1, 1) := by decide +kernel
theorem dL_law_233 : decode cL_law 233 = .ok (.invokevirtual 103, 3) := by decide +kernel
theorem dL_law_236 : decode cL_law 236 = .ok (.bipush 12, 2) := by decide +kernel
theorem dL_law_238 : decode cL_law 238 = .ok (.if_icmp .ge 12, 3) := by decide +kernel
theorem dL_law_241 : decode cL_law 241 = .ok (.aload_n 1, 1) := by decide +kernel
theorem dL_law_242 : decode cL_law 242 = .ok (.invokevirtual 103, 3) := by decide +kernel
theorem dL_law_245 : decode cL_law 245 = .ok (.iconst 1, 1) := by decide +kernel
theorem dL_law_246 : decode cL_law 246 = .ok (.iadd, 1) := by decide +kernel
theorem dL_law_247 : decode cL_law 247 = .ok (.goto 5, 3) := by decide +kernel
theorem dL_law_250 : decode cL_law 250 = .ok (.bipush 12, 2) := by decide +kernel
theorem dL_law_252 : decode cL_law 252 = .ok (.irem, 1) := by decide +kernel
theorem dL_law_253 : decode cL_law 253 = .ok (.isub, 1) := by decide +kernel
theorem dL_law_254 : decode cL_law 254 = .ok (.istore 15, 2) := by decide +kernel
theorem dL_law_256 : decode cL_law 256 = .ok (.aload_n 3, 1) := by decide +kernel
theorem dL_law_257 : decode cL_law 257 = .ok (.aload_n 2, 1) := by decide +kernel
theorem dL_law_258 : decode cL_law 258 = .ok (.iconst 2, 1) := by decide +kernel
theorem dL_law_259 : decode cL_law 259 = .ok (.iaload, 1) := by decide +kernel
theorem dL_law_260 : decode cL_law 260 = .ok (.iload 15, 2) := by decide +kernel
theorem dL_law_262 : decode cL_law 262 = .ok (.iastore, 1) := by decide +kernel
theorem dL_law_263 : decode cL_law 263 = .ok (.aload_n 2, 1) := by decide +kernel
theorem dL_law_264 : decode cL_law 264 = .ok (.iconst 2, 1) := by decide +kernel
theorem dL_law_265 : decode cL_law 265 = .ok (.dup2, 1) := by decide +kernel
theorem dL_law_266 : decode cL_law 266 = .ok (.iaload, 1) := by decide +kernel
theorem dL_law_267 : decode cL_law 267 = .ok (.iconst 1, 1) := by decide +kernel
theorem dL_law_268 : decode cL_law 268 = .ok (.iadd, 1) := by decide +kernel
theorem dL_law_269 : decode cL_law 269 = .ok (.iastore, 1) := by decide +kernel
theorem dL_law_270 : decode cL_law 270 = .ok (.aload_n 1, 1) := by decide +kernel
theorem dL_law_271 : decode cL_law 271 = .ok (.iconst 2, 1) := by decide +kernel
theorem dL_law_272 : decode cL_law 272 = .ok (.iload 11, 2) := by decide +kernel
theorem dL_law_274 : decode cL_law 274 = .ok (.bipush 8, 2) := by decide +kernel
theorem dL_law_276 : decode cL_law 276 = .ok (.irem, 1) := by decide +kernel
theorem dL_law_277 : decode cL_law 277 = .ok (.iload 11, 2) := by decide +kernel
theorem dL_law_279 : decode cL_law 279 = .ok (.bipush 8, 2) := by decide +kernel
theorem dL_law_281 : decode cL_law 281 = .ok (.idiv, 1) := by decide +kernel
theorem dL_law_282 : decode cL_law 282 = .ok (.bipush 6, 2) := by decide +kernel
theorem dL_law_284 : decode cL_law 284 = .ok (.irem, 1) := by decide +kernel
theorem dL_law_285 : decode cL_law 285 = .ok (.iload 11, 2) := by decide +kernel
theorem dL_law_287 : decode cL_law 287 = .ok (.bipush 48, 2) := by decide +kernel
theorem dL_law_289 : decode cL_law 289 = .ok (.idiv, 1) := by decide +kernel
theorem dL_law_290 : decode cL_law 290 = .ok (.iload 11, 2) := by decide +kernel
theorem dL_law_292 : decode cL_law 292 = .ok (.iconst 3, 1) := by decide +kernel
theorem dL_law_293 : decode cL_law 293 = .ok (.irem, 1) := by decide +kernel
theorem dL_law_294 : decode cL_law 294 = .ok (.ifCond .ne 9, 3) := by decide +kernel
theorem dL_law_297 : decode cL_law 297 = .ok (.sipush 2001, 3) := by decide +kernel
theorem dL_law_300 : decode cL_law 300 = .ok (.goto 5, 3) := by decide +kernel
theorem dL_law_303 : decode cL_law 303 = .ok (.bipush 21, 2) := by decide +kernel
theorem dL_law_305 : decode cL_law 305 = .ok (.irem, 1) := by decide +kernel
theorem dL_law_306 : decode cL_law 306 = .ok (.iload 11, 2) := by decide +kernel
theorem dL_law_308 : decode cL_law 308 = .ok (.iconst 3, 1) := by decide +kernel
theorem dL_law_309 : decode cL_law 309 = .ok (.irem, 1) := by decide +kernel
theorem dL_law_310 : decode cL_law 310 = .ok (.ifCond .ne 9, 3) := by decide +kernel
theorem dL_law_313 : decode cL_law 313 = .ok (.sipush 1000, 3) := by decide +kernel
theorem dL_law_316 : decode cL_law 316 = .ok (.goto 5, 3) := by decide +kernel
theorem dL_law_319 : decode cL_law 319 = .ok (.bipush 10, 2) := by decide +kernel
theorem dL_law_321 : decode cL_law 321 = .ok (.isub, 1) := by decide +kernel
theorem dL_law_322 : decode cL_law 322 = .ok (.iload 15, 2) := by decide +kernel
theorem dL_law_324 : decode cL_law 324 = .ok (.invokestatic 133, 3) := by decide +kernel
theorem dL_law_327 : decode cL_law 327 = .ok (.aload_n 2, 1) := by decide +kernel
theorem dL_law_328 : decode cL_law 328 = .ok (.iconst 2, 1) := by decide +kernel
theorem dL_law_329 : decode cL_law 329 = .ok (.iaload, 1) := by decide +kernel
theorem dL_law_330 : decode cL_law 330 = .ok (.iconst 1, 1) := by decide +kernel
theorem dL_law_331 : decode cL_law 331 = .ok (.isub, 1) := by decide +kernel
theorem dL_law_332 : decode cL_law 332 = .ok (.if_icmp .ne 7, 3) := by decide +kernel
theorem dL_law_335 : decode cL_law 335 = .ok (.iconst 1, 1) := by decide +kernel
theorem dL_law_336 : decode cL_law 336 = .ok (.goto 4, 3) := by decide +kernel
theorem dL_law_339 : decode cL_law 339 = .ok (.iconst 0, 1) := by decide +kernel
theorem dL_law_340 : decode cL_law 340 = .ok (.istore 8, 2) := by decide +kernel
theorem dL_law_342 : decode cL_law 342 = .ok (.goto 756, 3) := by decide +kernel
theorem dL_law_345 : decode cL_law 345 = .ok (.iload 12, 2) := by decide +kernel
theorem dL_law_347 : decode cL_law 347 = .ok (.bipush 10, 2) := by decide +kernel
theorem dL_law_349 : decode cL_law 349 = .ok (.if_icmp .ge 27, 3) := by decide +kernel
theorem dL_law_352 : decode cL_law 352 = .ok (.aload_n 1, 1) := by decide +kernel
theorem dL_law_353 : decode cL_law 353 = .ok (.aload_n 0, 1) := by decide +kernel
theorem dL_law_354 : decode cL_law 354 = .ok (.aload 6, 2) := by decide +kernel
theorem dL_law_356 : decode cL_law 356 = .ok (.sipush 300, 3) := by decide +kernel
theorem dL_law_359 : decode cL_law 359 = .ok (.bipush 26, 2) := by decide +kernel
theorem dL_law_361 : decode cL_law 361 = .ok (.iload 11, 2) := by decide +kernel
theorem dL_law_363 : decode cL_law 363 = .ok (.bipush 40, 2) := by decide +kernel
theorem dL_law_365 : decode cL_law 365 = .ok (.irem, 1) := by decide +kernel
theorem dL_law_366 : decode cL_law 366 = .ok (.imul, 1) := by decide +kernel
theorem dL_law_367 : decode cL_law 367 = .ok (.iadd, 1) := by decide +kernel
theorem dL_law_368 : decode cL_law 368 = .ok (.invokestatic 181, 3) := by decide +kernel
theorem dL_law_371 : decode cL_law 371 = .ok (.istore 8, 2) := by decide +kernel
theorem dL_law_373 : decode cL_law 373 = .ok (.goto 725, 3) := by decide +kernel
theorem dL_law_376 : decode cL_law 376 = .ok (.iload 12, 2) := by decide +kernel
theorem dL_law_378 : decode cL_law 378 = .ok (.bipush 12, 2) := by decide +kernel
theorem dL_law_380 : decode cL_law 380 = .ok (.if_icmp .ge 16, 3) := by decide +kernel
theorem dL_law_383 : decode cL_law 383 = .ok (.aload_n 1, 1) := by decide +kernel
theorem dL_law_384 : decode cL_law 384 = .ok (.aload_n 3, 1) := by decide +kernel
theorem dL_law_385 : decode cL_law 385 = .ok (.aload_n 2, 1) := by decide +kernel
theorem dL_law_386 : decode cL_law 386 = .ok (.iload 11, 2) := by decide +kernel
theorem dL_law_388 : decode cL_law 388 = .ok (.invokestatic 184, 3) := by decide +kernel
theorem dL_law_391 : decode cL_law 391 = .ok (.istore 8, 2) := by decide +kernel
theorem dL_law_393 : decode cL_law 393 = .ok (.goto 705, 3) := by decide +kernel
theorem dL_law_396 : decode cL_law 396 = .ok (.iload 12, 2) := by decide +kernel
theorem dL_law_398 : decode cL_law 398 = .ok (.bipush 15, 2) := by decide +kernel
theorem dL_law_400 : decode cL_law 400 = .ok (.if_icmp .ge 173, 3) := by decide +kernel
theorem dL_law_403 : decode cL_law 403 = .ok (.aload_n 2, 1) := by decide +kernel
theorem dL_law_404 : decode cL_law 404 = .ok (.iconst 1, 1) := by decide +kernel
theorem dL_law_405 : decode cL_law 405 = .ok (.iaload, 1) := by decide +kernel
theorem dL_law_406 : decode cL_law 406 = .ok (.iconst 4, 1) := by decide +kernel
theorem dL_law_407 : decode cL_law 407 = .ok (.if_icmp .ge 166, 3) := by decide +kernel
theorem dL_law_410 : decode cL_law 410 = .ok (.aload_n 1, 1) := by decide +kernel
theorem dL_law_411 : decode cL_law 411 = .ok (.iload 11, 2) := by decide +kernel
theorem dL_law_413 : decode cL_law 413 = .ok (.bipush 6, 2) := by decide +kernel
theorem dL_law_415 : decode cL_law 415 = .ok (.irem, 1) := by decide +kernel
theorem dL_law_416 : decode cL_law 416 = .ok (.iload 11, 2) := by decide +kernel
theorem dL_law_418 : decode cL_law 418 = .ok (.bipush 6, 2) := by decide +kernel
theorem dL_law_420 : decode cL_law 420 = .ok (.idiv, 1) := by decide +kernel
theorem dL_law_421 : decode cL_law 421 = .ok (.iconst 4, 1) := by decide +kernel
theorem dL_law_422 : decode cL_law 422 = .ok (.irem, 1) := by decide +kernel
theorem dL_law_423 : decode cL_law 423 = .ok (.iload 11, 2) := by decide +kernel
theorem dL_law_425 : decode cL_law 425 = .ok (.bipush 24, 2) := by decide +kernel
theorem dL_law_427 : decode cL_law 427 = .ok (.idiv, 1) := by decide +kernel
theorem dL_law_428 : decode cL_law 428 = .ok (.iload 11, 2) := by decide +kernel
theorem dL_law_430 : decode cL_law 430 = .ok (.bipush 24, 2) := by decide +kernel
theorem dL_law_432 : decode cL_law 432 = .ok (.idiv, 1) := by decide +kernel
theorem dL_law_433 : decode cL_law 433 = .ok (.iconst 3, 1) := by decide +kernel
theorem dL_law_434 : decode cL_law 434 = .ok (.irem, 1) := by decide +kernel
theorem dL_law_435 : decode cL_law 435 = .ok (.iconst 0, 1) := by decide +kernel
theorem dL_law_436 : decode cL_law 436 = .ok (.aload_n 1, 1) := by decide +kernel
theorem dL_law_437 : decode cL_law 437 = .ok (.invokevirtual 103, 3) := by decide +kernel
theorem dL_law_440 : decode cL_law 440 = .ok (.invokestatic 160, 3) := by decide +kernel
theorem dL_law_443 : decode cL_law 443 = .ok (.lstore 15, 2) := by decide +kernel
theorem dL_law_445 : decode cL_law 445 = .ok (.bipush 12, 2) := by decide +kernel
theorem dL_law_447 : decode cL_law 447 = .ok (.aload_n 2, 1) := by decide +kernel
theorem dL_law_448 : decode cL_law 448 = .ok (.iconst 1, 1) := by decide +kernel
theorem dL_law_449 : decode cL_law 449 = .ok (.iaload, 1) := by decide +kernel
theorem dL_law_450 : decode cL_law 450 = .ok (.imul, 1) := by decide +kernel
theorem dL_law_451 : decode cL_law 451 = .ok (.istore 17, 2) := by decide +kernel
theorem dL_law_453 : decode cL_law 453 = .ok (.aload 5, 2) := by decide +kernel
theorem dL_law_455 : decode cL_law 455 = .ok (.iload 17, 2) := by decide +kernel
theorem dL_law_457 : decode cL_law 457 = .ok (.iload 14, 2) := by decide +kernel
theorem dL_law_459 : decode cL_law 459 = .ok (.iastore, 1) := by decide +kernel
theorem dL_law_460 : decode cL_law 460 = .ok (.aload 5, 2) := by decide +kernel
theorem dL_law_462 : decode cL_law 462 = .ok (.iload 17, 2) := by decide +kernel
theorem dL_law_464 : decode cL_law 464 = .ok (.iconst 1, 1) := by decide +kernel
theorem dL_law_465 : decode cL_law 465 = .ok (.iadd, 1) := by decide +kernel
theorem dL_law_466 : decode cL_law 466 = .ok (.iconst 1, 1) := by decide +kernel
theorem dL_law_467 : decode cL_law 467 = .ok (.iload 11, 2) := by decide +kernel
theorem dL_law_469 : decode cL_law 469 = .ok (.bipush 8, 2) := by decide +kernel
theorem dL_law_471 : decode cL_law 471 = .ok (.idiv, 1) := by decide +kernel
theorem dL_law_472 : decode cL_law 472 = .ok (.iload 11, 2) := by decide +kernel
theorem dL_law_474 : decode cL_law 474 = .ok (.iconst 5, 1) := by decide +kernel
theorem dL_law_475 : decode cL_law 475 = .ok (.irem, 1) := by decide +kernel
theorem dL_law_476 : decode cL_law 476 = .ok (.ifCond .ne 8, 3) := by decide +kernel
theorem dL_law_479 : decode cL_law 479 = .ok (.bipush 72, 2) := by decide +kernel
theorem dL_law_481 : decode cL_law 481 = .ok (.goto 5, 3) := by decide +kernel
theorem dL_law_484 : decode cL_law 484 = .ok (.bipush 12, 2) := by decide +kernel
theorem dL_law_486 : decode cL_law 486 = .ok (.irem, 1) := by decide +kernel
theorem dL_law_487 : decode cL_law 487 = .ok (.iadd, 1) := by decide +kernel
theorem dL_law_488 : decode cL_law 488 = .ok (.iastore, 1) := by decide +kernel
theorem dL_law_489 : decode cL_law 489 = .ok (.aload 5, 2) := by decide +kernel
theorem dL_law_491 : decode cL_law 491 = .ok (.iload 17, 2) := by decide +kernel
theorem dL_law_493 : decode cL_law 493 = .ok (.iconst 2, 1) := by decide +kernel
theorem dL_law_494 : decode cL_law 494 = .ok (.iadd, 1) := by decide +kernel
theorem dL_law_495 : decode cL_law 495 = .ok (.iload 11, 2) := by decide +kernel
theorem dL_law_497 : decode cL_law 497 = .ok (.sipush 600, 3) := by decide +kernel
theorem dL_law_500 : decode cL_law 500 = .ok (.idiv, 1) := by decide +kernel
theorem dL_law_501 : decode cL_law 501 = .ok (.iload 11, 2) := by decide +kernel
theorem dL_law_503 : decode cL_law 503 = .ok (.iconst 5, 1) := by decide +kernel
theorem dL_law_504 : decode cL_law 504 = .ok (.irem, 1) := by decide +kernel
theorem dL_law_505 : decode cL_law 505 = .ok (.ifCond .ne 8, 3) := by decide +kernel
theorem dL_law_508 : decode cL_law 508 = .ok (.bipush 73, 2) := by decide +kernel
theorem dL_law_510 : decode cL_law 510 = .ok (.goto 5, 3) := by decide +kernel
theorem dL_law_513 : decode cL_law 513 = .ok (.bipush 10, 2) := by decide +kernel
theorem dL_law_515 : decode cL_law 515 = .ok (.irem, 1) := by decide +kernel
theorem dL_law_516 : decode cL_law 516 = .ok (.iastore, 1) := by decide +kernel
theorem dL_law_517 : decode cL_law 517 = .ok (.aload_n 2, 1) := by decide +kernel
theorem dL_law_518 : decode cL_law 518 = .ok (.iconst 1, 1) := by decide +kernel
theorem dL_law_519 : decode cL_law 519 = .ok (.dup2, 1) := by decide +kernel
theorem dL_law_520 : decode cL_law 520 = .ok (.iaload, 1) := by decide +kernel
theorem dL_law_521 : decode cL_law 521 = .ok (.iconst 1, 1) := by decide +kernel
theorem dL_law_522 : decode cL_law 522 = .ok (.iadd, 1) := by decide +kernel
theorem dL_law_523 : decode cL_law 523 = .ok (.iastore, 1) := by decide +kernel
theorem dL_law_524 : decode cL_law 524 = .ok (.lload 15, 2) := by decide +kernel
theorem dL_law_526 : decode cL_law 526 = .ok (.ldc2_w 158, 3) := by decide +kernel
theorem dL_law_529 : decode cL_law 529 = .ok (.lcmp, 1) := by decide +kernel
theorem dL_law_530 : decode cL_law 530 = .ok (.ifCond .eq 37, 3) := by decide +kernel
theorem dL_law_533 : decode cL_law 533 = .ok (.aload_n 1, 1) := by decide +kernel
theorem dL_law_534 : decode cL_law 534 = .ok (.iconst 5, 1) := by decide +kernel
theorem dL_law_535 : decode cL_law 535 = .ok (.iload 14, 2) := by decide +kernel
theorem dL_law_537 : decode cL_law 537 = .ok (.aload 5, 2) := by decide +kernel
theorem dL_law_539 : decode cL_law 539 = .ok (.iload 17, 2) := by decide +kernel
theorem dL_law_541 : decode cL_law 541 = .ok (.iconst 1, 1) := by decide +kernel
theorem dL_law_542 : decode cL_law 542 = .ok (.iadd, 1) := by decide +kernel
theorem dL_law_543 : decode cL_law 543 = .ok (.iaload, 1) := by decide +kernel
theorem dL_law_544 : decode cL_law 544 = .ok (.aload 5, 2) := by decide +kernel
theorem dL_law_546 : decode cL_law 546 = .ok (.iload 17, 2) := by decide +kernel
theorem dL_law_548 : decode cL_law 548 = .ok (.iconst 2, 1) := by decide +kernel
theorem dL_law_549 : decode cL_law 549 = .ok (.iadd, 1) := by decide +kernel
theorem dL_law_550 : decode cL_law 550 = .ok (.iaload, 1) := by decide +kernel
theorem dL_law_551 : decode cL_law 551 = .ok (.iconst 0, 1) := by decide +kernel
theorem dL_law_552 : decode cL_law 552 = .ok (.invokestatic 133, 3) := by decide +kernel
theorem dL_law_555 : decode cL_law 555 = .ok (.aload_n 2, 1) := by decide +kernel
theorem dL_law_556 : decode cL_law 556 = .ok (.iconst 1, 1) := by decide +kernel
theorem dL_law_557 : decode cL_law 557 = .ok (.iaload, 1) := by decide +kernel
theorem dL_law_558 : decode cL_law 558 = .ok (.iconst 1, 1) := by decide +kernel
theorem dL_law_559 : decode cL_law 559 = .ok (.isub, 1) := by decide +kernel
theorem dL_law_560 : decode cL_law 560 = .ok (.if_icmp .ne 7, 3) := by decide +kernel
theorem dL_law_563 : decode cL_law 563 = .ok (.iconst 1, 1) := by decide +kernel
theorem dL_law_564 : decode cL_law 564 = .ok (.goto 4, 3) := by decide +kernel
theorem dL_law_567 : decode cL_law 567 = .ok (.iconst 0, 1) := by decide +kernel
theorem dL_law_568 : decode cL_law 568 = .ok (.istore 8, 2) := by decide +kernel
theorem dL_law_570 : decode cL_law 570 = .ok (.goto 528, 3) := by decide +kernel
theorem dL_law_573 : decode cL_law 573 = .ok (.iload 12, 2) := by decide +kernel
theorem dL_law_575 : decode cL_law 575 = .ok (.bipush 15, 2) := by decide +kernel
theorem dL_law_577 : decode cL_law 577 = .ok (.if_icmp .ne 128, 3) := by decide +kernel
theorem dL_law_580 : decode cL_law 580 = .ok (.aload_n 2, 1) := by decide +kernel
theorem dL_law_581 : decode cL_law 581 = .ok (.iconst 1, 1) := by decide +kernel
theorem dL_law_582 : decode cL_law 582 = .ok (.iaload, 1) := by decide +kernel
theorem dL_law_583 : decode cL_law 583 = .ok (.ifCond .le 122, 3) := by decide +kernel
theorem dL_law_586 : decode cL_law 586 = .ok (.bipush 12, 2) := by decide +kernel
theorem dL_law_588 : decode cL_law 588 = .ok (.iload 11, 2) := by decide +kernel
theorem dL_law_590 : decode cL_law 590 = .ok (.aload_n 2, 1) := by decide +kernel
theorem dL_law_591 : decode cL_law 591 = .ok (.iconst 1, 1) := by decide +kernel
theorem dL_law_592 : decode cL_law 592 = .ok (.iaload, 1) := by decide +kernel
theorem dL_law_593 : decode cL_law 593 = .ok (.irem, 1) := by decide +kernel
theorem dL_law_594 : decode cL_law 594 = .ok (.imul, 1) := by decide +kernel
theorem dL_law_595 : decode cL_law 595 = .ok (.istore 15, 2) := by decide +kernel
theorem dL_law_597 : decode cL_law 597 = .ok (.aload 5, 2) := by decide +kernel
theorem dL_law_599 : decode cL_law 599 = .ok (.iload 15, 2) := by decide +kernel
theorem dL_law_601 : decode cL_law 601 = .ok (.iconst 3, 1) := by decide +kernel
theorem dL_law_602 : decode cL_law 602 = .ok (.iadd, 1) := by decide +kernel
theorem dL_law_603 : decode cL_law 603 = .ok (.iaload, 1) := by decide +kernel
theorem dL_law_604 : decode cL_law 604 = .ok (.iconst 1, 1) := by decide +kernel
theorem dL_law_605 : decode cL_law 605 = .ok (.if_icmp .ne 9, 3) := by decide +kernel
theorem dL_law_608 : decode cL_law 608 = .ok (.sipush (-1243), 3) := by decide +kernel
theorem dL_law_611 : decode cL_law 611 = .ok (.goto 13, 3) := by decide +kernel
theorem dL_law_614 : decode cL_law 614 = .ok (.aload_n 1, 1) := by decide +kernel
theorem dL_law_615 : decode cL_law 615 = .ok (.iload 11, 2) := by decide +kernel
theorem dL_law_617 : decode cL_law 617 = .ok (.aload_n 2, 1) := by decide +kernel
theorem dL_law_618 : decode cL_law 618 = .ok (.iconst 1, 1) := by decide +kernel
theorem dL_law_619 : decode cL_law 619 = .ok (.iaload, 1) := by decide +kernel
theorem dL_law_620 : decode cL_law 620 = .ok (.irem, 1) := by decide +kernel
theorem dL_law_621 : decode cL_law 621 = .ok (.invokevirtual 82, 3) := by decide +kernel
theorem dL_law_624 : decode cL_law 624 = .ok (.istore 16, 2) := by decide +kernel
theorem dL_law_626 : decode cL_law 626 = .ok (.aload 5, 2) := by decide +kernel
theorem dL_law_628 : decode cL_law 628 = .ok (.iload 15, 2) := by decide +kernel
theorem dL_law_630 : decode cL_law 630 = .ok (.iconst 3, 1) := by decide +kernel
theorem dL_law_631 : decode cL_law 631 = .ok (.iadd, 1) := by decide +kernel
theorem dL_law_632 : decode cL_law 632 = .ok (.iconst 1, 1) := by decide +kernel
theorem dL_law_633 : decode cL_law 633 = .ok (.iastore, 1) := by decide +kernel
theorem dL_law_634 : decode cL_law 634 = .ok (.iload 11, 2) := by decide +kernel
theorem dL_law_636 : decode cL_law 636 = .ok (.iconst 3, 1) := by decide +kernel
theorem dL_law_637 : decode cL_law 637 = .ok (.irem, 1) := by decide +kernel
theorem dL_law_638 : decode cL_law 638 = .ok (.ifCond .ne 23, 3) := by decide +kernel
theorem dL_law_641 : decode cL_law 641 = .ok (.aload_n 1, 1) := by decide +kernel
theorem dL_law_642 : decode cL_law 642 = .ok (.bipush 6, 2) := by decide +kernel
theorem dL_law_644 : decode cL_law 644 = .ok (.iload 11, 2) := by decide +kernel
theorem dL_law_646 : decode cL_law 646 = .ok (.aload_n 2, 1) := by decide +kernel
theorem dL_law_647 : decode cL_law 647 = .ok (.iconst 1, 1) := by decide +kernel
theorem dL_law_648 : decode cL_law 648 = .ok (.iaload, 1) := by decide +kernel
theorem dL_law_649 : decode cL_law 649 = .ok (.irem, 1) := by decide +kernel
theorem dL_law_650 : decode cL_law 650 = .ok (.iconst 0, 1) := by decide +kernel
theorem dL_law_651 : decode cL_law 651 = .ok (.iconst 0, 1) := by decide +kernel
theorem dL_law_652 : decode cL_law 652 = .ok (.iconst 0, 1) := by decide +kernel
theorem dL_law_653 : decode cL_law 653 = .ok (.invokestatic 133, 3) := by decide +kernel
theorem dL_law_656 : decode cL_law 656 = .ok (.iload 16, 2) := by decide +kernel
theorem dL_law_658 : decode cL_law 658 = .ok (.if_icmp .eq 10, 3) := by decide +kernel
theorem dL_law_661 : decode cL_law 661 = .ok (.iload 11, 2) := by decide +kernel
theorem dL_law_663 : decode cL_law 663 = .ok (.iconst 3, 1) := by decide +kernel
theorem dL_law_664 : decode cL_law 664 = .ok (.irem, 1) := by decide +kernel
theorem dL_law_665 : decode cL_law 665 = .ok (.ifCond .le 7, 3) := by decide +kernel
theorem dL_law_668 : decode cL_law 668 = .ok (.iconst 1, 1) := by decide +kernel
theorem dL_law_669 : decode cL_law 669 = .ok (.goto 4, 3) := by decide +kernel
theorem dL_law_672 : decode cL_law 672 = .ok (.iconst 0, 1) := by decide +kernel
theorem dL_law_673 : decode cL_law 673 = .ok (.istore 8, 2) := by decide +kernel
theorem dL_law_675 : decode cL_law 675 = .ok (.aload 5, 2) := by decide +kernel
theorem dL_law_677 : decode cL_law 677 = .ok (.iload 15, 2) := by decide +kernel
theorem dL_law_679 : decode cL_law 679 = .ok (.iconst 3, 1) := by decide +kernel
theorem dL_law_680 : decode cL_law 680 = .ok (.iadd, 1) := by decide +kernel
theorem dL_law_681 : decode cL_law 681 = .ok (.iload 11, 2) := by decide +kernel
theorem dL_law_683 : decode cL_law 683 = .ok (.iconst 3, 1) := by decide +kernel
theorem dL_law_684 : decode cL_law 684 = .ok (.irem, 1) := by decide +kernel
theorem dL_law_685 : decode cL_law 685 = .ok (.ifCond .eq 11, 3) := by decide +kernel
theorem dL_law_688 : decode cL_law 688 = .ok (.iload 16, 2) := by decide +kernel
theorem dL_law_690 : decode cL_law 690 = .ok (.sipush (-1243), 3) := by decide +kernel
theorem dL_law_693 : decode cL_law 693 = .ok (.if_icmp .ne 7, 3) := by decide +kernel
theorem dL_law_696 : decode cL_law 696 = .ok (.iconst 1, 1) := by decide +kernel
theorem dL_law_697 : decode cL_law 697 = .ok (.goto 4, 3) := by decide +kernel
theorem dL_law_700 : decode cL_law 700 = .ok (.iconst 0, 1) := by decide +kernel
theorem dL_law_701 : decode cL_law 701 = .ok (.iastore, 1) := by decide +kernel
theorem dL_law_702 : decode cL_law 702 = .ok (.goto 396, 3) := by decide +kernel
theorem dL_law_705 : decode cL_law 705 = .ok (.iload 12, 2) := by decide +kernel
theorem dL_law_707 : decode cL_law 707 = .ok (.bipush 16, 2) := by decide +kernel
theorem dL_law_709 : decode cL_law 709 = .ok (.if_icmp .ne 154, 3) := by decide +kernel
theorem dL_law_712 : decode cL_law 712 = .ok (.aload_n 2, 1) := by decide +kernel
theorem dL_law_713 : decode cL_law 713 = .ok (.iconst 1, 1) := by decide +kernel
theorem dL_law_714 : decode cL_law 714 = .ok (.iaload, 1) := by decide +kernel
theorem dL_law_715 : decode cL_law 715 = .ok (.ifCond .le 148, 3) := by decide +kernel
theorem dL_law_718 : decode cL_law 718 = .ok (.bipush 12, 2) := by decide +kernel
theorem dL_law_720 : decode cL_law 720 = .ok (.iload 11, 2) := by decide +kernel
theorem dL_law_722 : decode cL_law 722 = .ok (.aload_n 2, 1) := by decide +kernel
theorem dL_law_723 : decode cL_law 723 = .ok (.iconst 1, 1) := by decide +kernel
theorem dL_law_724 : decode cL_law 724 = .ok (.iaload, 1) := by decide +kernel
theorem dL_law_725 : decode cL_law 725 = .ok (.irem, 1) := by decide +kernel
theorem dL_law_726 : decode cL_law 726 = .ok (.imul, 1) := by decide +kernel
theorem dL_law_727 : decode cL_law 727 = .ok (.istore 15, 2) := by decide +kernel
theorem dL_law_729 : decode cL_law 729 = .ok (.aload_n 1, 1) := by decide +kernel
theorem dL_law_730 : decode cL_law 730 = .ok (.invokevirtual 103, 3) := by decide +kernel
theorem dL_law_733 : decode cL_law 733 = .ok (.iconst 1, 1) := by decide +kernel
theorem dL_law_734 : decode cL_law 734 = .ok (.iadd, 1) := by decide +kernel
theorem dL_law_735 : decode cL_law 735 = .ok (.iload 11, 2) := by decide +kernel
theorem dL_law_737 : decode cL_law 737 = .ok (.iconst 4, 1) := by decide +kernel
theorem dL_law_738 : decode cL_law 738 = .ok (.idiv, 1) := by decide +kernel
theorem dL_law_739 : decode cL_law 739 = .ok (.bipush 12, 2) := by decide +kernel
theorem dL_law_741 : decode cL_law 741 = .ok (.irem, 1) := by decide +kernel
theorem dL_law_742 : decode cL_law 742 = .ok (.iadd, 1) := by decide +kernel
theorem dL_law_743 : decode cL_law 743 = .ok (.istore 16, 2) := by decide +kernel
theorem dL_law_745 : decode cL_law 745 = .ok (.iload 16, 2) := by decide +kernel
theorem dL_law_747 : decode cL_law 747 = .ok (.iload 11, 2) := by decide +kernel
theorem dL_law_749 : decode cL_law 749 = .ok (.bipush 48, 2) := by decide +kernel
theorem dL_law_751 : decode cL_law 751 = .ok (.idiv, 1) := by decide +kernel
theorem dL_law_752 : decode cL_law 752 = .ok (.bipush 9, 2) := by decide +kernel
theorem dL_law_754 : decode cL_law 754 = .ok (.irem, 1) := by decide +kernel
theorem dL_law_755 : decode cL_law 755 = .ok (.iadd, 1) := by decide +kernel
theorem dL_law_756 : decode cL_law 756 = .ok (.istore 17, 2) := by decide +kernel
theorem dL_law_758 : decode cL_law 758 = .ok (.aload 5, 2) := by decide +kernel
theorem dL_law_760 : decode cL_law 760 = .ok (.iload 15, 2) := by decide +kernel
theorem dL_law_762 : decode cL_law 762 = .ok (.iconst 4, 1) := by decide +kernel
theorem dL_law_763 : decode cL_law 763 = .ok (.iadd, 1) := by decide +kernel
theorem dL_law_764 : decode cL_law 764 = .ok (.iaload, 1) := by decide +kernel
theorem dL_law_765 : decode cL_law 765 = .ok (.iconst 5, 1) := by decide +kernel
theorem dL_law_766 : decode cL_law 766 = .ok (.if_icmp .ge 7, 3) := by decide +kernel
theorem dL_law_769 : decode cL_law 769 = .ok (.iconst 1, 1) := by decide +kernel
theorem dL_law_770 : decode cL_law 770 = .ok (.goto 4, 3) := by decide +kernel
theorem dL_law_773 : decode cL_law 773 = .ok (.iconst 0, 1) := by decide +kernel
theorem dL_law_774 : decode cL_law 774 = .ok (.istore 18, 2) := by decide +kernel
theorem dL_law_776 : decode cL_law 776 = .ok (.iload 18, 2) := by decide +kernel
theorem dL_law_778 : decode cL_law 778 = .ok (.ifCond .eq 37, 3) := by decide +kernel
theorem dL_law_781 : decode cL_law 781 = .ok (.aload 5, 2) := by decide +kernel
theorem dL_law_783 : decode cL_law 783 = .ok (.iload 15, 2) := by decide +kernel
theorem dL_law_785 : decode cL_law 785 = .ok (.iconst 5, 1) := by decide +kernel
theorem dL_law_786 : decode cL_law 786 = .ok (.iadd, 1) := by decide +kernel
theorem dL_law_787 : decode cL_law 787 = .ok (.aload 5, 2) := by decide +kernel
theorem dL_law_789 : decode cL_law 789 = .ok (.iload 15, 2) := by decide +kernel
theorem dL_law_791 : decode cL_law 791 = .ok (.iconst 4, 1) := by decide +kernel
theorem dL_law_792 : decode cL_law 792 = .ok (.iadd, 1) := by decide +kernel
theorem dL_law_793 : decode cL_law 793 = .ok (.iaload, 1) := by decide +kernel
theorem dL_law_794 : decode cL_law 794 = .ok (.iadd, 1) := by decide +kernel
theorem dL_law_795 : decode cL_law 795 = .ok (.iload 16, 2) := by decide +kernel
theorem dL_law_797 : decode cL_law 797 = .ok (.iload 17, 2) := by decide +kernel
theorem dL_law_799 : decode cL_law 799 = .ok (.bipush 10, 2) := by decide +kernel
theorem dL_law_801 : decode cL_law 801 = .ok (.ishl, 1) := by decide +kernel
theorem dL_law_802 : decode cL_law 802 = .ok (.ior, 1) := by decide +kernel
theorem dL_law_803 : decode cL_law 803 = .ok (.iastore, 1) := by decide +kernel
theorem dL_law_804 : decode cL_law 804 = .ok (.aload 5, 2) := by decide +kernel
theorem dL_law_806 : decode cL_law 806 = .ok (.iload 15, 2) := by decide +kernel
theorem dL_law_808 : decode cL_law 808 = .ok (.iconst 4, 1) := by decide +kernel
theorem dL_law_809 : decode cL_law 809 = .ok (.iadd, 1) := by decide +kernel
theorem dL_law_810 : decode cL_law 810 = .ok (.dup2, 1) := by decide +kernel
theorem dL_law_811 : decode cL_law 811 = .ok (.iaload, 1) := by decide +kernel
theorem dL_law_812 : decode cL_law 812 = .ok (.iconst 1, 1) := by decide +kernel
theorem dL_law_813 : decode cL_law 813 = .ok (.iadd, 1) := by decide +kernel
theorem dL_law_814 : decode cL_law 814 = .ok (.iastore, 1) := by decide +kernel
theorem dL_law_815 : decode cL_law 815 = .ok (.aload_n 1, 1) := by decide +kernel
theorem dL_law_816 : decode cL_law 816 = .ok (.bipush 7, 2) := by decide +kernel
theorem dL_law_818 : decode cL_law 818 = .ok (.iload 11, 2) := by decide +kernel
theorem dL_law_820 : decode cL_law 820 = .ok (.aload_n 2, 1) := by decide +kernel
theorem dL_law_821 : decode cL_law 821 = .ok (.iconst 1, 1) := by decide +kernel
theorem dL_law_822 : decode cL_law 822 = .ok (.iaload, 1) := by decide +kernel
theorem dL_law_823 : decode cL_law 823 = .ok (.irem, 1) := by decide +kernel
theorem dL_law_824 : decode cL_law 824 = .ok (.iload 16, 2) := by decide +kernel
theorem dL_law_826 : decode cL_law 826 = .ok (.iload 17, 2) := by decide +kernel
theorem dL_law_828 : decode cL_law 828 = .ok (.iconst 0, 1) := by decide +kernel
theorem dL_law_829 : decode cL_law 829 = .ok (.invokestatic 133, 3) := by decide +kernel
theorem dL_law_832 : decode cL_law 832 = .ok (.iload 18, 2) := by decide +kernel
theorem dL_law_834 : decode cL_law 834 = .ok (.ifCond .eq 13, 3) := by decide +kernel
theorem dL_law_837 : decode cL_law 837 = .ok (.aload 5, 2) := by decide +kernel
theorem dL_law_839 : decode cL_law 839 = .ok (.iload 15, 2) := by decide +kernel
theorem dL_law_841 : decode cL_law 841 = .ok (.iconst 4, 1) := by decide +kernel
theorem dL_law_842 : decode cL_law 842 = .ok (.iadd, 1) := by decide +kernel
theorem dL_law_843 : decode cL_law 843 = .ok (.iaload, 1) := by decide +kernel
theorem dL_law_844 : decode cL_law 844 = .ok (.goto 6, 3) := by decide +kernel
theorem dL_law_847 : decode cL_law 847 = .ok (.sipush (-1243), 3) := by decide +kernel
theorem dL_law_850 : decode cL_law 850 = .ok (.if_icmp .ne 7, 3) := by decide +kernel
theorem dL_law_853 : decode cL_law 853 = .ok (.iconst 1, 1) := by decide +kernel
theorem dL_law_854 : decode cL_law 854 = .ok (.goto 4, 3) := by decide +kernel
theorem dL_law_857 : decode cL_law 857 = .ok (.iconst 0, 1) := by decide +kernel
theorem dL_law_858 : decode cL_law 858 = .ok (.istore 8, 2) := by decide +kernel
theorem dL_law_860 : decode cL_law 860 = .ok (.goto 238, 3) := by decide +kernel
theorem dL_law_863 : decode cL_law 863 = .ok (.iload 12, 2) := by decide +kernel
theorem dL_law_865 : decode cL_law 865 = .ok (.bipush 20, 2) := by decide +kernel
theorem dL_law_867 : decode cL_law 867 = .ok (.if_icmp .ge 63, 3) := by decide +kernel
theorem dL_law_870 : decode cL_law 870 = .ok (.iload 13, 2) := by decide +kernel
theorem dL_law_872 : decode cL_law 872 = .ok (.iconst 1, 1) := by decide +kernel
theorem dL_law_873 : decode cL_law 873 = .ok (.iadd, 1) := by decide +kernel
theorem dL_law_874 : decode cL_law 874 = .ok (.iload 11, 2) := by decide +kernel
theorem dL_law_876 : decode cL_law 876 = .ok (.iconst 5, 1) := by decide +kernel
theorem dL_law_877 : decode cL_law 877 = .ok (.idiv, 1) := by decide +kernel
theorem dL_law_878 : decode cL_law 878 = .ok (.bipush 6, 2) := by decide +kernel
theorem dL_law_880 : decode cL_law 880 = .ok (.irem, 1) := by decide +kernel
theorem dL_law_881 : decode cL_law 881 = .ok (.iadd, 1) := by decide +kernel
theorem dL_law_882 : decode cL_law 882 = .ok (.istore 15, 2) := by decide +kernel
theorem dL_law_884 : decode cL_law 884 = .ok (.aload 4, 2) := by decide +kernel
theorem dL_law_886 : decode cL_law 886 = .ok (.iload 15, 2) := by decide +kernel
theorem dL_law_888 : decode cL_law 888 = .ok (.dup2, 1) := by decide +kernel
theorem dL_law_889 : decode cL_law 889 = .ok (.iaload, 1) := by decide +kernel
theorem dL_law_890 : decode cL_law 890 = .ok (.iconst 1, 1) := by decide +kernel
theorem dL_law_891 : decode cL_law 891 = .ok (.iload 14, 2) := by decide +kernel
theorem dL_law_893 : decode cL_law 893 = .ok (.ishl, 1) := by decide +kernel
theorem dL_law_894 : decode cL_law 894 = .ok (.ixor, 1) := by decide +kernel
theorem dL_law_895 : decode cL_law 895 = .ok (.iastore, 1) := by decide +kernel
theorem dL_law_896 : decode cL_law 896 = .ok (.aload_n 1, 1) := by decide +kernel
theorem dL_law_897 : decode cL_law 897 = .ok (.iconst 4, 1) := by decide +kernel
theorem dL_law_898 : decode cL_law 898 = .ok (.iload 14, 2) := by decide +kernel
theorem dL_law_900 : decode cL_law 900 = .ok (.iload 15, 2) := by decide +kernel
theorem dL_law_902 : decode cL_law 902 = .ok (.iconst 0, 1) := by decide +kernel
theorem dL_law_903 : decode cL_law 903 = .ok (.iconst 0, 1) := by decide +kernel
theorem dL_law_904 : decode cL_law 904 = .ok (.invokestatic 133, 3) := by decide +kernel
theorem dL_law_907 : decode cL_law 907 = .ok (.aload 4, 2) := by decide +kernel
theorem dL_law_909 : decode cL_law 909 = .ok (.iload 15, 2) := by decide +kernel
theorem dL_law_911 : decode cL_law 911 = .ok (.iaload, 1) := by decide +kernel
theorem dL_law_912 : decode cL_law 912 = .ok (.iload 14, 2) := by decide +kernel
theorem dL_law_914 : decode cL_law 914 = .ok (.ishr, 1) := by decide +kernel
theorem dL_law_915 : decode cL_law 915 = .ok (.iconst 1, 1) := by decide +kernel
theorem dL_law_916 : decode cL_law 916 = .ok (.iand, 1) := by decide +kernel
theorem dL_law_917 : decode cL_law 917 = .ok (.if_icmp .ne 7, 3) := by decide +kernel
theorem dL_law_920 : decode cL_law 920 = .ok (.iconst 1, 1) := by decide +kernel
theorem dL_law_921 : decode cL_law 921 = .ok (.goto 4, 3) := by decide +kernel
theorem dL_law_924 : decode cL_law 924 = .ok (.iconst 0, 1) := by decide +kernel
theorem dL_law_925 : decode cL_law 925 = .ok (.istore 8, 2) := by decide +kernel
theorem dL_law_927 : decode cL_law 927 = .ok (.goto 171, 3) := by decide +kernel
theorem dL_law_930 : decode cL_law 930 = .ok (.iload 12, 2) := by decide +kernel
theorem dL_law_932 : decode cL_law 932 = .ok (.bipush 22, 2) := by decide +kernel
theorem dL_law_934 : decode cL_law 934 = .ok (.if_icmp .ge 38, 3) := by decide +kernel
theorem dL_law_937 : decode cL_law 937 = .ok (.aload_n 1, 1) := by decide +kernel
theorem dL_law_938 : decode cL_law 938 = .ok (.aload 4, 2) := by decide +kernel
theorem dL_law_940 : decode cL_law 940 = .ok (.aload_n 2, 1) := by decide +kernel
theorem dL_law_941 : decode cL_law 941 = .ok (.iload 13, 2) := by decide +kernel
theorem dL_law_943 : decode cL_law 943 = .ok (.iconst 1, 1) := by decide +kernel
theorem dL_law_944 : decode cL_law 944 = .ok (.iadd, 1) := by decide +kernel
theorem dL_law_945 : decode cL_law 945 = .ok (.iload 11, 2) := by decide +kernel
theorem dL_law_947 : decode cL_law 947 = .ok (.bipush 6, 2) := by decide +kernel
theorem dL_law_949 : decode cL_law 949 = .ok (.irem, 1) := by decide +kernel
theorem dL_law_950 : decode cL_law 950 = .ok (.iadd, 1) := by decide +kernel
theorem dL_law_951 : decode cL_law 951 = .ok (.iload 13, 2) := by decide +kernel
theorem dL_law_953 : decode cL_law 953 = .ok (.iconst 1, 1) := by decide +kernel
theorem dL_law_954 : decode cL_law 954 = .ok (.iadd, 1) := by decide +kernel
theorem dL_law_955 : decode cL_law 955 = .ok (.iload 11, 2) := by decide +kernel
theorem dL_law_957 : decode cL_law 957 = .ok (.bipush 6, 2) := by decide +kernel
theorem dL_law_959 : decode cL_law 959 = .ok (.idiv, 1) := by decide +kernel
theorem dL_law_960 : decode cL_law 960 = .ok (.bipush 6, 2) := by decide +kernel
theorem dL_law_962 : decode cL_law 962 = .ok (.irem, 1) := by decide +kernel
theorem dL_law_963 : decode cL_law 963 = .ok (.iadd, 1) := by decide +kernel
theorem dL_law_964 : decode cL_law 964 = .ok (.invokestatic 187, 3) := by decide +kernel
theorem dL_law_967 : decode cL_law 967 = .ok (.istore 8, 2) := by decide +kernel
theorem dL_law_969 : decode cL_law 969 = .ok (.goto 129, 3) := by decide +kernel
theorem dL_law_972 : decode cL_law 972 = .ok (.iload 12, 2) := by decide +kernel
theorem dL_law_974 : decode cL_law 974 = .ok (.bipush 25, 2) := by decide +kernel
theorem dL_law_976 : decode cL_law 976 = .ok (.if_icmp .ge 45, 3) := by decide +kernel
theorem dL_law_979 : decode cL_law 979 = .ok (.aload_n 1, 1) := by decide +kernel
theorem dL_law_980 : decode cL_law 980 = .ok (.invokevirtual 108, 3) := by decide +kernel
theorem dL_law_983 : decode cL_law 983 = .ok (.ifCond .le 38, 3) := by decide +kernel
theorem dL_law_986 : decode cL_law 986 = .ok (.aload_n 1, 1) := by decide +kernel
theorem dL_law_987 : decode cL_law 987 = .ok (.aload 5, 2) := by decide +kernel
theorem dL_law_989 : decode cL_law 989 = .ok (.aload 7, 2) := by decide +kernel
theorem dL_law_991 : decode cL_law 991 = .ok (.aload_n 2, 1) := by decide +kernel
theorem dL_law_992 : decode cL_law 992 = .ok (.iload 11, 2) := by decide +kernel
theorem dL_law_994 : decode cL_law 994 = .ok (.iconst 2, 1) := by decide +kernel
theorem dL_law_995 : decode cL_law 995 = .ok (.idiv, 1) := by decide +kernel
theorem dL_law_996 : decode cL_law 996 = .ok (.aload_n 1, 1) := by decide +kernel
theorem dL_law_997 : decode cL_law 997 = .ok (.invokevirtual 108, 3) := by decide +kernel
theorem dL_law_1000 : decode cL_law 1000 = .ok (.irem, 1) := by decide +kernel
theorem dL_law_1001 : decode cL_law 1001 = .ok (.iload 11, 2) := by decide +kernel
theorem dL_law_1003 : decode cL_law 1003 = .ok (.iconst 2, 1) := by decide +kernel
theorem dL_law_1004 : decode cL_law 1004 = .ok (.irem, 1) := by decide +kernel
theorem dL_law_1005 : decode cL_law 1005 = .ok (.ifCond .ne 7, 3) := by decide +kernel
theorem dL_law_1008 : decode cL_law 1008 = .ok (.iconst 1, 1) := by decide +kernel
theorem dL_law_1009 : decode cL_law 1009 = .ok (.goto 4, 3) := by decide +kernel
theorem dL_law_1012 : decode cL_law 1012 = .ok (.iconst 0, 1) := by decide +kernel
theorem dL_law_1013 : decode cL_law 1013 = .ok (.invokestatic 191, 3) := by decide +kernel
theorem dL_law_1016 : decode cL_law 1016 = .ok (.istore 8, 2) := by decide +kernel
theorem dL_law_1018 : decode cL_law 1018 = .ok (.goto 80, 3) := by decide +kernel
theorem dL_law_1021 : decode cL_law 1021 = .ok (.iconst 1, 1) := by decide +kernel
theorem dL_law_1022 : decode cL_law 1022 = .ok (.iload 11, 2) := by decide +kernel
theorem dL_law_1024 : decode cL_law 1024 = .ok (.iload 11, 2) := by decide +kernel
theorem dL_law_1026 : decode cL_law 1026 = .ok (.bipush 7, 2) := by decide +kernel
theorem dL_law_1028 : decode cL_law 1028 = .ok (.irem, 1) := by decide +kernel
theorem dL_law_1029 : decode cL_law 1029 = .ok (.ifCond .ne 8, 3) := by decide +kernel
theorem dL_law_1032 : decode cL_law 1032 = .ok (.bipush 12, 2) := by decide +kernel
theorem dL_law_1034 : decode cL_law 1034 = .ok (.goto 4, 3) := by decide +kernel
theorem dL_law_1037 : decode cL_law 1037 = .ok (.iconst 5, 1) := by decide +kernel
theorem dL_law_1038 : decode cL_law 1038 = .ok (.irem, 1) := by decide +kernel
theorem dL_law_1039 : decode cL_law 1039 = .ok (.iadd, 1) := by decide +kernel
theorem dL_law_1040 : decode cL_law 1040 = .ok (.istore 15, 2) := by decide +kernel
theorem dL_law_1042 : decode cL_law 1042 = .ok (.iconst 0, 1) := by decide +kernel
theorem dL_law_1043 : decode cL_law 1043 = .ok (.istore 16, 2) := by decide +kernel
theorem dL_law_1045 : decode cL_law 1045 = .ok (.iload 16, 2) := by decide +kernel
theorem dL_law_1047 : decode cL_law 1047 = .ok (.iload 15, 2) := by decide +kernel
theorem dL_law_1049 : decode cL_law 1049 = .ok (.if_icmp .ge 49, 3) := by decide +kernel
theorem dL_law_1052 : decode cL_law 1052 = .ok (.iload 8, 2) := by decide +kernel
theorem dL_law_1054 : decode cL_law 1054 = .ok (.ifCond .eq 44, 3) := by decide +kernel
theorem dL_law_1057 : decode cL_law 1057 = .ok (.aload_n 1, 1) := by decide +kernel
theorem dL_law_1058 : decode cL_law 1058 = .ok (.invokevirtual 108, 3) := by decide +kernel
theorem dL_law_1061 : decode cL_law 1061 = .ok (.aload_n 2, 1) := by decide +kernel
theorem dL_law_1062 : decode cL_law 1062 = .ok (.iconst 1, 1) := by decide +kernel
theorem dL_law_1063 : decode cL_law 1063 = .ok (.iaload, 1) := by decide +kernel
theorem dL_law_1064 : decode cL_law 1064 = .ok (.iadd, 1) := by decide +kernel
theorem dL_law_1065 : decode cL_law 1065 = .ok (.bipush 64, 2) := by decide +kernel
theorem dL_law_1067 : decode cL_law 1067 = .ok (.if_icmp .ge 31, 3) := by decide +kernel
theorem dL_law_1070 : decode cL_law 1070 = .ok (.aload_n 1, 1) := by decide +kernel
theorem dL_law_1071 : decode cL_law 1071 = .ok (.invokevirtual 103, 3) := by decide +kernel
theorem dL_law_1074 : decode cL_law 1074 = .ok (.sipush 440, 3) := by decide +kernel
theorem dL_law_1077 : decode cL_law 1077 = .ok (.if_icmp .ge 21, 3) := by decide +kernel
theorem dL_law_1080 : decode cL_law 1080 = .ok (.aload_n 1, 1) := by decide +kernel
theorem dL_law_1081 : decode cL_law 1081 = .ok (.aload_n 3, 1) := by decide +kernel
theorem dL_law_1082 : decode cL_law 1082 = .ok (.aload 4, 2) := by decide +kernel
theorem dL_law_1084 : decode cL_law 1084 = .ok (.aload 5, 2) := by decide +kernel
theorem dL_law_1086 : decode cL_law 1086 = .ok (.aload_n 2, 1) := by decide +kernel
theorem dL_law_1087 : decode cL_law 1087 = .ok (.invokestatic 195, 3) := by decide +kernel
theorem dL_law_1090 : decode cL_law 1090 = .ok (.istore 8, 2) := by decide +kernel
theorem dL_law_1092 : decode cL_law 1092 = .ok (.iinc 16 1, 3) := by decide +kernel
theorem dL_law_1095 : decode cL_law 1095 = .ok (.goto (-50), 3) := by decide +kernel
theorem dL_law_1098 : decode cL_law 1098 = .ok (.iload 8, 2) := by decide +kernel
theorem dL_law_1100 : decode cL_law 1100 = .ok (.ifCond .eq 112, 3) := by decide +kernel
theorem dL_law_1103 : decode cL_law 1103 = .ok (.aload_n 1, 1) := by decide +kernel
theorem dL_law_1104 : decode cL_law 1104 = .ok (.aload 4, 2) := by decide +kernel
theorem dL_law_1106 : decode cL_law 1106 = .ok (.aload_n 2, 1) := by decide +kernel
theorem dL_law_1107 : decode cL_law 1107 = .ok (.iload 11, 2) := by decide +kernel
theorem dL_law_1109 : decode cL_law 1109 = .ok (.invokestatic 199, 3) := by decide +kernel
theorem dL_law_1112 : decode cL_law 1112 = .ok (.ifCond .eq 100, 3) := by decide +kernel
theorem dL_law_1115 : decode cL_law 1115 = .ok (.iload 9, 2) := by decide +kernel
theorem dL_law_1117 : decode cL_law 1117 = .ok (.iconst 4, 1) := by decide +kernel
theorem dL_law_1118 : decode cL_law 1118 = .ok (.irem, 1) := by decide +kernel
theorem dL_law_1119 : decode cL_law 1119 = .ok (.ifCond .gt 25, 3) := by decide +kernel
theorem dL_law_1122 : decode cL_law 1122 = .ok (.aload_n 2, 1) := by decide +kernel
theorem dL_law_1123 : decode cL_law 1123 = .ok (.iconst 1, 1) := by decide +kernel
theorem dL_law_1124 : decode cL_law 1124 = .ok (.iaload, 1) := by decide +kernel
theorem dL_law_1125 : decode cL_law 1125 = .ok (.ifCond .eq 19, 3) := by decide +kernel
theorem dL_law_1128 : decode cL_law 1128 = .ok (.aload_n 1, 1) := by decide +kernel
theorem dL_law_1129 : decode cL_law 1129 = .ok (.aload 5, 2) := by decide +kernel
theorem dL_law_1131 : decode cL_law 1131 = .ok (.aload_n 2, 1) := by decide +kernel
theorem dL_law_1132 : decode cL_law 1132 = .ok (.iload 11, 2) := by decide +kernel
theorem dL_law_1134 : decode cL_law 1134 = .ok (.aload_n 2, 1) := by decide +kernel
theorem dL_law_1135 : decode cL_law 1135 = .ok (.iconst 1, 1) := by decide +kernel
theorem dL_law_1136 : decode cL_law 1136 = .ok (.iaload, 1) := by decide +kernel
theorem dL_law_1137 : decode cL_law 1137 = .ok (.irem, 1) := by decide +kernel
theorem dL_law_1138 : decode cL_law 1138 = .ok (.invokestatic 202, 3) := by decide +kernel
theorem dL_law_1141 : decode cL_law 1141 = .ok (.ifCond .eq 71, 3) := by decide +kernel
theorem dL_law_1144 : decode cL_law 1144 = .ok (.iload 9, 2) := by decide +kernel
theorem dL_law_1146 : decode cL_law 1146 = .ok (.bipush 50, 2) := by decide +kernel
theorem dL_law_1148 : decode cL_law 1148 = .ok (.irem, 1) := by decide +kernel
theorem dL_law_1149 : decode cL_law 1149 = .ok (.bipush 49, 2) := by decide +kernel
theorem dL_law_1151 : decode cL_law 1151 = .ok (.if_icmp .lt 35, 3) := by decide +kernel
theorem dL_law_1154 : decode cL_law 1154 = .ok (.aload_n 2, 1) := by decide +kernel
theorem dL_law_1155 : decode cL_law 1155 = .ok (.iconst 1, 1) := by decide +kernel
theorem dL_law_1156 : decode cL_law 1156 = .ok (.iaload, 1) := by decide +kernel
theorem dL_law_1157 : decode cL_law 1157 = .ok (.ifCond .eq 29, 3) := by decide +kernel
theorem dL_law_1160 : decode cL_law 1160 = .ok (.aload_n 1, 1) := by decide +kernel
theorem dL_law_1161 : decode cL_law 1161 = .ok (.bipush 6, 2) := by decide +kernel
theorem dL_law_1163 : decode cL_law 1163 = .ok (.iload 11, 2) := by decide +kernel
theorem dL_law_1165 : decode cL_law 1165 = .ok (.aload_n 2, 1) := by decide +kernel
theorem dL_law_1166 : decode cL_law 1166 = .ok (.iconst 1, 1) := by decide +kernel
theorem dL_law_1167 : decode cL_law 1167 = .ok (.iaload, 1) := by decide +kernel
theorem dL_law_1168 : decode cL_law 1168 = .ok (.irem, 1) := by decide +kernel
theorem dL_law_1169 : decode cL_law 1169 = .ok (.iconst 0, 1) := by decide +kernel
theorem dL_law_1170 : decode cL_law 1170 = .ok (.invokestatic 168, 3) := by decide +kernel
theorem dL_law_1173 : decode cL_law 1173 = .ok (.aload_n 1, 1) := by decide +kernel
theorem dL_law_1174 : decode cL_law 1174 = .ok (.iload 11, 2) := by decide +kernel
theorem dL_law_1176 : decode cL_law 1176 = .ok (.aload_n 2, 1) := by decide +kernel
theorem dL_law_1177 : decode cL_law 1177 = .ok (.iconst 1, 1) := by decide +kernel
theorem dL_law_1178 : decode cL_law 1178 = .ok (.iaload, 1) := by decide +kernel
theorem dL_law_1179 : decode cL_law 1179 = .ok (.irem, 1) := by decide +kernel
theorem dL_law_1180 : decode cL_law 1180 = .ok (.invokevirtual 82, 3) := by decide +kernel
theorem dL_law_1183 : decode cL_law 1183 = .ok (.if_icmp .ne 29, 3) := by decide +kernel
theorem dL_law_1186 : decode cL_law 1186 = .ok (.iload 9, 2) := by decide +kernel
theorem dL_law_1188 : decode cL_law 1188 = .ok (.bipush 20, 2) := by decide +kernel
theorem dL_law_1190 : decode cL_law 1190 = .ok (.irem, 1) := by decide +kernel
theorem dL_law_1191 : decode cL_law 1191 = .ok (.ifCond .gt 17, 3) := by decide +kernel
theorem dL_law_1194 : decode cL_law 1194 = .ok (.aload_n 1, 1) := by decide +kernel
theorem dL_law_1195 : decode cL_law 1195 = .ok (.aload 5, 2) := by decide +kernel
theorem dL_law_1197 : decode cL_law 1197 = .ok (.aload_n 2, 1) := by decide +kernel
theorem dL_law_1198 : decode cL_law 1198 = .ok (.iload 10, 2) := by decide +kernel
theorem dL_law_1200 : decode cL_law 1200 = .ok (.iconst 3, 1) := by decide +kernel
theorem dL_law_1201 : decode cL_law 1201 = .ok (.idiv, 1) := by decide +kernel
theorem dL_law_1202 : decode cL_law 1202 = .ok (.invokestatic 177, 3) := by decide +kernel
theorem dL_law_1205 : decode cL_law 1205 = .ok (.ifCond .eq 7, 3) := by decide +kernel
theorem dL_law_1208 : decode cL_law 1208 = .ok (.iconst 1, 1) := by decide +kernel
theorem dL_law_1209 : decode cL_law 1209 = .ok (.goto 4, 3) := by decide +kernel
theorem dL_law_1212 : decode cL_law 1212 = .ok (.iconst 0, 1) := by decide +kernel
theorem dL_law_1213 : decode cL_law 1213 = .ok (.istore 8, 2) := by decide +kernel
theorem dL_law_1215 : decode cL_law 1215 = .ok (.iinc 9 1, 3) := by decide +kernel
theorem dL_law_1218 : decode cL_law 1218 = .ok (.goto (-1124), 3) := by decide +kernel
theorem dL_law_1221 : decode cL_law 1221 = .ok (.iload 8, 2) := by decide +kernel
theorem dL_law_1223 : decode cL_law 1223 = .ok (.ireturn, 1) := by decide +kernel
def f_L_law_b1186 (L : Nat) (xs : Nat → Int32) (F Z : Nat) (K94 : St → Int32 → Int32 → Option (Int32 × St)) (s : St) (l9 : Int32) (l10 : Int32) : Option (Int32 × St) :=
  if 0 < (l9 - l9 / 20 * 20) then
    (K94 s 1 (l9 + 1))
  else
    ((f_L_isRefused F Z s (l10 / 3)).bind fun x13 => (if ct s ≤ ct x13.2 ∧ ct x13.2 ≤ Z then (if x13.1 = 0 then
      (K94 x13.2 0 (l9 + 1))
    else
      (K94 x13.2 1 (l9 + 1))) else none))
def f_L_law_b1144 (L : Nat) (xs : Nat → Int32) (F Z : Nat) (K94 : St → Int32 → Int32 → Option (Int32 × St)) (s : St) (l9 : Int32) (l10 : Int32) (l11 : Int32) : Option (Int32 × St) :=
  if (l9 - l9 / 50 * 50) < 49 then
    (f_L_law_b1186 L xs F Z K94 s l9 l10)
  else
    ((ix 4 1).bind fun j14 => (if (gA s 39 j14) = 0 then
      (f_L_law_b1186 L xs F Z K94 s l9 l10)
    else
      ((ix 4 1).bind fun j15 => (if gA s 39 j15 = 0 then none else ((f_L_of F Z s 6 (l11 - l11 / (gA s 39 j15) * (gA s 39 j15)) 0).bind fun x16 => (if ct s ≤ ct x16.2 ∧ ct x16.2 ≤ Z then ((ix 4 1).bind fun j17 => (if gA x16.2 39 j17 = 0 then none else ((qc Z x16.2 (fun z => f_P_rises F z x16.2 (l11 - l11 / (gA x16.2 39 j17) * (gA x16.2 39 j17)))).bind fun x18 => ((an x18.1).bind fun v19 => (if x16.1 = v19 then
        (f_L_law_b1186 L xs F Z K94 x18.2 l9 l10)
      else
        (K94 x18.2 0 (l9 + 1))))))) else none))))))
def f_L_law_b1098 (L : Nat) (xs : Nat → Int32) (F Z : Nat) (K94 : St → Int32 → Int32 → Option (Int32 × St)) (s : St) (l8 : Int32) (l9 : Int32) (l10 : Int32) (l11 : Int32) : Option (Int32 × St) :=
  if l8 = 0 then
    (K94 s 0 (l9 + 1))
  else
    ((f_L_areShifts F Z s l11).bind fun x12 => (if ct s ≤ ct x12.2 ∧ ct x12.2 ≤ Z then (if x12.1 = 0 then
      (K94 x12.2 0 (l9 + 1))
    else
      (if 0 < (l9 - l9 / 4 * 4) then
        (f_L_law_b1144 L xs F Z K94 x12.2 l9 l10 l11)
      else
        ((ix 4 1).bind fun j20 => (if (gA x12.2 39 j20) = 0 then
          (f_L_law_b1144 L xs F Z K94 x12.2 l9 l10 l11)
        else
          ((ix 4 1).bind fun j21 => (if gA x12.2 39 j21 = 0 then none else ((f_L_areAlarms F Z x12.2 (l11 - l11 / (gA x12.2 39 j21) * (gA x12.2 39 j21))).bind fun x22 => (if ct x12.2 ≤ ct x22.2 ∧ ct x22.2 ≤ Z then (if x22.1 = 0 then
            (K94 x22.2 0 (l9 + 1))
          else
            (f_L_law_b1144 L xs F Z K94 x22.2 l9 l10 l11)) else none)))))))) else none))
def f_L_law_b174 (L : Nat) (xs : Nat → Int32) (F Z : Nat) (K94 : St → Int32 → Int32 → Option (Int32 × St)) (s : St) (l9 : Int32) (l10 : Int32) (l11 : Int32) : Option (Int32 × St) :=
  (ix 4 0).bind fun j7 => ((ix 4 0).bind fun j8 => (lt (sA s 39 j8 ((gA s 39 j7) + 1)) fun s9 => ((f_L_act F Z s9 3 0 0 0 0).bind fun x10 => (if ct s9 ≤ ct x10.2 ∧ ct x10.2 ≤ Z then ((ix 4 0).bind fun j11 => (if x10.1 = ((gA x10.2 39 j11) - 1) then
    (f_L_law_b1098 L xs F Z K94 x10.2 1 l9 l10 l11)
  else
    (f_L_law_b1098 L xs F Z K94 x10.2 0 l9 l10 l11))) else none))))
def f_L_law_b1045 (L : Nat) (xs : Nat → Int32) (F Z : Nat) (K94 : St → Int32 → Int32 → Option (Int32 × St)) : Nat → St → Int32 → Int32 → Int32 → Int32 → Int32 → Int32 → Option (Int32 × St)
  | 0, _, _, _, _, _, _, _ => none
  | n + 1, s, l8, l9, l10, l11, l15, l16 =>
    if l15 ≤ l16 then
      (f_L_law_b1098 L xs F Z K94 s l8 l9 l10 l11)
    else
      (if l8 = 0 then
        (f_L_law_b1098 L xs F Z K94 s l8 l9 l10 l11)
      else
        ((f_P_alarms F s).bind fun x26 => (lt (kb s x26.2 0) fun s27 => ((ix 4 1).bind fun j28 => (if 64 ≤ (x26.1 + (gA s27 39 j28)) then
          (f_L_law_b1098 L xs F Z K94 s27 l8 l9 l10 l11)
        else
          ((f_P_now F s27).bind fun x29 => (lt (kb s27 x29.2 0) fun s30 => (if 440 ≤ x29.1 then
            (f_L_law_b1098 L xs F Z K94 s30 l8 l9 l10 l11)
          else
            ((f_L_isHour F Z s30).bind fun x31 => (if ct s30 ≤ ct x31.2 ∧ ct x31.2 ≤ Z then (f_L_law_b1045 L xs F Z K94 n x31.2 x31.1 l9 l10 l11 l15 (l16 + 1)) else none))))))))))
def f_L_law_b1021 (L : Nat) (xs : Nat → Int32) (F Z : Nat) (K94 : St → Int32 → Int32 → Option (Int32 × St)) (s : St) (l8 : Int32) (l9 : Int32) (l10 : Int32) (l11 : Int32) : Option (Int32 × St) :=
  if (l11 - l11 / 7 * 7) = 0 then
    (f_L_law_b1045 L xs F Z K94 F s l8 l9 l10 l11 ((1 : Int32) + (l11 - l11 / 12 * 12)) 0)
  else
    (f_L_law_b1045 L xs F Z K94 F s l8 l9 l10 l11 ((1 : Int32) + (l11 - l11 / 5 * 5)) 0)
def f_L_law_b863 (L : Nat) (xs : Nat → Int32) (F Z : Nat) (K94 : St → Int32 → Int32 → Option (Int32 × St)) (s : St) (l8 : Int32) (l9 : Int32) (l10 : Int32) (l11 : Int32) (l12 : Int32) (l13 : Int32) (l14 : Int32) : Option (Int32 × St) :=
  if 20 ≤ l12 then
    (if 22 ≤ l12 then
      (if 25 ≤ l12 then
        (f_L_law_b1021 L xs F Z K94 s l8 l9 l10 l11)
      else
        ((f_P_alarms F s).bind fun x32 => (lt (kb s x32.2 0) fun s33 => (if x32.1 ≤ 0 then
          (f_L_law_b1021 L xs F Z K94 s33 l8 l9 l10 l11)
        else
          ((f_P_alarms F s33).bind fun x34 => (lt (kb s33 x34.2 0) fun s35 => (if x34.1 = 0 then none else (if (l11 - l11 / 2 * 2) = 0 then
            ((f_L_isAnswered F Z s35 ((l11 / 2) - (l11 / 2) / x34.1 * x34.1) 1).bind fun x36 => (if ct s35 ≤ ct x36.2 ∧ ct x36.2 ≤ Z then (f_L_law_b1098 L xs F Z K94 x36.2 x36.1 l9 l10 l11) else none))
          else
            ((f_L_isAnswered F Z s35 ((l11 / 2) - (l11 / 2) / x34.1 * x34.1) 0).bind fun x37 => (if ct s35 ≤ ct x37.2 ∧ ct x37.2 ≤ Z then (f_L_law_b1098 L xs F Z K94 x37.2 x37.1 l9 l10 l11) else none))))))))))
    else
      ((f_L_isSwapped F Z s ((l13 + 1) + (l11 - l11 / 6 * 6)) ((l13 + 1) + ((l11 / 6) - (l11 / 6) / 6 * 6))).bind fun x38 => (if ct s ≤ ct x38.2 ∧ ct x38.2 ≤ Z then (f_L_law_b1098 L xs F Z K94 x38.2 x38.1 l9 l10 l11) else none)))
  else
    ((ix 64 ((l13 + 1) + ((l11 / 5) - (l11 / 5) / 6 * 6))).bind fun j39 => ((ix 64 ((l13 + 1) + ((l11 / 5) - (l11 / 5) / 6 * 6))).bind fun j40 => (lt (sA s 41 j40 ((gA s 41 j39) ^^^ ((1 : Int32) <<< (l14 &&& 31)))) fun s41 => ((f_L_act F Z s41 4 l14 ((l13 + 1) + ((l11 / 5) - (l11 / 5) / 6 * 6)) 0 0).bind fun x42 => (if ct s41 ≤ ct x42.2 ∧ ct x42.2 ≤ Z then ((ix 64 ((l13 + 1) + ((l11 / 5) - (l11 / 5) / 6 * 6))).bind fun j43 => (if x42.1 = (((gA x42.2 41 j43) >>> (l14 &&& 31)) &&& 1) then
      (f_L_law_b1098 L xs F Z K94 x42.2 1 l9 l10 l11)
    else
      (f_L_law_b1098 L xs F Z K94 x42.2 0 l9 l10 l11))) else none)))))
def f_L_law_b815 (L : Nat) (xs : Nat → Int32) (F Z : Nat) (K94 : St → Int32 → Int32 → Option (Int32 × St)) (s : St) (l9 : Int32) (l10 : Int32) (l11 : Int32) (l15 : Int32) (l16 : Int32) (l17 : Int32) (l18 : Int32) : Option (Int32 × St) :=
  (ix 4 1).bind fun j49 => (if gA s 39 j49 = 0 then none else ((f_L_act F Z s 7 (l11 - l11 / (gA s 39 j49) * (gA s 39 j49)) l16 l17 0).bind fun x50 => (if ct s ≤ ct x50.2 ∧ ct x50.2 ≤ Z then (if l18 = 0 then
    (if x50.1 = (-1243) then
      (f_L_law_b1098 L xs F Z K94 x50.2 1 l9 l10 l11)
    else
      (f_L_law_b1098 L xs F Z K94 x50.2 0 l9 l10 l11))
  else
    ((ix 48 (l15 + 4)).bind fun j51 => (if x50.1 = (gA x50.2 42 j51) then
      (f_L_law_b1098 L xs F Z K94 x50.2 1 l9 l10 l11)
    else
      (f_L_law_b1098 L xs F Z K94 x50.2 0 l9 l10 l11)))) else none)))
def f_L_law_b774 (L : Nat) (xs : Nat → Int32) (F Z : Nat) (K94 : St → Int32 → Int32 → Option (Int32 × St)) (s : St) (l9 : Int32) (l10 : Int32) (l11 : Int32) (l15 : Int32) (l16 : Int32) (l17 : Int32) (t0 : Int32) : Option (Int32 × St) :=
  if t0 = 0 then
    (f_L_law_b815 L xs F Z K94 s l9 l10 l11 l15 l16 l17 t0)
  else
    ((ix 48 (l15 + 4)).bind fun j52 => ((ix 48 ((l15 + 5) + (gA s 42 j52))).bind fun j53 => (lt (sA s 42 j53 (l16 ||| (l17 <<< ((10 : Int32) &&& 31)))) fun s54 => ((ix 48 (l15 + 4)).bind fun j55 => ((ix 48 (l15 + 4)).bind fun j56 => (lt (sA s54 42 j56 ((gA s54 42 j55) + 1)) fun s57 => (f_L_law_b815 L xs F Z K94 s57 l9 l10 l11 l15 l16 l17 t0)))))))
def f_L_law_b705 (L : Nat) (xs : Nat → Int32) (F Z : Nat) (K94 : St → Int32 → Int32 → Option (Int32 × St)) (s : St) (l8 : Int32) (l9 : Int32) (l10 : Int32) (l11 : Int32) (l12 : Int32) (l13 : Int32) (l14 : Int32) : Option (Int32 × St) :=
  if l12 = 16 then
    ((ix 4 1).bind fun j25 => (if (gA s 39 j25) ≤ 0 then
      (f_L_law_b863 L xs F Z K94 s l8 l9 l10 l11 l12 l13 l14)
    else
      ((ix 4 1).bind fun j44 => (if gA s 39 j44 = 0 then none else ((f_P_now F s).bind fun x45 => (lt (kb s x45.2 0) fun s46 => (lt (((x45.1 + 1) + ((l11 / 4) - (l11 / 4) / 12 * 12)) + ((l11 / 48) - (l11 / 48) / 9 * 9) : Int32) fun x47 => ((ix 48 (((12 : Int32) * (l11 - l11 / (gA s 39 j44) * (gA s 39 j44))) + 4)).bind fun j48 => (if 5 ≤ (gA s46 42 j48) then
        (f_L_law_b774 L xs F Z K94 s46 l9 l10 l11 ((12 : Int32) * (l11 - l11 / (gA s 39 j44) * (gA s 39 j44))) ((x45.1 + 1) + ((l11 / 4) - (l11 / 4) / 12 * 12)) x47 0)
      else
        (f_L_law_b774 L xs F Z K94 s46 l9 l10 l11 ((12 : Int32) * (l11 - l11 / (gA s 39 j44) * (gA s 39 j44))) ((x45.1 + 1) + ((l11 / 4) - (l11 / 4) / 12 * 12)) x47 1))))))))))
  else
    (f_L_law_b863 L xs F Z K94 s l8 l9 l10 l11 l12 l13 l14)
def f_L_law_b673 (L : Nat) (xs : Nat → Int32) (F Z : Nat) (K94 : St → Int32 → Int32 → Option (Int32 × St)) (s : St) (l9 : Int32) (l10 : Int32) (l11 : Int32) (l15 : Int32) (l16 : Int32) (t0 : Int32) : Option (Int32 × St) :=
  if (l11 - l11 / 3 * 3) = 0 then
    ((ix 48 (l15 + 3)).bind fun j64 => (lt (sA s 42 j64 1) fun s65 => (f_L_law_b1098 L xs F Z K94 s65 t0 l9 l10 l11)))
  else
    (if l16 = (-1243) then
      ((ix 48 (l15 + 3)).bind fun j66 => (lt (sA s 42 j66 1) fun s67 => (f_L_law_b1098 L xs F Z K94 s67 t0 l9 l10 l11)))
    else
      ((ix 48 (l15 + 3)).bind fun j68 => (lt (sA s 42 j68 0) fun s69 => (f_L_law_b1098 L xs F Z K94 s69 t0 l9 l10 l11))))
def f_L_law_b624 (L : Nat) (xs : Nat → Int32) (F Z : Nat) (K94 : St → Int32 → Int32 → Option (Int32 × St)) (s : St) (l9 : Int32) (l10 : Int32) (l11 : Int32) (l15 : Int32) (t0 : Int32) : Option (Int32 × St) :=
  (ix 48 (l15 + 3)).bind fun j60 => (lt (sA s 42 j60 1) fun s61 => (if (l11 - l11 / 3 * 3) = 0 then
    ((ix 4 1).bind fun j62 => (if gA s61 39 j62 = 0 then none else ((f_L_act F Z s61 6 (l11 - l11 / (gA s61 39 j62) * (gA s61 39 j62)) 0 0 0).bind fun x63 => (if ct s61 ≤ ct x63.2 ∧ ct x63.2 ≤ Z then (if x63.1 = t0 then
      (f_L_law_b673 L xs F Z K94 x63.2 l9 l10 l11 l15 t0 1)
    else
      (if (l11 - l11 / 3 * 3) ≤ 0 then
        (f_L_law_b673 L xs F Z K94 x63.2 l9 l10 l11 l15 t0 0)
      else
        (f_L_law_b673 L xs F Z K94 x63.2 l9 l10 l11 l15 t0 1))) else none))))
  else
    (if (l11 - l11 / 3 * 3) ≤ 0 then
      (f_L_law_b673 L xs F Z K94 s61 l9 l10 l11 l15 t0 0)
    else
      (f_L_law_b673 L xs F Z K94 s61 l9 l10 l11 l15 t0 1))))
def f_L_law_b573 (L : Nat) (xs : Nat → Int32) (F Z : Nat) (K94 : St → Int32 → Int32 → Option (Int32 × St)) (s : St) (l8 : Int32) (l9 : Int32) (l10 : Int32) (l11 : Int32) (l12 : Int32) (l13 : Int32) (l14 : Int32) : Option (Int32 × St) :=
  if l12 = 15 then
    ((ix 4 1).bind fun j24 => (if (gA s 39 j24) ≤ 0 then
      (f_L_law_b705 L xs F Z K94 s l8 l9 l10 l11 l12 l13 l14)
    else
      ((ix 4 1).bind fun j58 => (if gA s 39 j58 = 0 then none else ((ix 48 (((12 : Int32) * (l11 - l11 / (gA s 39 j58) * (gA s 39 j58))) + 3)).bind fun j59 => (if (gA s 42 j59) = 1 then
        (f_L_law_b624 L xs F Z K94 s l9 l10 l11 ((12 : Int32) * (l11 - l11 / (gA s 39 j58) * (gA s 39 j58))) (-1243))
      else
        ((ix 4 1).bind fun j70 => (if gA s 39 j70 = 0 then none else ((qc Z s (fun z => f_P_rises F z s (l11 - l11 / (gA s 39 j70) * (gA s 39 j70)))).bind fun x71 => ((an x71.1).bind fun v72 => (f_L_law_b624 L xs F Z K94 x71.2 l9 l10 l11 ((12 : Int32) * (l11 - l11 / (gA s 39 j58) * (gA s 39 j58))) v72)))))))))))
  else
    (f_L_law_b705 L xs F Z K94 s l8 l9 l10 l11 l12 l13 l14)
def f_L_law_b515 (L : Nat) (xs : Nat → Int32) (F Z : Nat) (K94 : St → Int32 → Int32 → Option (Int32 × St)) (s : St) (l9 : Int32) (l10 : Int32) (l11 : Int32) (l14 : Int32) (l15 : Int64) (l17 : Int32) (t1 : Int32) (t2 : Int32) (t3 : Int32) : Option (Int32 × St) :=
  if t3 = 0 then none else ((ix 48 t1).bind fun j82 => (lt (sA s 42 j82 (t2 - t2 / t3 * t3)) fun s83 => ((ix 4 1).bind fun j84 => ((ix 4 1).bind fun j85 => (lt (sA s83 39 j85 ((gA s83 39 j84) + 1)) fun s86 => (if l15 = (-77777) then
    (f_L_law_b1098 L xs F Z K94 s86 0 l9 l10 l11)
  else
    ((ix 48 (l17 + 1)).bind fun j87 => ((ix 48 (l17 + 2)).bind fun j88 => ((f_L_act F Z s86 5 l14 (gA s86 42 j87) (gA s86 42 j88) 0).bind fun x89 => (if ct s86 ≤ ct x89.2 ∧ ct x89.2 ≤ Z then ((ix 4 1).bind fun j90 => (if x89.1 = ((gA x89.2 39 j90) - 1) then
      (f_L_law_b1098 L xs F Z K94 x89.2 1 l9 l10 l11)
    else
      (f_L_law_b1098 L xs F Z K94 x89.2 0 l9 l10 l11))) else none))))))))))
def f_L_law_b486 (L : Nat) (xs : Nat → Int32) (F Z : Nat) (K94 : St → Int32 → Int32 → Option (Int32 × St)) (s : St) (l9 : Int32) (l10 : Int32) (l11 : Int32) (l14 : Int32) (l15 : Int64) (l17 : Int32) (t1 : Int32) (t2 : Int32) (t3 : Int32) (t4 : Int32) : Option (Int32 × St) :=
  if t4 = 0 then none else ((ix 48 t1).bind fun j80 => (lt (sA s 42 j80 (t2 + (t3 - t3 / t4 * t4))) fun s81 => (if (l11 - l11 / 5 * 5) = 0 then
    (f_L_law_b515 L xs F Z K94 s81 l9 l10 l11 l14 l15 l17 (l17 + 2) (l11 / 600) 73)
  else
    (f_L_law_b515 L xs F Z K94 s81 l9 l10 l11 l14 l15 l17 (l17 + 2) (l11 / 600) 10))))
def f_L_law_b345 (L : Nat) (xs : Nat → Int32) (F Z : Nat) (K94 : St → Int32 → Int32 → Option (Int32 × St)) (s : St) (l8 : Int32) (l9 : Int32) (l10 : Int32) (l11 : Int32) (l12 : Int32) (l13 : Int32) (l14 : Int32) : Option (Int32 × St) :=
  if 10 ≤ l12 then
    (if 12 ≤ l12 then
      (if 15 ≤ l12 then
        (f_L_law_b573 L xs F Z K94 s l8 l9 l10 l11 l12 l13 l14)
      else
        ((ix 4 1).bind fun j73 => (if 4 ≤ (gA s 39 j73) then
          (f_L_law_b573 L xs F Z K94 s l8 l9 l10 l11 l12 l13 l14)
        else
          ((f_P_now F s).bind fun x74 => (lt (kb s x74.2 0) fun s75 => ((f_L_value F Z s75 (l11 - l11 / 6 * 6) ((l11 / 6) - (l11 / 6) / 4 * 4) (l11 / 24) ((l11 / 24) - (l11 / 24) / 3 * 3) 0 x74.1).bind fun x76 => (if ct s75 ≤ ct x76.2 ∧ ct x76.2 ≤ Z then ((ix 4 1).bind fun j77 => ((ix 48 ((12 : Int32) * (gA x76.2 39 j77))).bind fun j78 => (lt (sA x76.2 42 j78 l14) fun s79 => (if (l11 - l11 / 5 * 5) = 0 then
            (f_L_law_b486 L xs F Z K94 s79 l9 l10 l11 l14 x76.1 ((12 : Int32) * (gA x76.2 39 j77)) (((12 : Int32) * (gA x76.2 39 j77)) + 1) 1 (l11 / 8) 72)
          else
            (f_L_law_b486 L xs F Z K94 s79 l9 l10 l11 l14 x76.1 ((12 : Int32) * (gA x76.2 39 j77)) (((12 : Int32) * (gA x76.2 39 j77)) + 1) 1 (l11 / 8) 12))))) else none)))))))
    else
      ((f_L_areValues F Z s l11).bind fun x91 => (if ct s ≤ ct x91.2 ∧ ct x91.2 ≤ Z then (f_L_law_b1098 L xs F Z K94 x91.2 x91.1 l9 l10 l11) else none)))
  else
    ((f_L_isText L xs F Z s ((300 : Int32) + ((26 : Int32) * (l11 - l11 / 40 * 40)))).bind fun x92 => (if ct s ≤ ct x92.2 ∧ ct x92.2 ≤ Z then (f_L_law_b1098 L xs F Z K94 x92.2 x92.1 l9 l10 l11) else none))
def f_L_law_b321 (L : Nat) (xs : Nat → Int32) (F Z : Nat) (K94 : St → Int32 → Int32 → Option (Int32 × St)) (s : St) (l9 : Int32) (l10 : Int32) (l11 : Int32) (l15 : Int32) (t1 : Int32) (t2 : Int32) (t3 : Int32) (t4 : Int32) (t5 : Int32) : Option (Int32 × St) :=
  (f_L_act F Z s t1 t2 t3 (t4 - t5) l15).bind fun x104 => (if ct s ≤ ct x104.2 ∧ ct x104.2 ≤ Z then ((ix 4 2).bind fun j105 => (if x104.1 = ((gA x104.2 39 j105) - 1) then
    (f_L_law_b1098 L xs F Z K94 x104.2 1 l9 l10 l11)
  else
    (f_L_law_b1098 L xs F Z K94 x104.2 0 l9 l10 l11))) else none)
def f_L_law_b252 (L : Nat) (xs : Nat → Int32) (F Z : Nat) (K94 : St → Int32 → Int32 → Option (Int32 × St)) (s : St) (l9 : Int32) (l10 : Int32) (l11 : Int32) (t0 : Int32) (t1 : Int32) (t2 : Int32) : Option (Int32 × St) :=
  if t2 = 0 then none else ((ix 4 2).bind fun j98 => ((ix 60 (gA s 39 j98)).bind fun j99 => (lt (sA s 40 j99 (t0 - (t1 - t1 / t2 * t2))) fun s100 => ((ix 4 2).bind fun j101 => ((ix 4 2).bind fun j102 => (lt (sA s100 39 j102 ((gA s100 39 j101) + 1)) fun s103 => (if (l11 - l11 / 3 * 3) = 0 then
    (if (l11 - l11 / 3 * 3) = 0 then
      (f_L_law_b321 L xs F Z K94 s103 l9 l10 l11 (t0 - (t1 - t1 / t2 * t2)) 2 (l11 - l11 / 8 * 8) ((l11 / 8) - (l11 / 8) / 6 * 6) ((l11 / 48) - (l11 / 48) / 2001 * 2001) 1000)
    else
      (f_L_law_b321 L xs F Z K94 s103 l9 l10 l11 (t0 - (t1 - t1 / t2 * t2)) 2 (l11 - l11 / 8 * 8) ((l11 / 8) - (l11 / 8) / 6 * 6) ((l11 / 48) - (l11 / 48) / 2001 * 2001) 10))
  else
    (if (l11 - l11 / 3 * 3) = 0 then
      (f_L_law_b321 L xs F Z K94 s103 l9 l10 l11 (t0 - (t1 - t1 / t2 * t2)) 2 (l11 - l11 / 8 * 8) ((l11 / 8) - (l11 / 8) / 6 * 6) ((l11 / 48) - (l11 / 48) / 21 * 21) 1000)
    else
      (f_L_law_b321 L xs F Z K94 s103 l9 l10 l11 (t0 - (t1 - t1 / t2 * t2)) 2 (l11 - l11 / 8 * 8) ((l11 / 8) - (l11 / 8) / 6 * 6) ((l11 / 48) - (l11 / 48) / 21 * 21) 10)))))))))
def f_L_law_b208 (L : Nat) (xs : Nat → Int32) (F Z : Nat) (K94 : St → Int32 → Int32 → Option (Int32 × St)) (s : St) (l8 : Int32) (l9 : Int32) (l10 : Int32) (l11 : Int32) (l12 : Int32) (l13 : Int32) (l14 : Int32) : Option (Int32 × St) :=
  if 8 ≤ l12 then
    (f_L_law_b345 L xs F Z K94 s l8 l9 l10 l11 l12 l13 l14)
  else
    ((ix 4 2).bind fun j93 => (if 60 ≤ (gA s 39 j93) then
      (f_L_law_b345 L xs F Z K94 s l8 l9 l10 l11 l12 l13 l14)
    else
      ((f_P_now F s).bind fun x94 => (lt (kb s x94.2 0) fun s95 => ((f_P_now F s95).bind fun x96 => (lt (kb s95 x96.2 0) fun s97 => (if 12 ≤ x96.1 then
        (f_L_law_b252 L xs F Z K94 s97 l9 l10 l11 x94.1 (l11 / 7) 12)
      else
        ((f_P_now F s97).bind fun x106 => (lt (kb s97 x106.2 0) fun s107 => (f_L_law_b252 L xs F Z K94 s107 l9 l10 l11 x94.1 (l11 / 7) (x106.1 + 1)))))))))))
def f_L_law_b153 (L : Nat) (xs : Nat → Int32) (F Z : Nat) (K94 : St → Int32 → Int32 → Option (Int32 × St)) (s : St) (l8 : Int32) (l9 : Int32) (l10 : Int32) (l11 : Int32) (l12 : Int32) (l13 : Int32) (t0 : Int32) : Option (Int32 × St) :=
  (ix 4 0).bind fun j6 => (if (gA s 39 j6) < 2 then
    (f_L_law_b174 L xs F Z K94 s l9 l10 l11)
  else
    (if l12 = 0 then
      ((ix 4 0).bind fun j23 => (if 5 ≤ (gA s 39 j23) then
        (f_L_law_b208 L xs F Z K94 s l8 l9 l10 l11 l12 l13 t0)
      else
        (f_L_law_b174 L xs F Z K94 s l9 l10 l11)))
    else
      (f_L_law_b208 L xs F Z K94 s l8 l9 l10 l11 l12 l13 t0)))
def f_L_law_b94 (L : Nat) (xs : Nat → Int32) (F Z : Nat) : Nat → St → Int32 → Int32 → Option (Int32 × St)
  | 0, _, _, _ => none
  | n + 1, s, l8, l9 =>
    if 100 ≤ l9 then
      (some (l8, s))
    else
      (if l8 = 0 then
        (some (l8, s))
      else
        ((f_L_dice L xs F Z s l9).bind fun x2 => (if ct s ≤ ct x2.2 ∧ ct x2.2 ≤ Z then ((f_P_now F x2.2).bind fun x3 => (lt (kb x2.2 x3.2 0) fun s4 => ((ix 4 0).bind fun j5 => (if (gA s4 39 j5) = 0 then
          (f_L_law_b153 L xs F Z (f_L_law_b94 L xs F Z n) s4 l8 l9 x2.1 (x2.1 / 32) (x2.1 - x2.1 / 32 * 32) (x3.1 / 8) 0)
        else
          ((ix 4 0).bind fun j108 => (if gA s4 39 j108 = 0 then none else (f_L_law_b153 L xs F Z (f_L_law_b94 L xs F Z n) s4 l8 l9 x2.1 (x2.1 / 32) (x2.1 - x2.1 / 32 * 32) (x3.1 / 8) ((x2.1 / 32) - (x2.1 / 32) / (gA s4 39 j108) * (gA s4 39 j108))))))))) else none)))
def f_L_law (L : Nat) (xs : Nat → Int32) (F Z : Nat) (s : St)  : Option (Int32 × St) :=
  (f_L_isRefused F Z s 0).bind fun x1 => (if ct s ≤ ct x1.2 ∧ ct x1.2 ≤ Z then (if x1.1 = 0 then
    (f_L_law_b94 L xs F Z F x1.2 0 0)
  else
    ((f_L_isRefused F Z x1.2 1).bind fun x109 => (if ct x1.2 ≤ ct x109.2 ∧ ct x109.2 ≤ Z then (if x109.1 = 0 then
      (f_L_law_b94 L xs F Z F x109.2 0 0)
    else
      ((f_P_next F x109.2).bind fun x110 => (lt (kb x109.2 x110.2 0) fun s111 => (if x110.1 = (-1) then
        ((f_L_isText L xs F Z s111 300).bind fun x112 => (if ct s111 ≤ ct x112.2 ∧ ct x112.2 ≤ Z then (if x112.1 = 0 then
          (f_L_law_b94 L xs F Z F x112.2 0 0)
        else
          (f_L_law_b94 L xs F Z F x112.2 1 0)) else none))
      else
        (f_L_law_b94 L xs F Z F s111 0 0))))) else none))) else none)
set_option maxHeartbeats 1000000 in
theorem c_f_L_law_b1186 {b L : Nat} {xs : Nat → Int32} {F Z : Nat} {Q : State → Prop} {k0 n0 : Nat} {c0 : Nat} {Γ : Ga} {D : DD} {B : Nat} {r : Int32} {s' : St} (X : Cx Γ RL cL_law 19 D B room_1) (M : RLe room_1 Z k0 n0 c0 807 16594) (Y : Xy Γ B) (S : SX Γ B b L xs) (hE : ∀ {s : St} {v : Int32} {pc : Nat} {lv : List (Nat × Value)}, Hc c0 Z s → decode cL_law pc = .ok (.ireturn, 1) → some (v, s) = some (r, s') → V Γ D B true 19 Q (kg k0 c0 s) (ng n0 c0 s) s pc lv [.int v]) {K94 : St → Int32 → Int32 → Option (Int32 × St)} (hK94 : ∀ {s : St} {l8 : Int32} {l9 : Int32}, Hc c0 Z s → K94 s l8 l9 = some (r, s') → V Γ D B true 19 Q (kg k0 c0 s) (ng n0 c0 s) s 94 [(0, .ref b), (1, .ref (B + 0)), (2, .ref (B + 39)), (3, .ref (B + 40)), (4, .ref (B + 41)), (5, .ref (B + 42)), (6, .ref (B + 43)), (7, .ref (B + 44)), (8, .int l8), (9, .int l9)] []) {s : St} {l9 : Int32} {l10 : Int32} (hc : Hc c0 Z s) (hf : f_L_law_b1186 L xs F Z K94 s l9 l10 = some (r, s')) : V Γ D B true 19 Q (kg k0 c0 s) (ng n0 c0 s) s 1186 [(0, .ref b), (1, .ref (B + 0)), (2, .ref (B + 39)), (3, .ref (B + 40)), (4, .ref (B + 41)), (5, .ref (B + 42)), (6, .ref (B + 43)), (7, .ref (B + 44)), (9, .int l9), (10, .int l10)] [] := by
  unfold f_L_law_b1186 at hf
  refine r_iload (pc := 1186) X dL_law_1186 8 rfl ?_
  refine r_bipush (v := 20) (pc := 1188) X dL_law_1188 (by decide) ?_
  refine r_irem (pc := 1190) X dL_law_1190 (by decide) ?_
  refine b_if_gt (tgt := 1208) (pc := 1191) X dL_law_1191 (by decide) hf (fun hf => ?_) (fun hf => ?_)
  · refine r_iconst (v := 1) (pc := 1208) X dL_law_1208 (by decide) ?_
    refine r_goto (tgt := 1213) (pc := 1209) X dL_law_1209 (by decide) ?_
    refine r_istore (pc := 1213) (lv' := [(0, .ref b), (1, .ref (B + 0)), (2, .ref (B + 39)), (3, .ref (B + 40)), (4, .ref (B + 41)), (5, .ref (B + 42)), (6, .ref (B + 43)), (7, .ref (B + 44)), (8, .int 1), (9, .int l9)]) X dL_law_1213 (by decide) [1, 2, 3, 4, 5, 6, 7, 8, 0, 9] rfl ?_
    refine r_iinc (v := l9 + 1) (lv' := [(0, .ref b), (1, .ref (B + 0)), (2, .ref (B + 39)), (3, .ref (B + 40)), (4, .ref (B + 41)), (5, .ref (B + 42)), (6, .ref (B + 43)), (7, .ref (B + 44)), (8, .int 1), (9, .int (l9 + 1))]) (pc := 1215) X dL_law_1215 9 rfl rfl (by decide) [1, 2, 3, 4, 5, 6, 7, 8, 9, 0] rfl ?_
    refine r_goto (tgt := 94) (pc := 1218) X dL_law_1218 (by decide) ?_
    exact hK94 hc hf
  · refine r_aload_n (x := some 0) (pc := 1194) X dL_law_1194 1 rfl ?_
    refine r_aload (x := some 42) (pc := 1195) X dL_law_1195 5 rfl ?_
    refine r_aload_n (x := some 39) (pc := 1197) X dL_law_1197 2 rfl ?_
    refine r_iload (pc := 1198) X dL_law_1198 9 rfl ?_
    refine r_iconst (v := 3) (pc := 1200) X dL_law_1200 (by decide) ?_
    refine r_idiv (pc := 1201) X dL_law_1201 (by decide) ?_
    refine bnd hf (fun x13 h13 hf => ?_)
    refine ifo hf (fun hz hf => ?_)
    refine y_callXSi (As := [.ref (B + 0), .ref (B + 42), .ref (B + 39), .int (l10 / 3)]) (st := []) (pc := 1202) X M Y hc (c_f_L_isRefused h13 hc.2) rfl w_1019 w_1020 w_35 w_1021 hdS_L_isRefused (by decide) hz (Nat.le_of_ble_eq_true rfl) dL_law_1202 rfl (fun hc => ?_)
    refine b_if_eq (tgt := 1212) (pc := 1205) X dL_law_1205 (by decide) hf (fun hf => ?_) (fun hf => ?_)
    · refine r_iconst (v := 0) (pc := 1212) X dL_law_1212 (by decide) ?_
      refine r_istore (pc := 1213) (lv' := [(0, .ref b), (1, .ref (B + 0)), (2, .ref (B + 39)), (3, .ref (B + 40)), (4, .ref (B + 41)), (5, .ref (B + 42)), (6, .ref (B + 43)), (7, .ref (B + 44)), (8, .int 0), (9, .int l9)]) X dL_law_1213 (by decide) [1, 2, 3, 4, 5, 6, 7, 8, 0, 9] rfl ?_
      refine r_iinc (v := l9 + 1) (lv' := [(0, .ref b), (1, .ref (B + 0)), (2, .ref (B + 39)), (3, .ref (B + 40)), (4, .ref (B + 41)), (5, .ref (B + 42)), (6, .ref (B + 43)), (7, .ref (B + 44)), (8, .int 0), (9, .int (l9 + 1))]) (pc := 1215) X dL_law_1215 9 rfl rfl (by decide) [1, 2, 3, 4, 5, 6, 7, 8, 9, 0] rfl ?_
      refine r_goto (tgt := 94) (pc := 1218) X dL_law_1218 (by decide) ?_
      exact hK94 hc hf
    · refine r_iconst (v := 1) (pc := 1208) X dL_law_1208 (by decide) ?_
      refine r_goto (tgt := 1213) (pc := 1209) X dL_law_1209 (by decide) ?_
      refine r_istore (pc := 1213) (lv' := [(0, .ref b), (1, .ref (B + 0)), (2, .ref (B + 39)), (3, .ref (B + 40)), (4, .ref (B + 41)), (5, .ref (B + 42)), (6, .ref (B + 43)), (7, .ref (B + 44)), (8, .int 1), (9, .int l9)]) X dL_law_1213 (by decide) [1, 2, 3, 4, 5, 6, 7, 8, 0, 9] rfl ?_
      refine r_iinc (v := l9 + 1) (lv' := [(0, .ref b), (1, .ref (B + 0)), (2, .ref (B + 39)), (3, .ref (B + 40)), (4, .ref (B + 41)), (5, .ref (B + 42)), (6, .ref (B + 43)), (7, .ref (B + 44)), (8, .int 1), (9, .int (l9 + 1))]) (pc := 1215) X dL_law_1215 9 rfl rfl (by decide) [1, 2, 3, 4, 5, 6, 7, 8, 9, 0] rfl ?_
      refine r_goto (tgt := 94) (pc := 1218) X dL_law_1218 (by decide) ?_
      exact hK94 hc hf
set_option maxHeartbeats 1000000 in
theorem c_f_L_law_b1144 {b L : Nat} {xs : Nat → Int32} {F Z : Nat} {Q : State → Prop} {k0 n0 : Nat} {c0 : Nat} {Γ : Ga} {D : DD} {B : Nat} {r : Int32} {s' : St} (X : Cx Γ RL cL_law 19 D B room_1) (M : RLe room_1 Z k0 n0 c0 807 16594) (Y : Xy Γ B) (S : SX Γ B b L xs) (hE : ∀ {s : St} {v : Int32} {pc : Nat} {lv : List (Nat × Value)}, Hc c0 Z s → decode cL_law pc = .ok (.ireturn, 1) → some (v, s) = some (r, s') → V Γ D B true 19 Q (kg k0 c0 s) (ng n0 c0 s) s pc lv [.int v]) {K94 : St → Int32 → Int32 → Option (Int32 × St)} (hK94 : ∀ {s : St} {l8 : Int32} {l9 : Int32}, Hc c0 Z s → K94 s l8 l9 = some (r, s') → V Γ D B true 19 Q (kg k0 c0 s) (ng n0 c0 s) s 94 [(0, .ref b), (1, .ref (B + 0)), (2, .ref (B + 39)), (3, .ref (B + 40)), (4, .ref (B + 41)), (5, .ref (B + 42)), (6, .ref (B + 43)), (7, .ref (B + 44)), (8, .int l8), (9, .int l9)] []) {s : St} {l9 : Int32} {l10 : Int32} {l11 : Int32} (hc : Hc c0 Z s) (hf : f_L_law_b1144 L xs F Z K94 s l9 l10 l11 = some (r, s')) : V Γ D B true 19 Q (kg k0 c0 s) (ng n0 c0 s) s 1144 [(0, .ref b), (1, .ref (B + 0)), (2, .ref (B + 39)), (3, .ref (B + 40)), (4, .ref (B + 41)), (5, .ref (B + 42)), (6, .ref (B + 43)), (7, .ref (B + 44)), (9, .int l9), (10, .int l10), (11, .int l11)] [] := by
  unfold f_L_law_b1144 at hf
  refine r_iload (pc := 1144) X dL_law_1144 8 rfl ?_
  refine r_bipush (v := 50) (pc := 1146) X dL_law_1146 (by decide) ?_
  refine r_irem (pc := 1148) X dL_law_1148 (by decide) ?_
  refine r_bipush (v := 49) (pc := 1149) X dL_law_1149 (by decide) ?_
  refine b_icmp_lt (tgt := 1186) (pc := 1151) X dL_law_1151 (by decide) hf (fun hf => ?_) (fun hf => ?_)
  · refine r_forget (lv' := [(0, .ref b), (1, .ref (B + 0)), (2, .ref (B + 39)), (3, .ref (B + 40)), (4, .ref (B + 41)), (5, .ref (B + 42)), (6, .ref (B + 43)), (7, .ref (B + 44)), (9, .int l9), (10, .int l10)]) [0, 1, 2, 3, 4, 5, 6, 7, 8, 9] rfl ?_
    exact c_f_L_law_b1186 X M Y S hE hK94 hc hf
  · refine r_aload_n (x := some 39) (pc := 1154) X dL_law_1154 2 rfl ?_
    refine r_iconst (v := 1) (pc := 1155) X dL_law_1155 (by decide) ?_
    refine b_iald (pc := 1156) X ce_39 dL_law_1156 hf (fun j14 hf => ?_)
    refine b_if_eq (tgt := 1186) (pc := 1157) X dL_law_1157 (by decide) hf (fun hf => ?_) (fun hf => ?_)
    · refine r_forget (lv' := [(0, .ref b), (1, .ref (B + 0)), (2, .ref (B + 39)), (3, .ref (B + 40)), (4, .ref (B + 41)), (5, .ref (B + 42)), (6, .ref (B + 43)), (7, .ref (B + 44)), (9, .int l9), (10, .int l10)]) [0, 1, 2, 3, 4, 5, 6, 7, 8, 9] rfl ?_
      exact c_f_L_law_b1186 X M Y S hE hK94 hc hf
    · refine r_aload_n (x := some 0) (pc := 1160) X dL_law_1160 1 rfl ?_
      refine r_bipush (v := 6) (pc := 1161) X dL_law_1161 (by decide) ?_
      refine r_iload (pc := 1163) X dL_law_1163 10 rfl ?_
      refine r_aload_n (x := some 39) (pc := 1165) X dL_law_1165 2 rfl ?_
      refine r_iconst (v := 1) (pc := 1166) X dL_law_1166 (by decide) ?_
      refine b_iald (pc := 1167) X ce_39 dL_law_1167 hf (fun j15 hf => ?_)
      refine ifz hf (fun hne hf => ?_)
      refine r_irem (pc := 1168) X dL_law_1168 hne ?_
      refine r_iconst (v := 0) (pc := 1169) X dL_law_1169 (by decide) ?_
      refine bnd hf (fun x16 h16 hf => ?_)
      refine ifo hf (fun hz hf => ?_)
      refine y_callWSi (As := [.ref (B + 0), .int 6, .int (l11 - l11 / (gA s 39 j15) * (gA s 39 j15)), .int 0]) (st := []) (pc := 1170) X M Y hc (c_f_L_of h16 hc.2) rfl w_797 w_798 w_35 w_799 hdS_L_of (by decide) hz (Nat.le_of_ble_eq_true rfl) dL_law_1170 rfl (fun hc => ?_)
      refine r_aload_n (x := some 0) (pc := 1173) X dL_law_1173 1 rfl ?_
      refine r_iload (pc := 1174) X dL_law_1174 10 rfl ?_
      refine r_aload_n (x := some 39) (pc := 1176) X dL_law_1176 2 rfl ?_
      refine r_iconst (v := 1) (pc := 1177) X dL_law_1177 (by decide) ?_
      refine b_iald (pc := 1178) X ce_39 dL_law_1178 hf (fun j17 hf => ?_)
      refine ifz hf (fun hne hf => ?_)
      refine r_irem (pc := 1179) X dL_law_1179 hne ?_
      refine bnd hf (fun x18 h18 hf => ?_)
      refine bnd hf (fun v19 h18v hf => ?_)
      refine y_callXVi (As := [.int (l11 - l11 / (gA x16.2 39 j17) * (gA x16.2 39 j17))]) (st := [.int x16.1]) (pc := 1180) X M Y hc (qc_run (ou := ouI) hc.2 (fun z x h => c_f_P_rises h) h18) rfl w_351 w_352 w_353 w_36 w_354 hdV_X10_rises (Rc.s rfl ce_0) (by decide) (Nat.le_of_ble_eq_true rfl) dL_law_1180 rfl h18v (fun hc => ?_)
      refine b_icmp_ne (tgt := 1212) (pc := 1183) X dL_law_1183 (by decide) hf (fun hf => ?_) (fun hf => ?_)
      · refine r_forget (lv' := [(0, .ref b), (1, .ref (B + 0)), (2, .ref (B + 39)), (3, .ref (B + 40)), (4, .ref (B + 41)), (5, .ref (B + 42)), (6, .ref (B + 43)), (7, .ref (B + 44)), (9, .int l9), (10, .int l10)]) [0, 1, 2, 3, 4, 5, 6, 7, 8, 9] rfl ?_
        exact c_f_L_law_b1186 X M Y S hE hK94 hc hf
      · refine r_iconst (v := 0) (pc := 1212) X dL_law_1212 (by decide) ?_
        refine r_istore (pc := 1213) (lv' := [(0, .ref b), (1, .ref (B + 0)), (2, .ref (B + 39)), (3, .ref (B + 40)), (4, .ref (B + 41)), (5, .ref (B + 42)), (6, .ref (B + 43)), (7, .ref (B + 44)), (8, .int 0), (9, .int l9)]) X dL_law_1213 (by decide) [1, 2, 3, 4, 5, 6, 7, 8, 0, 9] rfl ?_
        refine r_iinc (v := l9 + 1) (lv' := [(0, .ref b), (1, .ref (B + 0)), (2, .ref (B + 39)), (3, .ref (B + 40)), (4, .ref (B + 41)), (5, .ref (B + 42)), (6, .ref (B + 43)), (7, .ref (B + 44)), (8, .int 0), (9, .int (l9 + 1))]) (pc := 1215) X dL_law_1215 9 rfl rfl (by decide) [1, 2, 3, 4, 5, 6, 7, 8, 9, 0] rfl ?_
        refine r_goto (tgt := 94) (pc := 1218) X dL_law_1218 (by decide) ?_
        exact hK94 hc hf
set_option maxHeartbeats 1000000 in
theorem c_f_L_law_b1098 {b L : Nat} {xs : Nat → Int32} {F Z : Nat} {Q : State → Prop} {k0 n0 : Nat} {c0 : Nat} {Γ : Ga} {D : DD} {B : Nat} {r : Int32} {s' : St} (X : Cx Γ RL cL_law 19 D B room_1) (M : RLe room_1 Z k0 n0 c0 807 16594) (Y : Xy Γ B) (S : SX Γ B b L xs) (hE : ∀ {s : St} {v : Int32} {pc : Nat} {lv : List (Nat × Value)}, Hc c0 Z s → decode cL_law pc = .ok (.ireturn, 1) → some (v, s) = some (r, s') → V Γ D B true 19 Q (kg k0 c0 s) (ng n0 c0 s) s pc lv [.int v]) {K94 : St → Int32 → Int32 → Option (Int32 × St)} (hK94 : ∀ {s : St} {l8 : Int32} {l9 : Int32}, Hc c0 Z s → K94 s l8 l9 = some (r, s') → V Γ D B true 19 Q (kg k0 c0 s) (ng n0 c0 s) s 94 [(0, .ref b), (1, .ref (B + 0)), (2, .ref (B + 39)), (3, .ref (B + 40)), (4, .ref (B + 41)), (5, .ref (B + 42)), (6, .ref (B + 43)), (7, .ref (B + 44)), (8, .int l8), (9, .int l9)] []) {s : St} {l8 : Int32} {l9 : Int32} {l10 : Int32} {l11 : Int32} (hc : Hc c0 Z s) (hf : f_L_law_b1098 L xs F Z K94 s l8 l9 l10 l11 = some (r, s')) : V Γ D B true 19 Q (kg k0 c0 s) (ng n0 c0 s) s 1098 [(0, .ref b), (1, .ref (B + 0)), (2, .ref (B + 39)), (3, .ref (B + 40)), (4, .ref (B + 41)), (5, .ref (B + 42)), (6, .ref (B + 43)), (7, .ref (B + 44)), (8, .int l8), (9, .int l9), (10, .int l10), (11, .int l11)] [] := by
  unfold f_L_law_b1098 at hf
  refine r_iload (pc := 1098) X dL_law_1098 8 rfl ?_
  refine b_if_eq (tgt := 1212) (pc := 1100) X dL_law_1100 (by decide) hf (fun hf => ?_) (fun hf => ?_)
  · refine r_iconst (v := 0) (pc := 1212) X dL_law_1212 (by decide) ?_
    refine r_istore (pc := 1213) (lv' := [(0, .ref b), (1, .ref (B + 0)), (2, .ref (B + 39)), (3, .ref (B + 40)), (4, .ref (B + 41)), (5, .ref (B + 42)), (6, .ref (B + 43)), (7, .ref (B + 44)), (8, .int 0), (9, .int l9)]) X dL_law_1213 (by decide) [1, 2, 3, 4, 5, 6, 7, 8, 0, 9] rfl ?_
    refine r_iinc (v := l9 + 1) (lv' := [(0, .ref b), (1, .ref (B + 0)), (2, .ref (B + 39)), (3, .ref (B + 40)), (4, .ref (B + 41)), (5, .ref (B + 42)), (6, .ref (B + 43)), (7, .ref (B + 44)), (8, .int 0), (9, .int (l9 + 1))]) (pc := 1215) X dL_law_1215 9 rfl rfl (by decide) [1, 2, 3, 4, 5, 6, 7, 8, 9, 0] rfl ?_
    refine r_goto (tgt := 94) (pc := 1218) X dL_law_1218 (by decide) ?_
    exact hK94 hc hf
  · refine r_aload_n (x := some 0) (pc := 1103) X dL_law_1103 1 rfl ?_
    refine r_aload (x := some 41) (pc := 1104) X dL_law_1104 4 rfl ?_
    refine r_aload_n (x := some 39) (pc := 1106) X dL_law_1106 2 rfl ?_
    refine r_iload (pc := 1107) X dL_law_1107 11 rfl ?_
    refine bnd hf (fun x12 h12 hf => ?_)
    refine ifo hf (fun hz hf => ?_)
    refine y_callXSi (As := [.ref (B + 0), .ref (B + 41), .ref (B + 39), .int l11]) (st := []) (pc := 1109) X M Y hc (c_f_L_areShifts h12 hc.2) rfl w_986 w_987 w_35 w_988 hdS_L_areShifts (by decide) hz (Nat.le_of_ble_eq_true rfl) dL_law_1109 rfl (fun hc => ?_)
    refine b_if_eq (tgt := 1212) (pc := 1112) X dL_law_1112 (by decide) hf (fun hf => ?_) (fun hf => ?_)
    · refine r_iconst (v := 0) (pc := 1212) X dL_law_1212 (by decide) ?_
      refine r_istore (pc := 1213) (lv' := [(0, .ref b), (1, .ref (B + 0)), (2, .ref (B + 39)), (3, .ref (B + 40)), (4, .ref (B + 41)), (5, .ref (B + 42)), (6, .ref (B + 43)), (7, .ref (B + 44)), (8, .int 0), (9, .int l9)]) X dL_law_1213 (by decide) [1, 2, 3, 4, 5, 6, 7, 8, 0, 9] rfl ?_
      refine r_iinc (v := l9 + 1) (lv' := [(0, .ref b), (1, .ref (B + 0)), (2, .ref (B + 39)), (3, .ref (B + 40)), (4, .ref (B + 41)), (5, .ref (B + 42)), (6, .ref (B + 43)), (7, .ref (B + 44)), (8, .int 0), (9, .int (l9 + 1))]) (pc := 1215) X dL_law_1215 9 rfl rfl (by decide) [1, 2, 3, 4, 5, 6, 7, 8, 9, 0] rfl ?_
      refine r_goto (tgt := 94) (pc := 1218) X dL_law_1218 (by decide) ?_
      exact hK94 hc hf
    · refine r_iload (pc := 1115) X dL_law_1115 9 rfl ?_
      refine r_iconst (v := 4) (pc := 1117) X dL_law_1117 (by decide) ?_
      refine r_irem (pc := 1118) X dL_law_1118 (by decide) ?_
      refine b_if_gt (tgt := 1144) (pc := 1119) X dL_law_1119 (by decide) hf (fun hf => ?_) (fun hf => ?_)
      · refine r_forget (lv' := [(0, .ref b), (1, .ref (B + 0)), (2, .ref (B + 39)), (3, .ref (B + 40)), (4, .ref (B + 41)), (5, .ref (B + 42)), (6, .ref (B + 43)), (7, .ref (B + 44)), (9, .int l9), (10, .int l10), (11, .int l11)]) [0, 1, 2, 3, 4, 5, 6, 7, 9, 10, 11] rfl ?_
        exact c_f_L_law_b1144 X M Y S hE hK94 hc hf
      · refine r_aload_n (x := some 39) (pc := 1122) X dL_law_1122 2 rfl ?_
        refine r_iconst (v := 1) (pc := 1123) X dL_law_1123 (by decide) ?_
        refine b_iald (pc := 1124) X ce_39 dL_law_1124 hf (fun j20 hf => ?_)
        refine b_if_eq (tgt := 1144) (pc := 1125) X dL_law_1125 (by decide) hf (fun hf => ?_) (fun hf => ?_)
        · refine r_forget (lv' := [(0, .ref b), (1, .ref (B + 0)), (2, .ref (B + 39)), (3, .ref (B + 40)), (4, .ref (B + 41)), (5, .ref (B + 42)), (6, .ref (B + 43)), (7, .ref (B + 44)), (9, .int l9), (10, .int l10), (11, .int l11)]) [0, 1, 2, 3, 4, 5, 6, 7, 9, 10, 11] rfl ?_
          exact c_f_L_law_b1144 X M Y S hE hK94 hc hf
        · refine r_aload_n (x := some 0) (pc := 1128) X dL_law_1128 1 rfl ?_
          refine r_aload (x := some 42) (pc := 1129) X dL_law_1129 5 rfl ?_
          refine r_aload_n (x := some 39) (pc := 1131) X dL_law_1131 2 rfl ?_
          refine r_iload (pc := 1132) X dL_law_1132 11 rfl ?_
          refine r_aload_n (x := some 39) (pc := 1134) X dL_law_1134 2 rfl ?_
          refine r_iconst (v := 1) (pc := 1135) X dL_law_1135 (by decide) ?_
          refine b_iald (pc := 1136) X ce_39 dL_law_1136 hf (fun j21 hf => ?_)
          refine ifz hf (fun hne hf => ?_)
          refine r_irem (pc := 1137) X dL_law_1137 hne ?_
          refine bnd hf (fun x22 h22 hf => ?_)
          refine ifo hf (fun hz hf => ?_)
          refine y_callXSi (As := [.ref (B + 0), .ref (B + 42), .ref (B + 39), .int (l11 - l11 / (gA x12.2 39 j21) * (gA x12.2 39 j21))]) (st := []) (pc := 1138) X M Y hc (c_f_L_areAlarms h22 hc.2) rfl w_1013 w_1014 w_35 w_1015 hdS_L_areAlarms (by decide) hz (Nat.le_of_ble_eq_true rfl) dL_law_1138 rfl (fun hc => ?_)
          refine b_if_eq (tgt := 1212) (pc := 1141) X dL_law_1141 (by decide) hf (fun hf => ?_) (fun hf => ?_)
          · refine r_iconst (v := 0) (pc := 1212) X dL_law_1212 (by decide) ?_
            refine r_istore (pc := 1213) (lv' := [(0, .ref b), (1, .ref (B + 0)), (2, .ref (B + 39)), (3, .ref (B + 40)), (4, .ref (B + 41)), (5, .ref (B + 42)), (6, .ref (B + 43)), (7, .ref (B + 44)), (8, .int 0), (9, .int l9)]) X dL_law_1213 (by decide) [1, 2, 3, 4, 5, 6, 7, 8, 0, 9] rfl ?_
            refine r_iinc (v := l9 + 1) (lv' := [(0, .ref b), (1, .ref (B + 0)), (2, .ref (B + 39)), (3, .ref (B + 40)), (4, .ref (B + 41)), (5, .ref (B + 42)), (6, .ref (B + 43)), (7, .ref (B + 44)), (8, .int 0), (9, .int (l9 + 1))]) (pc := 1215) X dL_law_1215 9 rfl rfl (by decide) [1, 2, 3, 4, 5, 6, 7, 8, 9, 0] rfl ?_
            refine r_goto (tgt := 94) (pc := 1218) X dL_law_1218 (by decide) ?_
            exact hK94 hc hf
          · refine r_forget (lv' := [(0, .ref b), (1, .ref (B + 0)), (2, .ref (B + 39)), (3, .ref (B + 40)), (4, .ref (B + 41)), (5, .ref (B + 42)), (6, .ref (B + 43)), (7, .ref (B + 44)), (9, .int l9), (10, .int l10), (11, .int l11)]) [0, 1, 2, 3, 4, 5, 6, 7, 9, 10, 11] rfl ?_
            exact c_f_L_law_b1144 X M Y S hE hK94 hc hf
set_option maxHeartbeats 1000000 in
theorem c_f_L_law_b174 {b L : Nat} {xs : Nat → Int32} {F Z : Nat} {Q : State → Prop} {k0 n0 : Nat} {c0 : Nat} {Γ : Ga} {D : DD} {B : Nat} {r : Int32} {s' : St} (X : Cx Γ RL cL_law 19 D B room_1) (M : RLe room_1 Z k0 n0 c0 807 16594) (Y : Xy Γ B) (S : SX Γ B b L xs) (hE : ∀ {s : St} {v : Int32} {pc : Nat} {lv : List (Nat × Value)}, Hc c0 Z s → decode cL_law pc = .ok (.ireturn, 1) → some (v, s) = some (r, s') → V Γ D B true 19 Q (kg k0 c0 s) (ng n0 c0 s) s pc lv [.int v]) {K94 : St → Int32 → Int32 → Option (Int32 × St)} (hK94 : ∀ {s : St} {l8 : Int32} {l9 : Int32}, Hc c0 Z s → K94 s l8 l9 = some (r, s') → V Γ D B true 19 Q (kg k0 c0 s) (ng n0 c0 s) s 94 [(0, .ref b), (1, .ref (B + 0)), (2, .ref (B + 39)), (3, .ref (B + 40)), (4, .ref (B + 41)), (5, .ref (B + 42)), (6, .ref (B + 43)), (7, .ref (B + 44)), (8, .int l8), (9, .int l9)] []) {s : St} {l9 : Int32} {l10 : Int32} {l11 : Int32} (hc : Hc c0 Z s) (hf : f_L_law_b174 L xs F Z K94 s l9 l10 l11 = some (r, s')) : V Γ D B true 19 Q (kg k0 c0 s) (ng n0 c0 s) s 174 [(0, .ref b), (1, .ref (B + 0)), (2, .ref (B + 39)), (3, .ref (B + 40)), (4, .ref (B + 41)), (5, .ref (B + 42)), (6, .ref (B + 43)), (7, .ref (B + 44)), (9, .int l9), (10, .int l10), (11, .int l11)] [] := by
  unfold f_L_law_b174 at hf
  refine r_aload_n (x := some 39) (pc := 174) X dL_law_174 2 rfl ?_
  refine r_iconst (v := 0) (pc := 175) X dL_law_175 (by decide) ?_
  refine r_dup2 (pc := 176) X dL_law_176 rfl rfl ?_
  refine b_iald (pc := 177) X ce_39 dL_law_177 hf (fun j7 hf => ?_)
  refine r_iconst (v := 1) (pc := 178) X dL_law_178 (by decide) ?_
  refine r_iadd (pc := 179) X dL_law_179 ?_
  refine y_iast (pc := 180) X ce_39 (fun _ => ca_39 _ _) dL_law_180 hf (fun j8 s9 e9 hf => ?_)
  have hc := hc.eq e9
  refine r_aload_n (x := some 0) (pc := 181) X dL_law_181 1 rfl ?_
  refine r_iconst (v := 3) (pc := 182) X dL_law_182 (by decide) ?_
  refine r_iconst (v := 0) (pc := 183) X dL_law_183 (by decide) ?_
  refine r_iconst (v := 0) (pc := 184) X dL_law_184 (by decide) ?_
  refine r_iconst (v := 0) (pc := 185) X dL_law_185 (by decide) ?_
  refine r_iconst (v := 0) (pc := 186) X dL_law_186 (by decide) ?_
  refine bnd hf (fun x10 h10 hf => ?_)
  refine ifo hf (fun hz hf => ?_)
  refine y_callWSi (As := [.ref (B + 0), .int 3, .int 0, .int 0, .int 0, .int 0]) (st := []) (pc := 187) X M Y hc (c_f_L_act h10 hc.2) rfl w_437 w_438 w_35 w_439 hdS_L_act (by decide) hz (Nat.le_of_ble_eq_true rfl) dL_law_187 rfl (fun hc => ?_)
  refine r_aload_n (x := some 39) (pc := 190) X dL_law_190 2 rfl ?_
  refine r_iconst (v := 0) (pc := 191) X dL_law_191 (by decide) ?_
  refine b_iald (pc := 192) X ce_39 dL_law_192 hf (fun j11 hf => ?_)
  refine r_iconst (v := 1) (pc := 193) X dL_law_193 (by decide) ?_
  refine r_isub (pc := 194) X dL_law_194 ?_
  refine b_icmp_ne (tgt := 202) (pc := 195) X dL_law_195 (by decide) hf (fun hf => ?_) (fun hf => ?_)
  · refine r_iconst (v := 1) (pc := 198) X dL_law_198 (by decide) ?_
    refine r_goto (tgt := 203) (pc := 199) X dL_law_199 (by decide) ?_
    refine r_istore (pc := 203) (lv' := [(0, .ref b), (1, .ref (B + 0)), (2, .ref (B + 39)), (3, .ref (B + 40)), (4, .ref (B + 41)), (5, .ref (B + 42)), (6, .ref (B + 43)), (7, .ref (B + 44)), (8, .int 1), (9, .int l9), (10, .int l10), (11, .int l11)]) X dL_law_203 (by decide) [1, 2, 3, 4, 5, 6, 7, 8, 0, 9, 10, 11] rfl ?_
    refine r_goto (tgt := 1098) (pc := 205) X dL_law_205 (by decide) ?_
    exact c_f_L_law_b1098 X M Y S hE hK94 hc hf
  · refine r_iconst (v := 0) (pc := 202) X dL_law_202 (by decide) ?_
    refine r_istore (pc := 203) (lv' := [(0, .ref b), (1, .ref (B + 0)), (2, .ref (B + 39)), (3, .ref (B + 40)), (4, .ref (B + 41)), (5, .ref (B + 42)), (6, .ref (B + 43)), (7, .ref (B + 44)), (8, .int 0), (9, .int l9), (10, .int l10), (11, .int l11)]) X dL_law_203 (by decide) [1, 2, 3, 4, 5, 6, 7, 8, 0, 9, 10, 11] rfl ?_
    refine r_goto (tgt := 1098) (pc := 205) X dL_law_205 (by decide) ?_
    exact c_f_L_law_b1098 X M Y S hE hK94 hc hf
set_option maxHeartbeats 1000000 in
theorem c_f_L_law_b1045 {b L : Nat} {xs : Nat → Int32} {F Z : Nat} {Q : State → Prop} {k0 n0 : Nat} {c0 : Nat} {Γ : Ga} {D : DD} {B : Nat} {r : Int32} {s' : St} (X : Cx Γ RL cL_law 19 D B room_1) (M : RLe room_1 Z k0 n0 c0 807 16594) (Y : Xy Γ B) (S : SX Γ B b L xs) (hE : ∀ {s : St} {v : Int32} {pc : Nat} {lv : List (Nat × Value)}, Hc c0 Z s → decode cL_law pc = .ok (.ireturn, 1) → some (v, s) = some (r, s') → V Γ D B true 19 Q (kg k0 c0 s) (ng n0 c0 s) s pc lv [.int v]) {K94 : St → Int32 → Int32 → Option (Int32 × St)} (hK94 : ∀ {s : St} {l8 : Int32} {l9 : Int32}, Hc c0 Z s → K94 s l8 l9 = some (r, s') → V Γ D B true 19 Q (kg k0 c0 s) (ng n0 c0 s) s 94 [(0, .ref b), (1, .ref (B + 0)), (2, .ref (B + 39)), (3, .ref (B + 40)), (4, .ref (B + 41)), (5, .ref (B + 42)), (6, .ref (B + 43)), (7, .ref (B + 44)), (8, .int l8), (9, .int l9)] []) : ∀ (n : Nat) {s : St} {l8 : Int32} {l9 : Int32} {l10 : Int32} {l11 : Int32} {l15 : Int32} {l16 : Int32}, Hc c0 Z s → f_L_law_b1045 L xs F Z K94 n s l8 l9 l10 l11 l15 l16 = some (r, s') → V Γ D B true 19 Q (kg k0 c0 s) (ng n0 c0 s) s 1045 [(0, .ref b), (1, .ref (B + 0)), (2, .ref (B + 39)), (3, .ref (B + 40)), (4, .ref (B + 41)), (5, .ref (B + 42)), (6, .ref (B + 43)), (7, .ref (B + 44)), (8, .int l8), (9, .int l9), (10, .int l10), (11, .int l11), (15, .int l15), (16, .int l16)] [] := by
  intro n
  induction n with
  | zero => intro s l8 l9 l10 l11 l15 l16 hc hf; rw [f_L_law_b1045] at hf; cases hf
  | succ n ih =>
    intro s l8 l9 l10 l11 l15 l16 hc hf
    rw [f_L_law_b1045] at hf
    refine r_iload (pc := 1045) X dL_law_1045 13 rfl ?_
    refine r_iload (pc := 1047) X dL_law_1047 12 rfl ?_
    refine b_icmp_ge (tgt := 1098) (pc := 1049) X dL_law_1049 (by decide) hf (fun hf => ?_) (fun hf => ?_)
    · refine r_forget (lv' := [(0, .ref b), (1, .ref (B + 0)), (2, .ref (B + 39)), (3, .ref (B + 40)), (4, .ref (B + 41)), (5, .ref (B + 42)), (6, .ref (B + 43)), (7, .ref (B + 44)), (8, .int l8), (9, .int l9), (10, .int l10), (11, .int l11)]) [0, 1, 2, 3, 4, 5, 6, 7, 8, 9, 10, 11] rfl ?_
      exact c_f_L_law_b1098 X M Y S hE hK94 hc hf
    · refine r_iload (pc := 1052) X dL_law_1052 8 rfl ?_
      refine b_if_eq (tgt := 1098) (pc := 1054) X dL_law_1054 (by decide) hf (fun hf => ?_) (fun hf => ?_)
      · refine r_forget (lv' := [(0, .ref b), (1, .ref (B + 0)), (2, .ref (B + 39)), (3, .ref (B + 40)), (4, .ref (B + 41)), (5, .ref (B + 42)), (6, .ref (B + 43)), (7, .ref (B + 44)), (8, .int l8), (9, .int l9), (10, .int l10), (11, .int l11)]) [0, 1, 2, 3, 4, 5, 6, 7, 8, 9, 10, 11] rfl ?_
        exact c_f_L_law_b1098 X M Y S hE hK94 hc hf
      · refine r_aload_n (x := some 0) (pc := 1057) X dL_law_1057 1 rfl ?_
        refine bnd hf (fun x26 h26 hf => ?_)
        refine y_callVi (As := []) (st := []) (pc := 1058) X M hc (c_f_P_alarms h26) rfl w_428 w_429 w_430 w_36 w_431 hdV_X10_alarms (Rc.s rfl ce_0) (by decide) (Nat.le_of_ble_eq_true rfl) dL_law_1058 rfl hf (fun s27 hc hf => ?_)
        refine r_aload_n (x := some 39) (pc := 1061) X dL_law_1061 2 rfl ?_
        refine r_iconst (v := 1) (pc := 1062) X dL_law_1062 (by decide) ?_
        refine b_iald (pc := 1063) X ce_39 dL_law_1063 hf (fun j28 hf => ?_)
        refine r_iadd (pc := 1064) X dL_law_1064 ?_
        refine r_bipush (v := 64) (pc := 1065) X dL_law_1065 (by decide) ?_
        refine b_icmp_ge (tgt := 1098) (pc := 1067) X dL_law_1067 (by decide) hf (fun hf => ?_) (fun hf => ?_)
        · refine r_forget (lv' := [(0, .ref b), (1, .ref (B + 0)), (2, .ref (B + 39)), (3, .ref (B + 40)), (4, .ref (B + 41)), (5, .ref (B + 42)), (6, .ref (B + 43)), (7, .ref (B + 44)), (8, .int l8), (9, .int l9), (10, .int l10), (11, .int l11)]) [0, 1, 2, 3, 4, 5, 6, 7, 8, 9, 10, 11] rfl ?_
          exact c_f_L_law_b1098 X M Y S hE hK94 hc hf
        · refine r_aload_n (x := some 0) (pc := 1070) X dL_law_1070 1 rfl ?_
          refine bnd hf (fun x29 h29 hf => ?_)
          refine y_callVi (As := []) (st := []) (pc := 1071) X M hc (c_f_P_now h29) rfl w_317 w_318 w_319 w_36 w_320 hdV_X10_now (Rc.s rfl ce_0) (by decide) (Nat.le_of_ble_eq_true rfl) dL_law_1071 rfl hf (fun s30 hc hf => ?_)
          refine r_sipush (v := 440) (pc := 1074) X dL_law_1074 (by decide) ?_
          refine b_icmp_ge (tgt := 1098) (pc := 1077) X dL_law_1077 (by decide) hf (fun hf => ?_) (fun hf => ?_)
          · refine r_forget (lv' := [(0, .ref b), (1, .ref (B + 0)), (2, .ref (B + 39)), (3, .ref (B + 40)), (4, .ref (B + 41)), (5, .ref (B + 42)), (6, .ref (B + 43)), (7, .ref (B + 44)), (8, .int l8), (9, .int l9), (10, .int l10), (11, .int l11)]) [0, 1, 2, 3, 4, 5, 6, 7, 8, 9, 10, 11] rfl ?_
            exact c_f_L_law_b1098 X M Y S hE hK94 hc hf
          · refine r_aload_n (x := some 0) (pc := 1080) X dL_law_1080 1 rfl ?_
            refine r_aload_n (x := some 40) (pc := 1081) X dL_law_1081 3 rfl ?_
            refine r_aload (x := some 41) (pc := 1082) X dL_law_1082 4 rfl ?_
            refine r_aload (x := some 42) (pc := 1084) X dL_law_1084 5 rfl ?_
            refine r_aload_n (x := some 39) (pc := 1086) X dL_law_1086 2 rfl ?_
            refine bnd hf (fun x31 h31 hf => ?_)
            refine ifo hf (fun hz hf => ?_)
            refine y_callXSi (As := [.ref (B + 0), .ref (B + 40), .ref (B + 41), .ref (B + 42), .ref (B + 39)]) (st := []) (pc := 1087) X M Y hc (c_f_L_isHour h31 hc.2) rfl w_1006 w_1007 w_35 w_1008 hdS_L_isHour (by decide) hz (Nat.le_of_ble_eq_true rfl) dL_law_1087 rfl (fun hc => ?_)
            refine r_istore (pc := 1090) (lv' := [(0, .ref b), (1, .ref (B + 0)), (2, .ref (B + 39)), (3, .ref (B + 40)), (4, .ref (B + 41)), (5, .ref (B + 42)), (6, .ref (B + 43)), (7, .ref (B + 44)), (8, .int x31.1), (9, .int l9), (10, .int l10), (11, .int l11), (15, .int l15), (16, .int l16)]) X dL_law_1090 (by decide) [1, 2, 3, 4, 5, 6, 7, 8, 0, 9, 10, 11, 12, 13] rfl ?_
            refine r_iinc (v := l16 + 1) (lv' := [(0, .ref b), (1, .ref (B + 0)), (2, .ref (B + 39)), (3, .ref (B + 40)), (4, .ref (B + 41)), (5, .ref (B + 42)), (6, .ref (B + 43)), (7, .ref (B + 44)), (8, .int x31.1), (9, .int l9), (10, .int l10), (11, .int l11), (15, .int l15), (16, .int (l16 + 1))]) (pc := 1092) X dL_law_1092 13 rfl rfl (by decide) [1, 2, 3, 4, 5, 6, 7, 8, 9, 10, 11, 12, 13, 0] rfl ?_
            refine r_goto (tgt := 1045) (pc := 1095) X dL_law_1095 (by decide) ?_
            exact ih hc hf
set_option maxHeartbeats 1000000 in
theorem c_f_L_law_b1021 {b L : Nat} {xs : Nat → Int32} {F Z : Nat} {Q : State → Prop} {k0 n0 : Nat} {c0 : Nat} {Γ : Ga} {D : DD} {B : Nat} {r : Int32} {s' : St} (X : Cx Γ RL cL_law 19 D B room_1) (M : RLe room_1 Z k0 n0 c0 807 16594) (Y : Xy Γ B) (S : SX Γ B b L xs) (hE : ∀ {s : St} {v : Int32} {pc : Nat} {lv : List (Nat × Value)}, Hc c0 Z s → decode cL_law pc = .ok (.ireturn, 1) → some (v, s) = some (r, s') → V Γ D B true 19 Q (kg k0 c0 s) (ng n0 c0 s) s pc lv [.int v]) {K94 : St → Int32 → Int32 → Option (Int32 × St)} (hK94 : ∀ {s : St} {l8 : Int32} {l9 : Int32}, Hc c0 Z s → K94 s l8 l9 = some (r, s') → V Γ D B true 19 Q (kg k0 c0 s) (ng n0 c0 s) s 94 [(0, .ref b), (1, .ref (B + 0)), (2, .ref (B + 39)), (3, .ref (B + 40)), (4, .ref (B + 41)), (5, .ref (B + 42)), (6, .ref (B + 43)), (7, .ref (B + 44)), (8, .int l8), (9, .int l9)] []) {s : St} {l8 : Int32} {l9 : Int32} {l10 : Int32} {l11 : Int32} (hc : Hc c0 Z s) (hf : f_L_law_b1021 L xs F Z K94 s l8 l9 l10 l11 = some (r, s')) : V Γ D B true 19 Q (kg k0 c0 s) (ng n0 c0 s) s 1021 [(0, .ref b), (1, .ref (B + 0)), (2, .ref (B + 39)), (3, .ref (B + 40)), (4, .ref (B + 41)), (5, .ref (B + 42)), (6, .ref (B + 43)), (7, .ref (B + 44)), (8, .int l8), (9, .int l9), (10, .int l10), (11, .int l11)] [] := by
  unfold f_L_law_b1021 at hf
  refine r_iconst (v := 1) (pc := 1021) X dL_law_1021 (by decide) ?_
  refine r_iload (pc := 1022) X dL_law_1022 11 rfl ?_
  refine r_iload (pc := 1024) X dL_law_1024 11 rfl ?_
  refine r_bipush (v := 7) (pc := 1026) X dL_law_1026 (by decide) ?_
  refine r_irem (pc := 1028) X dL_law_1028 (by decide) ?_
  refine b_if_ne (tgt := 1037) (pc := 1029) X dL_law_1029 (by decide) hf (fun hf => ?_) (fun hf => ?_)
  · refine r_bipush (v := 12) (pc := 1032) X dL_law_1032 (by decide) ?_
    refine r_goto (tgt := 1038) (pc := 1034) X dL_law_1034 (by decide) ?_
    refine r_irem (pc := 1038) X dL_law_1038 (by decide) ?_
    refine r_iadd (pc := 1039) X dL_law_1039 ?_
    refine r_istore (pc := 1040) (lv' := [(0, .ref b), (1, .ref (B + 0)), (2, .ref (B + 39)), (3, .ref (B + 40)), (4, .ref (B + 41)), (5, .ref (B + 42)), (6, .ref (B + 43)), (7, .ref (B + 44)), (8, .int l8), (9, .int l9), (10, .int l10), (11, .int l11), (15, .int ((1 : Int32) + (l11 - l11 / 12 * 12)))]) X dL_law_1040 (by decide) [1, 2, 3, 4, 5, 6, 7, 8, 9, 10, 11, 12, 0] rfl ?_
    refine r_iconst (v := 0) (pc := 1042) X dL_law_1042 (by decide) ?_
    refine r_istore (pc := 1043) (lv' := [(0, .ref b), (1, .ref (B + 0)), (2, .ref (B + 39)), (3, .ref (B + 40)), (4, .ref (B + 41)), (5, .ref (B + 42)), (6, .ref (B + 43)), (7, .ref (B + 44)), (8, .int l8), (9, .int l9), (10, .int l10), (11, .int l11), (15, .int ((1 : Int32) + (l11 - l11 / 12 * 12))), (16, .int 0)]) X dL_law_1043 (by decide) [1, 2, 3, 4, 5, 6, 7, 8, 9, 10, 11, 12, 13, 0] rfl ?_
    exact c_f_L_law_b1045 X M Y S hE hK94 _ hc hf
  · refine r_iconst (v := 5) (pc := 1037) X dL_law_1037 (by decide) ?_
    refine r_irem (pc := 1038) X dL_law_1038 (by decide) ?_
    refine r_iadd (pc := 1039) X dL_law_1039 ?_
    refine r_istore (pc := 1040) (lv' := [(0, .ref b), (1, .ref (B + 0)), (2, .ref (B + 39)), (3, .ref (B + 40)), (4, .ref (B + 41)), (5, .ref (B + 42)), (6, .ref (B + 43)), (7, .ref (B + 44)), (8, .int l8), (9, .int l9), (10, .int l10), (11, .int l11), (15, .int ((1 : Int32) + (l11 - l11 / 5 * 5)))]) X dL_law_1040 (by decide) [1, 2, 3, 4, 5, 6, 7, 8, 9, 10, 11, 12, 0] rfl ?_
    refine r_iconst (v := 0) (pc := 1042) X dL_law_1042 (by decide) ?_
    refine r_istore (pc := 1043) (lv' := [(0, .ref b), (1, .ref (B + 0)), (2, .ref (B + 39)), (3, .ref (B + 40)), (4, .ref (B + 41)), (5, .ref (B + 42)), (6, .ref (B + 43)), (7, .ref (B + 44)), (8, .int l8), (9, .int l9), (10, .int l10), (11, .int l11), (15, .int ((1 : Int32) + (l11 - l11 / 5 * 5))), (16, .int 0)]) X dL_law_1043 (by decide) [1, 2, 3, 4, 5, 6, 7, 8, 9, 10, 11, 12, 13, 0] rfl ?_
    exact c_f_L_law_b1045 X M Y S hE hK94 _ hc hf
set_option maxHeartbeats 1000000 in
theorem c_f_L_law_b863 {b L : Nat} {xs : Nat → Int32} {F Z : Nat} {Q : State → Prop} {k0 n0 : Nat} {c0 : Nat} {Γ : Ga} {D : DD} {B : Nat} {r : Int32} {s' : St} (X : Cx Γ RL cL_law 19 D B room_1) (M : RLe room_1 Z k0 n0 c0 807 16594) (Y : Xy Γ B) (S : SX Γ B b L xs) (hE : ∀ {s : St} {v : Int32} {pc : Nat} {lv : List (Nat × Value)}, Hc c0 Z s → decode cL_law pc = .ok (.ireturn, 1) → some (v, s) = some (r, s') → V Γ D B true 19 Q (kg k0 c0 s) (ng n0 c0 s) s pc lv [.int v]) {K94 : St → Int32 → Int32 → Option (Int32 × St)} (hK94 : ∀ {s : St} {l8 : Int32} {l9 : Int32}, Hc c0 Z s → K94 s l8 l9 = some (r, s') → V Γ D B true 19 Q (kg k0 c0 s) (ng n0 c0 s) s 94 [(0, .ref b), (1, .ref (B + 0)), (2, .ref (B + 39)), (3, .ref (B + 40)), (4, .ref (B + 41)), (5, .ref (B + 42)), (6, .ref (B + 43)), (7, .ref (B + 44)), (8, .int l8), (9, .int l9)] []) {s : St} {l8 : Int32} {l9 : Int32} {l10 : Int32} {l11 : Int32} {l12 : Int32} {l13 : Int32} {l14 : Int32} (hc : Hc c0 Z s) (hf : f_L_law_b863 L xs F Z K94 s l8 l9 l10 l11 l12 l13 l14 = some (r, s')) : V Γ D B true 19 Q (kg k0 c0 s) (ng n0 c0 s) s 863 [(0, .ref b), (1, .ref (B + 0)), (2, .ref (B + 39)), (3, .ref (B + 40)), (4, .ref (B + 41)), (5, .ref (B + 42)), (6, .ref (B + 43)), (7, .ref (B + 44)), (8, .int l8), (9, .int l9), (10, .int l10), (11, .int l11), (12, .int l12), (13, .int l13), (14, .int l14)] [] := by
  unfold f_L_law_b863 at hf
  refine r_iload (pc := 863) X dL_law_863 12 rfl ?_
  refine r_bipush (v := 20) (pc := 865) X dL_law_865 (by decide) ?_
  refine b_icmp_ge (tgt := 930) (pc := 867) X dL_law_867 (by decide) hf (fun hf => ?_) (fun hf => ?_)
  · refine r_iload (pc := 930) X dL_law_930 12 rfl ?_
    refine r_bipush (v := 22) (pc := 932) X dL_law_932 (by decide) ?_
    refine b_icmp_ge (tgt := 972) (pc := 934) X dL_law_934 (by decide) hf (fun hf => ?_) (fun hf => ?_)
    · refine r_iload (pc := 972) X dL_law_972 12 rfl ?_
      refine r_bipush (v := 25) (pc := 974) X dL_law_974 (by decide) ?_
      refine b_icmp_ge (tgt := 1021) (pc := 976) X dL_law_976 (by decide) hf (fun hf => ?_) (fun hf => ?_)
      · refine r_forget (lv' := [(0, .ref b), (1, .ref (B + 0)), (2, .ref (B + 39)), (3, .ref (B + 40)), (4, .ref (B + 41)), (5, .ref (B + 42)), (6, .ref (B + 43)), (7, .ref (B + 44)), (8, .int l8), (9, .int l9), (10, .int l10), (11, .int l11)]) [0, 1, 2, 3, 4, 5, 6, 7, 8, 9, 10, 11] rfl ?_
        exact c_f_L_law_b1021 X M Y S hE hK94 hc hf
      · refine r_aload_n (x := some 0) (pc := 979) X dL_law_979 1 rfl ?_
        refine bnd hf (fun x32 h32 hf => ?_)
        refine y_callVi (As := []) (st := []) (pc := 980) X M hc (c_f_P_alarms h32) rfl w_428 w_429 w_430 w_36 w_431 hdV_X10_alarms (Rc.s rfl ce_0) (by decide) (Nat.le_of_ble_eq_true rfl) dL_law_980 rfl hf (fun s33 hc hf => ?_)
        refine b_if_le (tgt := 1021) (pc := 983) X dL_law_983 (by decide) hf (fun hf => ?_) (fun hf => ?_)
        · refine r_forget (lv' := [(0, .ref b), (1, .ref (B + 0)), (2, .ref (B + 39)), (3, .ref (B + 40)), (4, .ref (B + 41)), (5, .ref (B + 42)), (6, .ref (B + 43)), (7, .ref (B + 44)), (8, .int l8), (9, .int l9), (10, .int l10), (11, .int l11)]) [0, 1, 2, 3, 4, 5, 6, 7, 8, 9, 10, 11] rfl ?_
          exact c_f_L_law_b1021 X M Y S hE hK94 hc hf
        · refine r_aload_n (x := some 0) (pc := 986) X dL_law_986 1 rfl ?_
          refine r_aload (x := some 42) (pc := 987) X dL_law_987 5 rfl ?_
          refine r_aload (x := some 44) (pc := 989) X dL_law_989 7 rfl ?_
          refine r_aload_n (x := some 39) (pc := 991) X dL_law_991 2 rfl ?_
          refine r_iload (pc := 992) X dL_law_992 11 rfl ?_
          refine r_iconst (v := 2) (pc := 994) X dL_law_994 (by decide) ?_
          refine r_idiv (pc := 995) X dL_law_995 (by decide) ?_
          refine r_aload_n (x := some 0) (pc := 996) X dL_law_996 1 rfl ?_
          refine bnd hf (fun x34 h34 hf => ?_)
          refine y_callVi (As := []) (st := [.int (l11 / 2), .ref (B + 39), .ref (B + 44), .ref (B + 42), .ref (B + 0)]) (pc := 997) X M hc (c_f_P_alarms h34) rfl w_428 w_429 w_430 w_36 w_431 hdV_X10_alarms (Rc.s rfl ce_0) (by decide) (Nat.le_of_ble_eq_true rfl) dL_law_997 rfl hf (fun s35 hc hf => ?_)
          refine ifz hf (fun hne hf => ?_)
          refine r_irem (pc := 1000) X dL_law_1000 hne ?_
          refine r_iload (pc := 1001) X dL_law_1001 11 rfl ?_
          refine r_iconst (v := 2) (pc := 1003) X dL_law_1003 (by decide) ?_
          refine r_irem (pc := 1004) X dL_law_1004 (by decide) ?_
          refine b_if_ne (tgt := 1012) (pc := 1005) X dL_law_1005 (by decide) hf (fun hf => ?_) (fun hf => ?_)
          · refine r_iconst (v := 1) (pc := 1008) X dL_law_1008 (by decide) ?_
            refine r_goto (tgt := 1013) (pc := 1009) X dL_law_1009 (by decide) ?_
            refine bnd hf (fun x36 h36 hf => ?_)
            refine ifo hf (fun hz hf => ?_)
            refine y_callXSi (As := [.ref (B + 0), .ref (B + 42), .ref (B + 44), .ref (B + 39), .int ((l11 / 2) - (l11 / 2) / x34.1 * x34.1), .int 1]) (st := []) (pc := 1013) X M Y hc (c_f_L_isAnswered h36 hc.2) rfl w_1016 w_1017 w_35 w_1018 hdS_L_isAnswered (by decide) hz (Nat.le_of_ble_eq_true rfl) dL_law_1013 rfl (fun hc => ?_)
            refine r_istore (pc := 1016) (lv' := [(0, .ref b), (1, .ref (B + 0)), (2, .ref (B + 39)), (3, .ref (B + 40)), (4, .ref (B + 41)), (5, .ref (B + 42)), (6, .ref (B + 43)), (7, .ref (B + 44)), (8, .int x36.1), (9, .int l9), (10, .int l10), (11, .int l11)]) X dL_law_1016 (by decide) [1, 2, 3, 4, 5, 6, 7, 8, 0, 9, 10, 11] rfl ?_
            refine r_goto (tgt := 1098) (pc := 1018) X dL_law_1018 (by decide) ?_
            exact c_f_L_law_b1098 X M Y S hE hK94 hc hf
          · refine r_iconst (v := 0) (pc := 1012) X dL_law_1012 (by decide) ?_
            refine bnd hf (fun x37 h37 hf => ?_)
            refine ifo hf (fun hz hf => ?_)
            refine y_callXSi (As := [.ref (B + 0), .ref (B + 42), .ref (B + 44), .ref (B + 39), .int ((l11 / 2) - (l11 / 2) / x34.1 * x34.1), .int 0]) (st := []) (pc := 1013) X M Y hc (c_f_L_isAnswered h37 hc.2) rfl w_1016 w_1017 w_35 w_1018 hdS_L_isAnswered (by decide) hz (Nat.le_of_ble_eq_true rfl) dL_law_1013 rfl (fun hc => ?_)
            refine r_istore (pc := 1016) (lv' := [(0, .ref b), (1, .ref (B + 0)), (2, .ref (B + 39)), (3, .ref (B + 40)), (4, .ref (B + 41)), (5, .ref (B + 42)), (6, .ref (B + 43)), (7, .ref (B + 44)), (8, .int x37.1), (9, .int l9), (10, .int l10), (11, .int l11)]) X dL_law_1016 (by decide) [1, 2, 3, 4, 5, 6, 7, 8, 0, 9, 10, 11] rfl ?_
            refine r_goto (tgt := 1098) (pc := 1018) X dL_law_1018 (by decide) ?_
            exact c_f_L_law_b1098 X M Y S hE hK94 hc hf
    · refine r_aload_n (x := some 0) (pc := 937) X dL_law_937 1 rfl ?_
      refine r_aload (x := some 41) (pc := 938) X dL_law_938 4 rfl ?_
      refine r_aload_n (x := some 39) (pc := 940) X dL_law_940 2 rfl ?_
      refine r_iload (pc := 941) X dL_law_941 13 rfl ?_
      refine r_iconst (v := 1) (pc := 943) X dL_law_943 (by decide) ?_
      refine r_iadd (pc := 944) X dL_law_944 ?_
      refine r_iload (pc := 945) X dL_law_945 11 rfl ?_
      refine r_bipush (v := 6) (pc := 947) X dL_law_947 (by decide) ?_
      refine r_irem (pc := 949) X dL_law_949 (by decide) ?_
      refine r_iadd (pc := 950) X dL_law_950 ?_
      refine r_iload (pc := 951) X dL_law_951 13 rfl ?_
      refine r_iconst (v := 1) (pc := 953) X dL_law_953 (by decide) ?_
      refine r_iadd (pc := 954) X dL_law_954 ?_
      refine r_iload (pc := 955) X dL_law_955 11 rfl ?_
      refine r_bipush (v := 6) (pc := 957) X dL_law_957 (by decide) ?_
      refine r_idiv (pc := 959) X dL_law_959 (by decide) ?_
      refine r_bipush (v := 6) (pc := 960) X dL_law_960 (by decide) ?_
      refine r_irem (pc := 962) X dL_law_962 (by decide) ?_
      refine r_iadd (pc := 963) X dL_law_963 ?_
      refine bnd hf (fun x38 h38 hf => ?_)
      refine ifo hf (fun hz hf => ?_)
      refine y_callXSi (As := [.ref (B + 0), .ref (B + 41), .ref (B + 39), .int ((l13 + 1) + (l11 - l11 / 6 * 6)), .int ((l13 + 1) + ((l11 / 6) - (l11 / 6) / 6 * 6))]) (st := []) (pc := 964) X M Y hc (c_f_L_isSwapped h38 hc.2) rfl w_989 w_990 w_35 w_991 hdS_L_isSwapped (by decide) hz (Nat.le_of_ble_eq_true rfl) dL_law_964 rfl (fun hc => ?_)
      refine r_istore (pc := 967) (lv' := [(0, .ref b), (1, .ref (B + 0)), (2, .ref (B + 39)), (3, .ref (B + 40)), (4, .ref (B + 41)), (5, .ref (B + 42)), (6, .ref (B + 43)), (7, .ref (B + 44)), (8, .int x38.1), (9, .int l9), (10, .int l10), (11, .int l11)]) X dL_law_967 (by decide) [1, 2, 3, 4, 5, 6, 7, 8, 0, 9, 10, 11] rfl ?_
      refine r_goto (tgt := 1098) (pc := 969) X dL_law_969 (by decide) ?_
      exact c_f_L_law_b1098 X M Y S hE hK94 hc hf
  · refine r_iload (pc := 870) X dL_law_870 13 rfl ?_
    refine r_iconst (v := 1) (pc := 872) X dL_law_872 (by decide) ?_
    refine r_iadd (pc := 873) X dL_law_873 ?_
    refine r_iload (pc := 874) X dL_law_874 11 rfl ?_
    refine r_iconst (v := 5) (pc := 876) X dL_law_876 (by decide) ?_
    refine r_idiv (pc := 877) X dL_law_877 (by decide) ?_
    refine r_bipush (v := 6) (pc := 878) X dL_law_878 (by decide) ?_
    refine r_irem (pc := 880) X dL_law_880 (by decide) ?_
    refine r_iadd (pc := 881) X dL_law_881 ?_
    refine r_istore (pc := 882) (lv' := [(0, .ref b), (1, .ref (B + 0)), (2, .ref (B + 39)), (3, .ref (B + 40)), (4, .ref (B + 41)), (5, .ref (B + 42)), (6, .ref (B + 43)), (7, .ref (B + 44)), (9, .int l9), (10, .int l10), (11, .int l11), (14, .int l14), (15, .int ((l13 + 1) + ((l11 / 5) - (l11 / 5) / 6 * 6)))]) X dL_law_882 (by decide) [1, 2, 3, 4, 5, 6, 7, 8, 10, 11, 12, 15, 0] rfl ?_
    refine r_aload (x := some 41) (pc := 884) X dL_law_884 4 rfl ?_
    refine r_iload (pc := 886) X dL_law_886 12 rfl ?_
    refine r_dup2 (pc := 888) X dL_law_888 rfl rfl ?_
    refine b_iald (pc := 889) X ce_41 dL_law_889 hf (fun j39 hf => ?_)
    refine r_iconst (v := 1) (pc := 890) X dL_law_890 (by decide) ?_
    refine r_iload (pc := 891) X dL_law_891 11 rfl ?_
    refine r_ishl (pc := 893) X dL_law_893 ?_
    refine r_ixor (pc := 894) X dL_law_894 ?_
    refine y_iast (pc := 895) X ce_41 (fun _ => ca_41 _ _) dL_law_895 hf (fun j40 s41 e9 hf => ?_)
    have hc := hc.eq e9
    refine r_aload_n (x := some 0) (pc := 896) X dL_law_896 1 rfl ?_
    refine r_iconst (v := 4) (pc := 897) X dL_law_897 (by decide) ?_
    refine r_iload (pc := 898) X dL_law_898 11 rfl ?_
    refine r_iload (pc := 900) X dL_law_900 12 rfl ?_
    refine r_iconst (v := 0) (pc := 902) X dL_law_902 (by decide) ?_
    refine r_iconst (v := 0) (pc := 903) X dL_law_903 (by decide) ?_
    refine bnd hf (fun x42 h42 hf => ?_)
    refine ifo hf (fun hz hf => ?_)
    refine y_callWSi (As := [.ref (B + 0), .int 4, .int l14, .int ((l13 + 1) + ((l11 / 5) - (l11 / 5) / 6 * 6)), .int 0, .int 0]) (st := []) (pc := 904) X M Y hc (c_f_L_act h42 hc.2) rfl w_437 w_438 w_35 w_439 hdS_L_act (by decide) hz (Nat.le_of_ble_eq_true rfl) dL_law_904 rfl (fun hc => ?_)
    refine r_aload (x := some 41) (pc := 907) X dL_law_907 4 rfl ?_
    refine r_iload (pc := 909) X dL_law_909 12 rfl ?_
    refine b_iald (pc := 911) X ce_41 dL_law_911 hf (fun j43 hf => ?_)
    refine r_iload (pc := 912) X dL_law_912 11 rfl ?_
    refine r_ishr (pc := 914) X dL_law_914 ?_
    refine r_iconst (v := 1) (pc := 915) X dL_law_915 (by decide) ?_
    refine r_iand (pc := 916) X dL_law_916 ?_
    refine b_icmp_ne (tgt := 924) (pc := 917) X dL_law_917 (by decide) hf (fun hf => ?_) (fun hf => ?_)
    · refine r_iconst (v := 1) (pc := 920) X dL_law_920 (by decide) ?_
      refine r_goto (tgt := 925) (pc := 921) X dL_law_921 (by decide) ?_
      refine r_istore (pc := 925) (lv' := [(0, .ref b), (1, .ref (B + 0)), (2, .ref (B + 39)), (3, .ref (B + 40)), (4, .ref (B + 41)), (5, .ref (B + 42)), (6, .ref (B + 43)), (7, .ref (B + 44)), (8, .int 1), (9, .int l9), (10, .int l10), (11, .int l11)]) X dL_law_925 (by decide) [1, 2, 3, 4, 5, 6, 7, 8, 0, 9, 10, 11] rfl ?_
      refine r_goto (tgt := 1098) (pc := 927) X dL_law_927 (by decide) ?_
      exact c_f_L_law_b1098 X M Y S hE hK94 hc hf
    · refine r_iconst (v := 0) (pc := 924) X dL_law_924 (by decide) ?_
      refine r_istore (pc := 925) (lv' := [(0, .ref b), (1, .ref (B + 0)), (2, .ref (B + 39)), (3, .ref (B + 40)), (4, .ref (B + 41)), (5, .ref (B + 42)), (6, .ref (B + 43)), (7, .ref (B + 44)), (8, .int 0), (9, .int l9), (10, .int l10), (11, .int l11)]) X dL_law_925 (by decide) [1, 2, 3, 4, 5, 6, 7, 8, 0, 9, 10, 11] rfl ?_
      refine r_goto (tgt := 1098) (pc := 927) X dL_law_927 (by decide) ?_
      exact c_f_L_law_b1098 X M Y S hE hK94 hc hf
set_option maxHeartbeats 1000000 in
theorem c_f_L_law_b815 {b L : Nat} {xs : Nat → Int32} {F Z : Nat} {Q : State → Prop} {k0 n0 : Nat} {c0 : Nat} {Γ : Ga} {D : DD} {B : Nat} {r : Int32} {s' : St} (X : Cx Γ RL cL_law 19 D B room_1) (M : RLe room_1 Z k0 n0 c0 807 16594) (Y : Xy Γ B) (S : SX Γ B b L xs) (hE : ∀ {s : St} {v : Int32} {pc : Nat} {lv : List (Nat × Value)}, Hc c0 Z s → decode cL_law pc = .ok (.ireturn, 1) → some (v, s) = some (r, s') → V Γ D B true 19 Q (kg k0 c0 s) (ng n0 c0 s) s pc lv [.int v]) {K94 : St → Int32 → Int32 → Option (Int32 × St)} (hK94 : ∀ {s : St} {l8 : Int32} {l9 : Int32}, Hc c0 Z s → K94 s l8 l9 = some (r, s') → V Γ D B true 19 Q (kg k0 c0 s) (ng n0 c0 s) s 94 [(0, .ref b), (1, .ref (B + 0)), (2, .ref (B + 39)), (3, .ref (B + 40)), (4, .ref (B + 41)), (5, .ref (B + 42)), (6, .ref (B + 43)), (7, .ref (B + 44)), (8, .int l8), (9, .int l9)] []) {s : St} {l9 : Int32} {l10 : Int32} {l11 : Int32} {l15 : Int32} {l16 : Int32} {l17 : Int32} {l18 : Int32} (hc : Hc c0 Z s) (hf : f_L_law_b815 L xs F Z K94 s l9 l10 l11 l15 l16 l17 l18 = some (r, s')) : V Γ D B true 19 Q (kg k0 c0 s) (ng n0 c0 s) s 815 [(0, .ref b), (1, .ref (B + 0)), (2, .ref (B + 39)), (3, .ref (B + 40)), (4, .ref (B + 41)), (5, .ref (B + 42)), (6, .ref (B + 43)), (7, .ref (B + 44)), (9, .int l9), (10, .int l10), (11, .int l11), (15, .int l15), (16, .int l16), (17, .int l17), (18, .int l18)] [] := by
  unfold f_L_law_b815 at hf
  refine r_aload_n (x := some 0) (pc := 815) X dL_law_815 1 rfl ?_
  refine r_bipush (v := 7) (pc := 816) X dL_law_816 (by decide) ?_
  refine r_iload (pc := 818) X dL_law_818 10 rfl ?_
  refine r_aload_n (x := some 39) (pc := 820) X dL_law_820 2 rfl ?_
  refine r_iconst (v := 1) (pc := 821) X dL_law_821 (by decide) ?_
  refine b_iald (pc := 822) X ce_39 dL_law_822 hf (fun j49 hf => ?_)
  refine ifz hf (fun hne hf => ?_)
  refine r_irem (pc := 823) X dL_law_823 hne ?_
  refine r_iload (pc := 824) X dL_law_824 12 rfl ?_
  refine r_iload (pc := 826) X dL_law_826 13 rfl ?_
  refine r_iconst (v := 0) (pc := 828) X dL_law_828 (by decide) ?_
  refine bnd hf (fun x50 h50 hf => ?_)
  refine ifo hf (fun hz hf => ?_)
  refine y_callWSi (As := [.ref (B + 0), .int 7, .int (l11 - l11 / (gA s 39 j49) * (gA s 39 j49)), .int l16, .int l17, .int 0]) (st := []) (pc := 829) X M Y hc (c_f_L_act h50 hc.2) rfl w_437 w_438 w_35 w_439 hdS_L_act (by decide) hz (Nat.le_of_ble_eq_true rfl) dL_law_829 rfl (fun hc => ?_)
  refine r_iload (pc := 832) X dL_law_832 14 rfl ?_
  refine b_if_eq (tgt := 847) (pc := 834) X dL_law_834 (by decide) hf (fun hf => ?_) (fun hf => ?_)
  · refine r_sipush (v := -1243) (pc := 847) X dL_law_847 (by decide) ?_
    refine b_icmp_ne (tgt := 857) (pc := 850) X dL_law_850 (by decide) hf (fun hf => ?_) (fun hf => ?_)
    · refine r_iconst (v := 1) (pc := 853) X dL_law_853 (by decide) ?_
      refine r_goto (tgt := 858) (pc := 854) X dL_law_854 (by decide) ?_
      refine r_istore (pc := 858) (lv' := [(0, .ref b), (1, .ref (B + 0)), (2, .ref (B + 39)), (3, .ref (B + 40)), (4, .ref (B + 41)), (5, .ref (B + 42)), (6, .ref (B + 43)), (7, .ref (B + 44)), (8, .int 1), (9, .int l9), (10, .int l10), (11, .int l11)]) X dL_law_858 (by decide) [1, 2, 3, 4, 5, 6, 7, 8, 0, 9, 10, 11] rfl ?_
      refine r_goto (tgt := 1098) (pc := 860) X dL_law_860 (by decide) ?_
      exact c_f_L_law_b1098 X M Y S hE hK94 hc hf
    · refine r_iconst (v := 0) (pc := 857) X dL_law_857 (by decide) ?_
      refine r_istore (pc := 858) (lv' := [(0, .ref b), (1, .ref (B + 0)), (2, .ref (B + 39)), (3, .ref (B + 40)), (4, .ref (B + 41)), (5, .ref (B + 42)), (6, .ref (B + 43)), (7, .ref (B + 44)), (8, .int 0), (9, .int l9), (10, .int l10), (11, .int l11)]) X dL_law_858 (by decide) [1, 2, 3, 4, 5, 6, 7, 8, 0, 9, 10, 11] rfl ?_
      refine r_goto (tgt := 1098) (pc := 860) X dL_law_860 (by decide) ?_
      exact c_f_L_law_b1098 X M Y S hE hK94 hc hf
  · refine r_aload (x := some 42) (pc := 837) X dL_law_837 5 rfl ?_
    refine r_iload (pc := 839) X dL_law_839 11 rfl ?_
    refine r_iconst (v := 4) (pc := 841) X dL_law_841 (by decide) ?_
    refine r_iadd (pc := 842) X dL_law_842 ?_
    refine b_iald (pc := 843) X ce_42 dL_law_843 hf (fun j51 hf => ?_)
    refine r_goto (tgt := 850) (pc := 844) X dL_law_844 (by decide) ?_
    refine b_icmp_ne (tgt := 857) (pc := 850) X dL_law_850 (by decide) hf (fun hf => ?_) (fun hf => ?_)
    · refine r_iconst (v := 1) (pc := 853) X dL_law_853 (by decide) ?_
      refine r_goto (tgt := 858) (pc := 854) X dL_law_854 (by decide) ?_
      refine r_istore (pc := 858) (lv' := [(0, .ref b), (1, .ref (B + 0)), (2, .ref (B + 39)), (3, .ref (B + 40)), (4, .ref (B + 41)), (5, .ref (B + 42)), (6, .ref (B + 43)), (7, .ref (B + 44)), (8, .int 1), (9, .int l9), (10, .int l10), (11, .int l11)]) X dL_law_858 (by decide) [1, 2, 3, 4, 5, 6, 7, 8, 0, 9, 10, 11] rfl ?_
      refine r_goto (tgt := 1098) (pc := 860) X dL_law_860 (by decide) ?_
      exact c_f_L_law_b1098 X M Y S hE hK94 hc hf
    · refine r_iconst (v := 0) (pc := 857) X dL_law_857 (by decide) ?_
      refine r_istore (pc := 858) (lv' := [(0, .ref b), (1, .ref (B + 0)), (2, .ref (B + 39)), (3, .ref (B + 40)), (4, .ref (B + 41)), (5, .ref (B + 42)), (6, .ref (B + 43)), (7, .ref (B + 44)), (8, .int 0), (9, .int l9), (10, .int l10), (11, .int l11)]) X dL_law_858 (by decide) [1, 2, 3, 4, 5, 6, 7, 8, 0, 9, 10, 11] rfl ?_
      refine r_goto (tgt := 1098) (pc := 860) X dL_law_860 (by decide) ?_
      exact c_f_L_law_b1098 X M Y S hE hK94 hc hf
set_option maxHeartbeats 1000000 in
theorem c_f_L_law_b774 {b L : Nat} {xs : Nat → Int32} {F Z : Nat} {Q : State → Prop} {k0 n0 : Nat} {c0 : Nat} {Γ : Ga} {D : DD} {B : Nat} {r : Int32} {s' : St} (X : Cx Γ RL cL_law 19 D B room_1) (M : RLe room_1 Z k0 n0 c0 807 16594) (Y : Xy Γ B) (S : SX Γ B b L xs) (hE : ∀ {s : St} {v : Int32} {pc : Nat} {lv : List (Nat × Value)}, Hc c0 Z s → decode cL_law pc = .ok (.ireturn, 1) → some (v, s) = some (r, s') → V Γ D B true 19 Q (kg k0 c0 s) (ng n0 c0 s) s pc lv [.int v]) {K94 : St → Int32 → Int32 → Option (Int32 × St)} (hK94 : ∀ {s : St} {l8 : Int32} {l9 : Int32}, Hc c0 Z s → K94 s l8 l9 = some (r, s') → V Γ D B true 19 Q (kg k0 c0 s) (ng n0 c0 s) s 94 [(0, .ref b), (1, .ref (B + 0)), (2, .ref (B + 39)), (3, .ref (B + 40)), (4, .ref (B + 41)), (5, .ref (B + 42)), (6, .ref (B + 43)), (7, .ref (B + 44)), (8, .int l8), (9, .int l9)] []) {s : St} {l9 : Int32} {l10 : Int32} {l11 : Int32} {l15 : Int32} {l16 : Int32} {l17 : Int32} {t0 : Int32} (hc : Hc c0 Z s) (hf : f_L_law_b774 L xs F Z K94 s l9 l10 l11 l15 l16 l17 t0 = some (r, s')) : V Γ D B true 19 Q (kg k0 c0 s) (ng n0 c0 s) s 774 [(0, .ref b), (1, .ref (B + 0)), (2, .ref (B + 39)), (3, .ref (B + 40)), (4, .ref (B + 41)), (5, .ref (B + 42)), (6, .ref (B + 43)), (7, .ref (B + 44)), (9, .int l9), (10, .int l10), (11, .int l11), (15, .int l15), (16, .int l16), (17, .int l17)] [.int t0] := by
  unfold f_L_law_b774 at hf
  refine r_istore (pc := 774) (lv' := [(0, .ref b), (1, .ref (B + 0)), (2, .ref (B + 39)), (3, .ref (B + 40)), (4, .ref (B + 41)), (5, .ref (B + 42)), (6, .ref (B + 43)), (7, .ref (B + 44)), (9, .int l9), (10, .int l10), (11, .int l11), (15, .int l15), (16, .int l16), (17, .int l17), (18, .int t0)]) X dL_law_774 (by decide) [1, 2, 3, 4, 5, 6, 7, 8, 9, 10, 11, 12, 13, 14, 0] rfl ?_
  refine r_iload (pc := 776) X dL_law_776 14 rfl ?_
  refine b_if_eq (tgt := 815) (pc := 778) X dL_law_778 (by decide) hf (fun hf => ?_) (fun hf => ?_)
  · exact c_f_L_law_b815 X M Y S hE hK94 hc hf
  · refine r_aload (x := some 42) (pc := 781) X dL_law_781 5 rfl ?_
    refine r_iload (pc := 783) X dL_law_783 11 rfl ?_
    refine r_iconst (v := 5) (pc := 785) X dL_law_785 (by decide) ?_
    refine r_iadd (pc := 786) X dL_law_786 ?_
    refine r_aload (x := some 42) (pc := 787) X dL_law_787 5 rfl ?_
    refine r_iload (pc := 789) X dL_law_789 11 rfl ?_
    refine r_iconst (v := 4) (pc := 791) X dL_law_791 (by decide) ?_
    refine r_iadd (pc := 792) X dL_law_792 ?_
    refine b_iald (pc := 793) X ce_42 dL_law_793 hf (fun j52 hf => ?_)
    refine r_iadd (pc := 794) X dL_law_794 ?_
    refine r_iload (pc := 795) X dL_law_795 12 rfl ?_
    refine r_iload (pc := 797) X dL_law_797 13 rfl ?_
    refine r_bipush (v := 10) (pc := 799) X dL_law_799 (by decide) ?_
    refine r_ishl (pc := 801) X dL_law_801 ?_
    refine r_ior (pc := 802) X dL_law_802 ?_
    refine y_iast (pc := 803) X ce_42 (fun _ => ca_42 _ _) dL_law_803 hf (fun j53 s54 e9 hf => ?_)
    have hc := hc.eq e9
    refine r_aload (x := some 42) (pc := 804) X dL_law_804 5 rfl ?_
    refine r_iload (pc := 806) X dL_law_806 11 rfl ?_
    refine r_iconst (v := 4) (pc := 808) X dL_law_808 (by decide) ?_
    refine r_iadd (pc := 809) X dL_law_809 ?_
    refine r_dup2 (pc := 810) X dL_law_810 rfl rfl ?_
    refine b_iald (pc := 811) X ce_42 dL_law_811 hf (fun j55 hf => ?_)
    refine r_iconst (v := 1) (pc := 812) X dL_law_812 (by decide) ?_
    refine r_iadd (pc := 813) X dL_law_813 ?_
    refine y_iast (pc := 814) X ce_42 (fun _ => ca_42 _ _) dL_law_814 hf (fun j56 s57 e9 hf => ?_)
    have hc := hc.eq e9
    exact c_f_L_law_b815 X M Y S hE hK94 hc hf
set_option maxHeartbeats 1000000 in
theorem c_f_L_law_b705 {b L : Nat} {xs : Nat → Int32} {F Z : Nat} {Q : State → Prop} {k0 n0 : Nat} {c0 : Nat} {Γ : Ga} {D : DD} {B : Nat} {r : Int32} {s' : St} (X : Cx Γ RL cL_law 19 D B room_1) (M : RLe room_1 Z k0 n0 c0 807 16594) (Y : Xy Γ B) (S : SX Γ B b L xs) (hE : ∀ {s : St} {v : Int32} {pc : Nat} {lv : List (Nat × Value)}, Hc c0 Z s → decode cL_law pc = .ok (.ireturn, 1) → some (v, s) = some (r, s') → V Γ D B true 19 Q (kg k0 c0 s) (ng n0 c0 s) s pc lv [.int v]) {K94 : St → Int32 → Int32 → Option (Int32 × St)} (hK94 : ∀ {s : St} {l8 : Int32} {l9 : Int32}, Hc c0 Z s → K94 s l8 l9 = some (r, s') → V Γ D B true 19 Q (kg k0 c0 s) (ng n0 c0 s) s 94 [(0, .ref b), (1, .ref (B + 0)), (2, .ref (B + 39)), (3, .ref (B + 40)), (4, .ref (B + 41)), (5, .ref (B + 42)), (6, .ref (B + 43)), (7, .ref (B + 44)), (8, .int l8), (9, .int l9)] []) {s : St} {l8 : Int32} {l9 : Int32} {l10 : Int32} {l11 : Int32} {l12 : Int32} {l13 : Int32} {l14 : Int32} (hc : Hc c0 Z s) (hf : f_L_law_b705 L xs F Z K94 s l8 l9 l10 l11 l12 l13 l14 = some (r, s')) : V Γ D B true 19 Q (kg k0 c0 s) (ng n0 c0 s) s 705 [(0, .ref b), (1, .ref (B + 0)), (2, .ref (B + 39)), (3, .ref (B + 40)), (4, .ref (B + 41)), (5, .ref (B + 42)), (6, .ref (B + 43)), (7, .ref (B + 44)), (8, .int l8), (9, .int l9), (10, .int l10), (11, .int l11), (12, .int l12), (13, .int l13), (14, .int l14)] [] := by
  unfold f_L_law_b705 at hf
  refine r_iload (pc := 705) X dL_law_705 12 rfl ?_
  refine r_bipush (v := 16) (pc := 707) X dL_law_707 (by decide) ?_
  refine b_icmp_ne (tgt := 863) (pc := 709) X dL_law_709 (by decide) hf (fun hf => ?_) (fun hf => ?_)
  · refine r_aload_n (x := some 39) (pc := 712) X dL_law_712 2 rfl ?_
    refine r_iconst (v := 1) (pc := 713) X dL_law_713 (by decide) ?_
    refine b_iald (pc := 714) X ce_39 dL_law_714 hf (fun j25 hf => ?_)
    refine b_if_le (tgt := 863) (pc := 715) X dL_law_715 (by decide) hf (fun hf => ?_) (fun hf => ?_)
    · exact c_f_L_law_b863 X M Y S hE hK94 hc hf
    · refine r_bipush (v := 12) (pc := 718) X dL_law_718 (by decide) ?_
      refine r_iload (pc := 720) X dL_law_720 11 rfl ?_
      refine r_aload_n (x := some 39) (pc := 722) X dL_law_722 2 rfl ?_
      refine r_iconst (v := 1) (pc := 723) X dL_law_723 (by decide) ?_
      refine b_iald (pc := 724) X ce_39 dL_law_724 hf (fun j44 hf => ?_)
      refine ifz hf (fun hne hf => ?_)
      refine r_irem (pc := 725) X dL_law_725 hne ?_
      refine r_imul (pc := 726) X dL_law_726 ?_
      refine r_istore (pc := 727) (lv' := [(0, .ref b), (1, .ref (B + 0)), (2, .ref (B + 39)), (3, .ref (B + 40)), (4, .ref (B + 41)), (5, .ref (B + 42)), (6, .ref (B + 43)), (7, .ref (B + 44)), (9, .int l9), (10, .int l10), (11, .int l11), (15, .int ((12 : Int32) * (l11 - l11 / (gA s 39 j44) * (gA s 39 j44))))]) X dL_law_727 (by decide) [1, 2, 3, 4, 5, 6, 7, 8, 10, 11, 12, 0] rfl ?_
      refine r_aload_n (x := some 0) (pc := 729) X dL_law_729 1 rfl ?_
      refine bnd hf (fun x45 h45 hf => ?_)
      refine y_callVi (As := []) (st := []) (pc := 730) X M hc (c_f_P_now h45) rfl w_317 w_318 w_319 w_36 w_320 hdV_X10_now (Rc.s rfl ce_0) (by decide) (Nat.le_of_ble_eq_true rfl) dL_law_730 rfl hf (fun s46 hc hf => ?_)
      refine r_iconst (v := 1) (pc := 733) X dL_law_733 (by decide) ?_
      refine r_iadd (pc := 734) X dL_law_734 ?_
      refine r_iload (pc := 735) X dL_law_735 10 rfl ?_
      refine r_iconst (v := 4) (pc := 737) X dL_law_737 (by decide) ?_
      refine r_idiv (pc := 738) X dL_law_738 (by decide) ?_
      refine r_bipush (v := 12) (pc := 739) X dL_law_739 (by decide) ?_
      refine r_irem (pc := 741) X dL_law_741 (by decide) ?_
      refine r_iadd (pc := 742) X dL_law_742 ?_
      refine r_istore (pc := 743) (lv' := [(0, .ref b), (1, .ref (B + 0)), (2, .ref (B + 39)), (3, .ref (B + 40)), (4, .ref (B + 41)), (5, .ref (B + 42)), (6, .ref (B + 43)), (7, .ref (B + 44)), (9, .int l9), (10, .int l10), (11, .int l11), (15, .int ((12 : Int32) * (l11 - l11 / (gA s 39 j44) * (gA s 39 j44)))), (16, .int ((x45.1 + 1) + ((l11 / 4) - (l11 / 4) / 12 * 12)))]) X dL_law_743 (by decide) [1, 2, 3, 4, 5, 6, 7, 8, 9, 10, 11, 12, 0] rfl ?_
      refine r_iload (pc := 745) X dL_law_745 12 rfl ?_
      refine r_iload (pc := 747) X dL_law_747 10 rfl ?_
      refine r_bipush (v := 48) (pc := 749) X dL_law_749 (by decide) ?_
      refine r_idiv (pc := 751) X dL_law_751 (by decide) ?_
      refine r_bipush (v := 9) (pc := 752) X dL_law_752 (by decide) ?_
      refine r_irem (pc := 754) X dL_law_754 (by decide) ?_
      refine r_iadd (pc := 755) X dL_law_755 ?_
      refine topi hf (fun x47 hf => ?_)
      refine r_istore (pc := 756) (lv' := [(0, .ref b), (1, .ref (B + 0)), (2, .ref (B + 39)), (3, .ref (B + 40)), (4, .ref (B + 41)), (5, .ref (B + 42)), (6, .ref (B + 43)), (7, .ref (B + 44)), (9, .int l9), (10, .int l10), (11, .int l11), (15, .int ((12 : Int32) * (l11 - l11 / (gA s 39 j44) * (gA s 39 j44)))), (16, .int ((x45.1 + 1) + ((l11 / 4) - (l11 / 4) / 12 * 12))), (17, .int x47)]) X dL_law_756 (by decide) [1, 2, 3, 4, 5, 6, 7, 8, 9, 10, 11, 12, 13, 0] rfl ?_
      refine r_aload (x := some 42) (pc := 758) X dL_law_758 5 rfl ?_
      refine r_iload (pc := 760) X dL_law_760 11 rfl ?_
      refine r_iconst (v := 4) (pc := 762) X dL_law_762 (by decide) ?_
      refine r_iadd (pc := 763) X dL_law_763 ?_
      refine b_iald (pc := 764) X ce_42 dL_law_764 hf (fun j48 hf => ?_)
      refine r_iconst (v := 5) (pc := 765) X dL_law_765 (by decide) ?_
      refine b_icmp_ge (tgt := 773) (pc := 766) X dL_law_766 (by decide) hf (fun hf => ?_) (fun hf => ?_)
      · refine r_iconst (v := 0) (pc := 773) X dL_law_773 (by decide) ?_
        exact c_f_L_law_b774 X M Y S hE hK94 hc hf
      · refine r_iconst (v := 1) (pc := 769) X dL_law_769 (by decide) ?_
        refine r_goto (tgt := 774) (pc := 770) X dL_law_770 (by decide) ?_
        exact c_f_L_law_b774 X M Y S hE hK94 hc hf
  · exact c_f_L_law_b863 X M Y S hE hK94 hc hf
set_option maxHeartbeats 1000000 in
theorem c_f_L_law_b673 {b L : Nat} {xs : Nat → Int32} {F Z : Nat} {Q : State → Prop} {k0 n0 : Nat} {c0 : Nat} {Γ : Ga} {D : DD} {B : Nat} {r : Int32} {s' : St} (X : Cx Γ RL cL_law 19 D B room_1) (M : RLe room_1 Z k0 n0 c0 807 16594) (Y : Xy Γ B) (S : SX Γ B b L xs) (hE : ∀ {s : St} {v : Int32} {pc : Nat} {lv : List (Nat × Value)}, Hc c0 Z s → decode cL_law pc = .ok (.ireturn, 1) → some (v, s) = some (r, s') → V Γ D B true 19 Q (kg k0 c0 s) (ng n0 c0 s) s pc lv [.int v]) {K94 : St → Int32 → Int32 → Option (Int32 × St)} (hK94 : ∀ {s : St} {l8 : Int32} {l9 : Int32}, Hc c0 Z s → K94 s l8 l9 = some (r, s') → V Γ D B true 19 Q (kg k0 c0 s) (ng n0 c0 s) s 94 [(0, .ref b), (1, .ref (B + 0)), (2, .ref (B + 39)), (3, .ref (B + 40)), (4, .ref (B + 41)), (5, .ref (B + 42)), (6, .ref (B + 43)), (7, .ref (B + 44)), (8, .int l8), (9, .int l9)] []) {s : St} {l9 : Int32} {l10 : Int32} {l11 : Int32} {l15 : Int32} {l16 : Int32} {t0 : Int32} (hc : Hc c0 Z s) (hf : f_L_law_b673 L xs F Z K94 s l9 l10 l11 l15 l16 t0 = some (r, s')) : V Γ D B true 19 Q (kg k0 c0 s) (ng n0 c0 s) s 673 [(0, .ref b), (1, .ref (B + 0)), (2, .ref (B + 39)), (3, .ref (B + 40)), (4, .ref (B + 41)), (5, .ref (B + 42)), (6, .ref (B + 43)), (7, .ref (B + 44)), (9, .int l9), (10, .int l10), (11, .int l11), (15, .int l15), (16, .int l16)] [.int t0] := by
  unfold f_L_law_b673 at hf
  refine r_istore (pc := 673) (lv' := [(0, .ref b), (1, .ref (B + 0)), (2, .ref (B + 39)), (3, .ref (B + 40)), (4, .ref (B + 41)), (5, .ref (B + 42)), (6, .ref (B + 43)), (7, .ref (B + 44)), (8, .int t0), (9, .int l9), (10, .int l10), (11, .int l11), (15, .int l15), (16, .int l16)]) X dL_law_673 (by decide) [1, 2, 3, 4, 5, 6, 7, 8, 0, 9, 10, 11, 12, 13] rfl ?_
  refine r_aload (x := some 42) (pc := 675) X dL_law_675 5 rfl ?_
  refine r_iload (pc := 677) X dL_law_677 12 rfl ?_
  refine r_iconst (v := 3) (pc := 679) X dL_law_679 (by decide) ?_
  refine r_iadd (pc := 680) X dL_law_680 ?_
  refine r_iload (pc := 681) X dL_law_681 11 rfl ?_
  refine r_iconst (v := 3) (pc := 683) X dL_law_683 (by decide) ?_
  refine r_irem (pc := 684) X dL_law_684 (by decide) ?_
  refine b_if_eq (tgt := 696) (pc := 685) X dL_law_685 (by decide) hf (fun hf => ?_) (fun hf => ?_)
  · refine r_iconst (v := 1) (pc := 696) X dL_law_696 (by decide) ?_
    refine r_goto (tgt := 701) (pc := 697) X dL_law_697 (by decide) ?_
    refine y_iast (pc := 701) X ce_42 (fun _ => ca_42 _ _) dL_law_701 hf (fun j64 s65 e9 hf => ?_)
    have hc := hc.eq e9
    refine r_goto (tgt := 1098) (pc := 702) X dL_law_702 (by decide) ?_
    refine r_forget (lv' := [(0, .ref b), (1, .ref (B + 0)), (2, .ref (B + 39)), (3, .ref (B + 40)), (4, .ref (B + 41)), (5, .ref (B + 42)), (6, .ref (B + 43)), (7, .ref (B + 44)), (8, .int t0), (9, .int l9), (10, .int l10), (11, .int l11)]) [0, 1, 2, 3, 4, 5, 6, 7, 8, 9, 10, 11] rfl ?_
    exact c_f_L_law_b1098 X M Y S hE hK94 hc hf
  · refine r_iload (pc := 688) X dL_law_688 13 rfl ?_
    refine r_sipush (v := -1243) (pc := 690) X dL_law_690 (by decide) ?_
    refine b_icmp_ne (tgt := 700) (pc := 693) X dL_law_693 (by decide) hf (fun hf => ?_) (fun hf => ?_)
    · refine r_iconst (v := 1) (pc := 696) X dL_law_696 (by decide) ?_
      refine r_goto (tgt := 701) (pc := 697) X dL_law_697 (by decide) ?_
      refine y_iast (pc := 701) X ce_42 (fun _ => ca_42 _ _) dL_law_701 hf (fun j66 s67 e9 hf => ?_)
      have hc := hc.eq e9
      refine r_goto (tgt := 1098) (pc := 702) X dL_law_702 (by decide) ?_
      refine r_forget (lv' := [(0, .ref b), (1, .ref (B + 0)), (2, .ref (B + 39)), (3, .ref (B + 40)), (4, .ref (B + 41)), (5, .ref (B + 42)), (6, .ref (B + 43)), (7, .ref (B + 44)), (8, .int t0), (9, .int l9), (10, .int l10), (11, .int l11)]) [0, 1, 2, 3, 4, 5, 6, 7, 8, 9, 10, 11] rfl ?_
      exact c_f_L_law_b1098 X M Y S hE hK94 hc hf
    · refine r_iconst (v := 0) (pc := 700) X dL_law_700 (by decide) ?_
      refine y_iast (pc := 701) X ce_42 (fun _ => ca_42 _ _) dL_law_701 hf (fun j68 s69 e9 hf => ?_)
      have hc := hc.eq e9
      refine r_goto (tgt := 1098) (pc := 702) X dL_law_702 (by decide) ?_
      refine r_forget (lv' := [(0, .ref b), (1, .ref (B + 0)), (2, .ref (B + 39)), (3, .ref (B + 40)), (4, .ref (B + 41)), (5, .ref (B + 42)), (6, .ref (B + 43)), (7, .ref (B + 44)), (8, .int t0), (9, .int l9), (10, .int l10), (11, .int l11)]) [0, 1, 2, 3, 4, 5, 6, 7, 8, 9, 10, 11] rfl ?_
      exact c_f_L_law_b1098 X M Y S hE hK94 hc hf
set_option maxHeartbeats 1000000 in
theorem c_f_L_law_b624 {b L : Nat} {xs : Nat → Int32} {F Z : Nat} {Q : State → Prop} {k0 n0 : Nat} {c0 : Nat} {Γ : Ga} {D : DD} {B : Nat} {r : Int32} {s' : St} (X : Cx Γ RL cL_law 19 D B room_1) (M : RLe room_1 Z k0 n0 c0 807 16594) (Y : Xy Γ B) (S : SX Γ B b L xs) (hE : ∀ {s : St} {v : Int32} {pc : Nat} {lv : List (Nat × Value)}, Hc c0 Z s → decode cL_law pc = .ok (.ireturn, 1) → some (v, s) = some (r, s') → V Γ D B true 19 Q (kg k0 c0 s) (ng n0 c0 s) s pc lv [.int v]) {K94 : St → Int32 → Int32 → Option (Int32 × St)} (hK94 : ∀ {s : St} {l8 : Int32} {l9 : Int32}, Hc c0 Z s → K94 s l8 l9 = some (r, s') → V Γ D B true 19 Q (kg k0 c0 s) (ng n0 c0 s) s 94 [(0, .ref b), (1, .ref (B + 0)), (2, .ref (B + 39)), (3, .ref (B + 40)), (4, .ref (B + 41)), (5, .ref (B + 42)), (6, .ref (B + 43)), (7, .ref (B + 44)), (8, .int l8), (9, .int l9)] []) {s : St} {l9 : Int32} {l10 : Int32} {l11 : Int32} {l15 : Int32} {t0 : Int32} (hc : Hc c0 Z s) (hf : f_L_law_b624 L xs F Z K94 s l9 l10 l11 l15 t0 = some (r, s')) : V Γ D B true 19 Q (kg k0 c0 s) (ng n0 c0 s) s 624 [(0, .ref b), (1, .ref (B + 0)), (2, .ref (B + 39)), (3, .ref (B + 40)), (4, .ref (B + 41)), (5, .ref (B + 42)), (6, .ref (B + 43)), (7, .ref (B + 44)), (9, .int l9), (10, .int l10), (11, .int l11), (15, .int l15)] [.int t0] := by
  unfold f_L_law_b624 at hf
  refine r_istore (pc := 624) (lv' := [(0, .ref b), (1, .ref (B + 0)), (2, .ref (B + 39)), (3, .ref (B + 40)), (4, .ref (B + 41)), (5, .ref (B + 42)), (6, .ref (B + 43)), (7, .ref (B + 44)), (9, .int l9), (10, .int l10), (11, .int l11), (15, .int l15), (16, .int t0)]) X dL_law_624 (by decide) [1, 2, 3, 4, 5, 6, 7, 8, 9, 10, 11, 12, 0] rfl ?_
  refine r_aload (x := some 42) (pc := 626) X dL_law_626 5 rfl ?_
  refine r_iload (pc := 628) X dL_law_628 11 rfl ?_
  refine r_iconst (v := 3) (pc := 630) X dL_law_630 (by decide) ?_
  refine r_iadd (pc := 631) X dL_law_631 ?_
  refine r_iconst (v := 1) (pc := 632) X dL_law_632 (by decide) ?_
  refine y_iast (pc := 633) X ce_42 (fun _ => ca_42 _ _) dL_law_633 hf (fun j60 s61 e9 hf => ?_)
  have hc := hc.eq e9
  refine r_iload (pc := 634) X dL_law_634 10 rfl ?_
  refine r_iconst (v := 3) (pc := 636) X dL_law_636 (by decide) ?_
  refine r_irem (pc := 637) X dL_law_637 (by decide) ?_
  refine b_if_ne (tgt := 661) (pc := 638) X dL_law_638 (by decide) hf (fun hf => ?_) (fun hf => ?_)
  · refine r_aload_n (x := some 0) (pc := 641) X dL_law_641 1 rfl ?_
    refine r_bipush (v := 6) (pc := 642) X dL_law_642 (by decide) ?_
    refine r_iload (pc := 644) X dL_law_644 10 rfl ?_
    refine r_aload_n (x := some 39) (pc := 646) X dL_law_646 2 rfl ?_
    refine r_iconst (v := 1) (pc := 647) X dL_law_647 (by decide) ?_
    refine b_iald (pc := 648) X ce_39 dL_law_648 hf (fun j62 hf => ?_)
    refine ifz hf (fun hne hf => ?_)
    refine r_irem (pc := 649) X dL_law_649 hne ?_
    refine r_iconst (v := 0) (pc := 650) X dL_law_650 (by decide) ?_
    refine r_iconst (v := 0) (pc := 651) X dL_law_651 (by decide) ?_
    refine r_iconst (v := 0) (pc := 652) X dL_law_652 (by decide) ?_
    refine bnd hf (fun x63 h63 hf => ?_)
    refine ifo hf (fun hz hf => ?_)
    refine y_callWSi (As := [.ref (B + 0), .int 6, .int (l11 - l11 / (gA s61 39 j62) * (gA s61 39 j62)), .int 0, .int 0, .int 0]) (st := []) (pc := 653) X M Y hc (c_f_L_act h63 hc.2) rfl w_437 w_438 w_35 w_439 hdS_L_act (by decide) hz (Nat.le_of_ble_eq_true rfl) dL_law_653 rfl (fun hc => ?_)
    refine r_iload (pc := 656) X dL_law_656 12 rfl ?_
    refine b_icmp_eq (tgt := 668) (pc := 658) X dL_law_658 (by decide) hf (fun hf => ?_) (fun hf => ?_)
    · refine r_iconst (v := 1) (pc := 668) X dL_law_668 (by decide) ?_
      refine r_goto (tgt := 673) (pc := 669) X dL_law_669 (by decide) ?_
      exact c_f_L_law_b673 X M Y S hE hK94 hc hf
    · refine r_iload (pc := 661) X dL_law_661 10 rfl ?_
      refine r_iconst (v := 3) (pc := 663) X dL_law_663 (by decide) ?_
      refine r_irem (pc := 664) X dL_law_664 (by decide) ?_
      refine b_if_le (tgt := 672) (pc := 665) X dL_law_665 (by decide) hf (fun hf => ?_) (fun hf => ?_)
      · refine r_iconst (v := 0) (pc := 672) X dL_law_672 (by decide) ?_
        exact c_f_L_law_b673 X M Y S hE hK94 hc hf
      · refine r_iconst (v := 1) (pc := 668) X dL_law_668 (by decide) ?_
        refine r_goto (tgt := 673) (pc := 669) X dL_law_669 (by decide) ?_
        exact c_f_L_law_b673 X M Y S hE hK94 hc hf
  · refine r_iload (pc := 661) X dL_law_661 10 rfl ?_
    refine r_iconst (v := 3) (pc := 663) X dL_law_663 (by decide) ?_
    refine r_irem (pc := 664) X dL_law_664 (by decide) ?_
    refine b_if_le (tgt := 672) (pc := 665) X dL_law_665 (by decide) hf (fun hf => ?_) (fun hf => ?_)
    · refine r_iconst (v := 0) (pc := 672) X dL_law_672 (by decide) ?_
      exact c_f_L_law_b673 X M Y S hE hK94 hc hf
    · refine r_iconst (v := 1) (pc := 668) X dL_law_668 (by decide) ?_
      refine r_goto (tgt := 673) (pc := 669) X dL_law_669 (by decide) ?_
      exact c_f_L_law_b673 X M Y S hE hK94 hc hf
set_option maxHeartbeats 1000000 in
theorem c_f_L_law_b573 {b L : Nat} {xs : Nat → Int32} {F Z : Nat} {Q : State → Prop} {k0 n0 : Nat} {c0 : Nat} {Γ : Ga} {D : DD} {B : Nat} {r : Int32} {s' : St} (X : Cx Γ RL cL_law 19 D B room_1) (M : RLe room_1 Z k0 n0 c0 807 16594) (Y : Xy Γ B) (S : SX Γ B b L xs) (hE : ∀ {s : St} {v : Int32} {pc : Nat} {lv : List (Nat × Value)}, Hc c0 Z s → decode cL_law pc = .ok (.ireturn, 1) → some (v, s) = some (r, s') → V Γ D B true 19 Q (kg k0 c0 s) (ng n0 c0 s) s pc lv [.int v]) {K94 : St → Int32 → Int32 → Option (Int32 × St)} (hK94 : ∀ {s : St} {l8 : Int32} {l9 : Int32}, Hc c0 Z s → K94 s l8 l9 = some (r, s') → V Γ D B true 19 Q (kg k0 c0 s) (ng n0 c0 s) s 94 [(0, .ref b), (1, .ref (B + 0)), (2, .ref (B + 39)), (3, .ref (B + 40)), (4, .ref (B + 41)), (5, .ref (B + 42)), (6, .ref (B + 43)), (7, .ref (B + 44)), (8, .int l8), (9, .int l9)] []) {s : St} {l8 : Int32} {l9 : Int32} {l10 : Int32} {l11 : Int32} {l12 : Int32} {l13 : Int32} {l14 : Int32} (hc : Hc c0 Z s) (hf : f_L_law_b573 L xs F Z K94 s l8 l9 l10 l11 l12 l13 l14 = some (r, s')) : V Γ D B true 19 Q (kg k0 c0 s) (ng n0 c0 s) s 573 [(0, .ref b), (1, .ref (B + 0)), (2, .ref (B + 39)), (3, .ref (B + 40)), (4, .ref (B + 41)), (5, .ref (B + 42)), (6, .ref (B + 43)), (7, .ref (B + 44)), (8, .int l8), (9, .int l9), (10, .int l10), (11, .int l11), (12, .int l12), (13, .int l13), (14, .int l14)] [] := by
  unfold f_L_law_b573 at hf
  refine r_iload (pc := 573) X dL_law_573 12 rfl ?_
  refine r_bipush (v := 15) (pc := 575) X dL_law_575 (by decide) ?_
  refine b_icmp_ne (tgt := 705) (pc := 577) X dL_law_577 (by decide) hf (fun hf => ?_) (fun hf => ?_)
  · refine r_aload_n (x := some 39) (pc := 580) X dL_law_580 2 rfl ?_
    refine r_iconst (v := 1) (pc := 581) X dL_law_581 (by decide) ?_
    refine b_iald (pc := 582) X ce_39 dL_law_582 hf (fun j24 hf => ?_)
    refine b_if_le (tgt := 705) (pc := 583) X dL_law_583 (by decide) hf (fun hf => ?_) (fun hf => ?_)
    · exact c_f_L_law_b705 X M Y S hE hK94 hc hf
    · refine r_bipush (v := 12) (pc := 586) X dL_law_586 (by decide) ?_
      refine r_iload (pc := 588) X dL_law_588 11 rfl ?_
      refine r_aload_n (x := some 39) (pc := 590) X dL_law_590 2 rfl ?_
      refine r_iconst (v := 1) (pc := 591) X dL_law_591 (by decide) ?_
      refine b_iald (pc := 592) X ce_39 dL_law_592 hf (fun j58 hf => ?_)
      refine ifz hf (fun hne hf => ?_)
      refine r_irem (pc := 593) X dL_law_593 hne ?_
      refine r_imul (pc := 594) X dL_law_594 ?_
      refine r_istore (pc := 595) (lv' := [(0, .ref b), (1, .ref (B + 0)), (2, .ref (B + 39)), (3, .ref (B + 40)), (4, .ref (B + 41)), (5, .ref (B + 42)), (6, .ref (B + 43)), (7, .ref (B + 44)), (9, .int l9), (10, .int l10), (11, .int l11), (15, .int ((12 : Int32) * (l11 - l11 / (gA s 39 j58) * (gA s 39 j58))))]) X dL_law_595 (by decide) [1, 2, 3, 4, 5, 6, 7, 8, 10, 11, 12, 0] rfl ?_
      refine r_aload (x := some 42) (pc := 597) X dL_law_597 5 rfl ?_
      refine r_iload (pc := 599) X dL_law_599 11 rfl ?_
      refine r_iconst (v := 3) (pc := 601) X dL_law_601 (by decide) ?_
      refine r_iadd (pc := 602) X dL_law_602 ?_
      refine b_iald (pc := 603) X ce_42 dL_law_603 hf (fun j59 hf => ?_)
      refine r_iconst (v := 1) (pc := 604) X dL_law_604 (by decide) ?_
      refine b_icmp_ne (tgt := 614) (pc := 605) X dL_law_605 (by decide) hf (fun hf => ?_) (fun hf => ?_)
      · refine r_sipush (v := -1243) (pc := 608) X dL_law_608 (by decide) ?_
        refine r_goto (tgt := 624) (pc := 611) X dL_law_611 (by decide) ?_
        exact c_f_L_law_b624 X M Y S hE hK94 hc hf
      · refine r_aload_n (x := some 0) (pc := 614) X dL_law_614 1 rfl ?_
        refine r_iload (pc := 615) X dL_law_615 10 rfl ?_
        refine r_aload_n (x := some 39) (pc := 617) X dL_law_617 2 rfl ?_
        refine r_iconst (v := 1) (pc := 618) X dL_law_618 (by decide) ?_
        refine b_iald (pc := 619) X ce_39 dL_law_619 hf (fun j70 hf => ?_)
        refine ifz hf (fun hne hf => ?_)
        refine r_irem (pc := 620) X dL_law_620 hne ?_
        refine bnd hf (fun x71 h71 hf => ?_)
        refine bnd hf (fun v72 h71v hf => ?_)
        refine y_callXVi (As := [.int (l11 - l11 / (gA s 39 j70) * (gA s 39 j70))]) (st := []) (pc := 621) X M Y hc (qc_run (ou := ouI) hc.2 (fun z x h => c_f_P_rises h) h71) rfl w_351 w_352 w_353 w_36 w_354 hdV_X10_rises (Rc.s rfl ce_0) (by decide) (Nat.le_of_ble_eq_true rfl) dL_law_621 rfl h71v (fun hc => ?_)
        exact c_f_L_law_b624 X M Y S hE hK94 hc hf
  · exact c_f_L_law_b705 X M Y S hE hK94 hc hf
set_option maxHeartbeats 1000000 in
theorem c_f_L_law_b515 {b L : Nat} {xs : Nat → Int32} {F Z : Nat} {Q : State → Prop} {k0 n0 : Nat} {c0 : Nat} {Γ : Ga} {D : DD} {B : Nat} {r : Int32} {s' : St} (X : Cx Γ RL cL_law 19 D B room_1) (M : RLe room_1 Z k0 n0 c0 807 16594) (Y : Xy Γ B) (S : SX Γ B b L xs) (hE : ∀ {s : St} {v : Int32} {pc : Nat} {lv : List (Nat × Value)}, Hc c0 Z s → decode cL_law pc = .ok (.ireturn, 1) → some (v, s) = some (r, s') → V Γ D B true 19 Q (kg k0 c0 s) (ng n0 c0 s) s pc lv [.int v]) {K94 : St → Int32 → Int32 → Option (Int32 × St)} (hK94 : ∀ {s : St} {l8 : Int32} {l9 : Int32}, Hc c0 Z s → K94 s l8 l9 = some (r, s') → V Γ D B true 19 Q (kg k0 c0 s) (ng n0 c0 s) s 94 [(0, .ref b), (1, .ref (B + 0)), (2, .ref (B + 39)), (3, .ref (B + 40)), (4, .ref (B + 41)), (5, .ref (B + 42)), (6, .ref (B + 43)), (7, .ref (B + 44)), (8, .int l8), (9, .int l9)] []) {s : St} {l9 : Int32} {l10 : Int32} {l11 : Int32} {l14 : Int32} {l15 : Int64} {l17 : Int32} {t1 : Int32} {t2 : Int32} {t3 : Int32} (hc : Hc c0 Z s) (hf : f_L_law_b515 L xs F Z K94 s l9 l10 l11 l14 l15 l17 t1 t2 t3 = some (r, s')) : V Γ D B true 19 Q (kg k0 c0 s) (ng n0 c0 s) s 515 [(0, .ref b), (1, .ref (B + 0)), (2, .ref (B + 39)), (3, .ref (B + 40)), (4, .ref (B + 41)), (5, .ref (B + 42)), (6, .ref (B + 43)), (7, .ref (B + 44)), (9, .int l9), (10, .int l10), (11, .int l11), (14, .int l14), (15, .long l15), (17, .int l17)] [.int t3, .int t2, .int t1, .ref (B + 42)] := by
  unfold f_L_law_b515 at hf
  refine ifz hf (fun hne hf => ?_)
  refine r_irem (pc := 515) X dL_law_515 hne ?_
  refine y_iast (pc := 516) X ce_42 (fun _ => ca_42 _ _) dL_law_516 hf (fun j82 s83 e9 hf => ?_)
  have hc := hc.eq e9
  refine r_aload_n (x := some 39) (pc := 517) X dL_law_517 2 rfl ?_
  refine r_iconst (v := 1) (pc := 518) X dL_law_518 (by decide) ?_
  refine r_dup2 (pc := 519) X dL_law_519 rfl rfl ?_
  refine b_iald (pc := 520) X ce_39 dL_law_520 hf (fun j84 hf => ?_)
  refine r_iconst (v := 1) (pc := 521) X dL_law_521 (by decide) ?_
  refine r_iadd (pc := 522) X dL_law_522 ?_
  refine y_iast (pc := 523) X ce_39 (fun _ => ca_39 _ _) dL_law_523 hf (fun j85 s86 e9 hf => ?_)
  have hc := hc.eq e9
  refine r_lload (pc := 524) X dL_law_524 12 rfl ?_
  refine r_ldc2 (v := -77777) (pc := 526) X w_982 dL_law_526 ?_
  refine b_lcmp_eq (tgt := 567) (pc := 529) X dL_law_529 dL_law_530 (by decide) hf (fun hf => ?_) (fun hf => ?_)
  · refine r_iconst (v := 0) (pc := 567) X dL_law_567 (by decide) ?_
    refine r_istore (pc := 568) (lv' := [(0, .ref b), (1, .ref (B + 0)), (2, .ref (B + 39)), (3, .ref (B + 40)), (4, .ref (B + 41)), (5, .ref (B + 42)), (6, .ref (B + 43)), (7, .ref (B + 44)), (8, .int 0), (9, .int l9), (10, .int l10), (11, .int l11)]) X dL_law_568 (by decide) [1, 2, 3, 4, 5, 6, 7, 8, 0, 9, 10, 11] rfl ?_
    refine r_goto (tgt := 1098) (pc := 570) X dL_law_570 (by decide) ?_
    exact c_f_L_law_b1098 X M Y S hE hK94 hc hf
  · refine r_aload_n (x := some 0) (pc := 533) X dL_law_533 1 rfl ?_
    refine r_iconst (v := 5) (pc := 534) X dL_law_534 (by decide) ?_
    refine r_iload (pc := 535) X dL_law_535 11 rfl ?_
    refine r_aload (x := some 42) (pc := 537) X dL_law_537 5 rfl ?_
    refine r_iload (pc := 539) X dL_law_539 13 rfl ?_
    refine r_iconst (v := 1) (pc := 541) X dL_law_541 (by decide) ?_
    refine r_iadd (pc := 542) X dL_law_542 ?_
    refine b_iald (pc := 543) X ce_42 dL_law_543 hf (fun j87 hf => ?_)
    refine r_aload (x := some 42) (pc := 544) X dL_law_544 5 rfl ?_
    refine r_iload (pc := 546) X dL_law_546 13 rfl ?_
    refine r_iconst (v := 2) (pc := 548) X dL_law_548 (by decide) ?_
    refine r_iadd (pc := 549) X dL_law_549 ?_
    refine b_iald (pc := 550) X ce_42 dL_law_550 hf (fun j88 hf => ?_)
    refine r_iconst (v := 0) (pc := 551) X dL_law_551 (by decide) ?_
    refine bnd hf (fun x89 h89 hf => ?_)
    refine ifo hf (fun hz hf => ?_)
    refine y_callWSi (As := [.ref (B + 0), .int 5, .int l14, .int (gA s86 42 j87), .int (gA s86 42 j88), .int 0]) (st := []) (pc := 552) X M Y hc (c_f_L_act h89 hc.2) rfl w_437 w_438 w_35 w_439 hdS_L_act (by decide) hz (Nat.le_of_ble_eq_true rfl) dL_law_552 rfl (fun hc => ?_)
    refine r_aload_n (x := some 39) (pc := 555) X dL_law_555 2 rfl ?_
    refine r_iconst (v := 1) (pc := 556) X dL_law_556 (by decide) ?_
    refine b_iald (pc := 557) X ce_39 dL_law_557 hf (fun j90 hf => ?_)
    refine r_iconst (v := 1) (pc := 558) X dL_law_558 (by decide) ?_
    refine r_isub (pc := 559) X dL_law_559 ?_
    refine b_icmp_ne (tgt := 567) (pc := 560) X dL_law_560 (by decide) hf (fun hf => ?_) (fun hf => ?_)
    · refine r_iconst (v := 1) (pc := 563) X dL_law_563 (by decide) ?_
      refine r_goto (tgt := 568) (pc := 564) X dL_law_564 (by decide) ?_
      refine r_istore (pc := 568) (lv' := [(0, .ref b), (1, .ref (B + 0)), (2, .ref (B + 39)), (3, .ref (B + 40)), (4, .ref (B + 41)), (5, .ref (B + 42)), (6, .ref (B + 43)), (7, .ref (B + 44)), (8, .int 1), (9, .int l9), (10, .int l10), (11, .int l11)]) X dL_law_568 (by decide) [1, 2, 3, 4, 5, 6, 7, 8, 0, 9, 10, 11] rfl ?_
      refine r_goto (tgt := 1098) (pc := 570) X dL_law_570 (by decide) ?_
      exact c_f_L_law_b1098 X M Y S hE hK94 hc hf
    · refine r_iconst (v := 0) (pc := 567) X dL_law_567 (by decide) ?_
      refine r_istore (pc := 568) (lv' := [(0, .ref b), (1, .ref (B + 0)), (2, .ref (B + 39)), (3, .ref (B + 40)), (4, .ref (B + 41)), (5, .ref (B + 42)), (6, .ref (B + 43)), (7, .ref (B + 44)), (8, .int 0), (9, .int l9), (10, .int l10), (11, .int l11)]) X dL_law_568 (by decide) [1, 2, 3, 4, 5, 6, 7, 8, 0, 9, 10, 11] rfl ?_
      refine r_goto (tgt := 1098) (pc := 570) X dL_law_570 (by decide) ?_
      exact c_f_L_law_b1098 X M Y S hE hK94 hc hf
set_option maxHeartbeats 1000000 in
theorem c_f_L_law_b486 {b L : Nat} {xs : Nat → Int32} {F Z : Nat} {Q : State → Prop} {k0 n0 : Nat} {c0 : Nat} {Γ : Ga} {D : DD} {B : Nat} {r : Int32} {s' : St} (X : Cx Γ RL cL_law 19 D B room_1) (M : RLe room_1 Z k0 n0 c0 807 16594) (Y : Xy Γ B) (S : SX Γ B b L xs) (hE : ∀ {s : St} {v : Int32} {pc : Nat} {lv : List (Nat × Value)}, Hc c0 Z s → decode cL_law pc = .ok (.ireturn, 1) → some (v, s) = some (r, s') → V Γ D B true 19 Q (kg k0 c0 s) (ng n0 c0 s) s pc lv [.int v]) {K94 : St → Int32 → Int32 → Option (Int32 × St)} (hK94 : ∀ {s : St} {l8 : Int32} {l9 : Int32}, Hc c0 Z s → K94 s l8 l9 = some (r, s') → V Γ D B true 19 Q (kg k0 c0 s) (ng n0 c0 s) s 94 [(0, .ref b), (1, .ref (B + 0)), (2, .ref (B + 39)), (3, .ref (B + 40)), (4, .ref (B + 41)), (5, .ref (B + 42)), (6, .ref (B + 43)), (7, .ref (B + 44)), (8, .int l8), (9, .int l9)] []) {s : St} {l9 : Int32} {l10 : Int32} {l11 : Int32} {l14 : Int32} {l15 : Int64} {l17 : Int32} {t1 : Int32} {t2 : Int32} {t3 : Int32} {t4 : Int32} (hc : Hc c0 Z s) (hf : f_L_law_b486 L xs F Z K94 s l9 l10 l11 l14 l15 l17 t1 t2 t3 t4 = some (r, s')) : V Γ D B true 19 Q (kg k0 c0 s) (ng n0 c0 s) s 486 [(0, .ref b), (1, .ref (B + 0)), (2, .ref (B + 39)), (3, .ref (B + 40)), (4, .ref (B + 41)), (5, .ref (B + 42)), (6, .ref (B + 43)), (7, .ref (B + 44)), (9, .int l9), (10, .int l10), (11, .int l11), (14, .int l14), (15, .long l15), (17, .int l17)] [.int t4, .int t3, .int t2, .int t1, .ref (B + 42)] := by
  unfold f_L_law_b486 at hf
  refine ifz hf (fun hne hf => ?_)
  refine r_irem (pc := 486) X dL_law_486 hne ?_
  refine r_iadd (pc := 487) X dL_law_487 ?_
  refine y_iast (pc := 488) X ce_42 (fun _ => ca_42 _ _) dL_law_488 hf (fun j80 s81 e9 hf => ?_)
  have hc := hc.eq e9
  refine r_aload (x := some 42) (pc := 489) X dL_law_489 5 rfl ?_
  refine r_iload (pc := 491) X dL_law_491 13 rfl ?_
  refine r_iconst (v := 2) (pc := 493) X dL_law_493 (by decide) ?_
  refine r_iadd (pc := 494) X dL_law_494 ?_
  refine r_iload (pc := 495) X dL_law_495 10 rfl ?_
  refine r_sipush (v := 600) (pc := 497) X dL_law_497 (by decide) ?_
  refine r_idiv (pc := 500) X dL_law_500 (by decide) ?_
  refine r_iload (pc := 501) X dL_law_501 10 rfl ?_
  refine r_iconst (v := 5) (pc := 503) X dL_law_503 (by decide) ?_
  refine r_irem (pc := 504) X dL_law_504 (by decide) ?_
  refine b_if_ne (tgt := 513) (pc := 505) X dL_law_505 (by decide) hf (fun hf => ?_) (fun hf => ?_)
  · refine r_bipush (v := 73) (pc := 508) X dL_law_508 (by decide) ?_
    refine r_goto (tgt := 515) (pc := 510) X dL_law_510 (by decide) ?_
    exact c_f_L_law_b515 X M Y S hE hK94 hc hf
  · refine r_bipush (v := 10) (pc := 513) X dL_law_513 (by decide) ?_
    exact c_f_L_law_b515 X M Y S hE hK94 hc hf
set_option maxHeartbeats 1000000 in
theorem c_f_L_law_b345 {b L : Nat} {xs : Nat → Int32} {F Z : Nat} {Q : State → Prop} {k0 n0 : Nat} {c0 : Nat} {Γ : Ga} {D : DD} {B : Nat} {r : Int32} {s' : St} (X : Cx Γ RL cL_law 19 D B room_1) (M : RLe room_1 Z k0 n0 c0 807 16594) (Y : Xy Γ B) (S : SX Γ B b L xs) (hE : ∀ {s : St} {v : Int32} {pc : Nat} {lv : List (Nat × Value)}, Hc c0 Z s → decode cL_law pc = .ok (.ireturn, 1) → some (v, s) = some (r, s') → V Γ D B true 19 Q (kg k0 c0 s) (ng n0 c0 s) s pc lv [.int v]) {K94 : St → Int32 → Int32 → Option (Int32 × St)} (hK94 : ∀ {s : St} {l8 : Int32} {l9 : Int32}, Hc c0 Z s → K94 s l8 l9 = some (r, s') → V Γ D B true 19 Q (kg k0 c0 s) (ng n0 c0 s) s 94 [(0, .ref b), (1, .ref (B + 0)), (2, .ref (B + 39)), (3, .ref (B + 40)), (4, .ref (B + 41)), (5, .ref (B + 42)), (6, .ref (B + 43)), (7, .ref (B + 44)), (8, .int l8), (9, .int l9)] []) {s : St} {l8 : Int32} {l9 : Int32} {l10 : Int32} {l11 : Int32} {l12 : Int32} {l13 : Int32} {l14 : Int32} (hc : Hc c0 Z s) (hf : f_L_law_b345 L xs F Z K94 s l8 l9 l10 l11 l12 l13 l14 = some (r, s')) : V Γ D B true 19 Q (kg k0 c0 s) (ng n0 c0 s) s 345 [(0, .ref b), (1, .ref (B + 0)), (2, .ref (B + 39)), (3, .ref (B + 40)), (4, .ref (B + 41)), (5, .ref (B + 42)), (6, .ref (B + 43)), (7, .ref (B + 44)), (8, .int l8), (9, .int l9), (10, .int l10), (11, .int l11), (12, .int l12), (13, .int l13), (14, .int l14)] [] := by
  unfold f_L_law_b345 at hf
  refine r_iload (pc := 345) X dL_law_345 12 rfl ?_
  refine r_bipush (v := 10) (pc := 347) X dL_law_347 (by decide) ?_
  refine b_icmp_ge (tgt := 376) (pc := 349) X dL_law_349 (by decide) hf (fun hf => ?_) (fun hf => ?_)
  · refine r_iload (pc := 376) X dL_law_376 12 rfl ?_
    refine r_bipush (v := 12) (pc := 378) X dL_law_378 (by decide) ?_
    refine b_icmp_ge (tgt := 396) (pc := 380) X dL_law_380 (by decide) hf (fun hf => ?_) (fun hf => ?_)
    · refine r_iload (pc := 396) X dL_law_396 12 rfl ?_
      refine r_bipush (v := 15) (pc := 398) X dL_law_398 (by decide) ?_
      refine b_icmp_ge (tgt := 573) (pc := 400) X dL_law_400 (by decide) hf (fun hf => ?_) (fun hf => ?_)
      · exact c_f_L_law_b573 X M Y S hE hK94 hc hf
      · refine r_aload_n (x := some 39) (pc := 403) X dL_law_403 2 rfl ?_
        refine r_iconst (v := 1) (pc := 404) X dL_law_404 (by decide) ?_
        refine b_iald (pc := 405) X ce_39 dL_law_405 hf (fun j73 hf => ?_)
        refine r_iconst (v := 4) (pc := 406) X dL_law_406 (by decide) ?_
        refine b_icmp_ge (tgt := 573) (pc := 407) X dL_law_407 (by decide) hf (fun hf => ?_) (fun hf => ?_)
        · exact c_f_L_law_b573 X M Y S hE hK94 hc hf
        · refine r_aload_n (x := some 0) (pc := 410) X dL_law_410 1 rfl ?_
          refine r_iload (pc := 411) X dL_law_411 11 rfl ?_
          refine r_bipush (v := 6) (pc := 413) X dL_law_413 (by decide) ?_
          refine r_irem (pc := 415) X dL_law_415 (by decide) ?_
          refine r_iload (pc := 416) X dL_law_416 11 rfl ?_
          refine r_bipush (v := 6) (pc := 418) X dL_law_418 (by decide) ?_
          refine r_idiv (pc := 420) X dL_law_420 (by decide) ?_
          refine r_iconst (v := 4) (pc := 421) X dL_law_421 (by decide) ?_
          refine r_irem (pc := 422) X dL_law_422 (by decide) ?_
          refine r_iload (pc := 423) X dL_law_423 11 rfl ?_
          refine r_bipush (v := 24) (pc := 425) X dL_law_425 (by decide) ?_
          refine r_idiv (pc := 427) X dL_law_427 (by decide) ?_
          refine r_iload (pc := 428) X dL_law_428 11 rfl ?_
          refine r_bipush (v := 24) (pc := 430) X dL_law_430 (by decide) ?_
          refine r_idiv (pc := 432) X dL_law_432 (by decide) ?_
          refine r_iconst (v := 3) (pc := 433) X dL_law_433 (by decide) ?_
          refine r_irem (pc := 434) X dL_law_434 (by decide) ?_
          refine r_iconst (v := 0) (pc := 435) X dL_law_435 (by decide) ?_
          refine r_aload_n (x := some 0) (pc := 436) X dL_law_436 1 rfl ?_
          refine bnd hf (fun x74 h74 hf => ?_)
          refine y_callVi (As := []) (st := [.int 0, .int ((l11 / 24) - (l11 / 24) / 3 * 3), .int (l11 / 24), .int ((l11 / 6) - (l11 / 6) / 4 * 4), .int (l11 - l11 / 6 * 6), .ref (B + 0)]) (pc := 437) X M hc (c_f_P_now h74) rfl w_317 w_318 w_319 w_36 w_320 hdV_X10_now (Rc.s rfl ce_0) (by decide) (Nat.le_of_ble_eq_true rfl) dL_law_437 rfl hf (fun s75 hc hf => ?_)
          refine bnd hf (fun x76 h76 hf => ?_)
          refine ifo hf (fun hz hf => ?_)
          refine y_callXSl (As := [.ref (B + 0), .int (l11 - l11 / 6 * 6), .int ((l11 / 6) - (l11 / 6) / 4 * 4), .int (l11 / 24), .int ((l11 / 24) - (l11 / 24) / 3 * 3), .int 0, .int x74.1]) (st := []) (pc := 440) X M Y hc (c_f_L_value h76 hc.2) rfl w_976 w_977 w_35 w_978 hdS_L_value (by decide) hz (Nat.le_of_ble_eq_true rfl) dL_law_440 rfl (fun hc => ?_)
          refine r_lstore (pc := 443) (lv' := [(0, .ref b), (1, .ref (B + 0)), (2, .ref (B + 39)), (3, .ref (B + 40)), (4, .ref (B + 41)), (5, .ref (B + 42)), (6, .ref (B + 43)), (7, .ref (B + 44)), (9, .int l9), (10, .int l10), (11, .int l11), (14, .int l14), (15, .long x76.1)]) X dL_law_443 (by decide) [1, 2, 3, 4, 5, 6, 7, 8, 10, 11, 12, 15, 0] rfl ?_
          refine r_bipush (v := 12) (pc := 445) X dL_law_445 (by decide) ?_
          refine r_aload_n (x := some 39) (pc := 447) X dL_law_447 2 rfl ?_
          refine r_iconst (v := 1) (pc := 448) X dL_law_448 (by decide) ?_
          refine b_iald (pc := 449) X ce_39 dL_law_449 hf (fun j77 hf => ?_)
          refine r_imul (pc := 450) X dL_law_450 ?_
          refine r_istore (pc := 451) (lv' := [(0, .ref b), (1, .ref (B + 0)), (2, .ref (B + 39)), (3, .ref (B + 40)), (4, .ref (B + 41)), (5, .ref (B + 42)), (6, .ref (B + 43)), (7, .ref (B + 44)), (9, .int l9), (10, .int l10), (11, .int l11), (14, .int l14), (15, .long x76.1), (17, .int ((12 : Int32) * (gA x76.2 39 j77)))]) X dL_law_451 (by decide) [1, 2, 3, 4, 5, 6, 7, 8, 9, 10, 11, 12, 13, 0] rfl ?_
          refine r_aload (x := some 42) (pc := 453) X dL_law_453 5 rfl ?_
          refine r_iload (pc := 455) X dL_law_455 13 rfl ?_
          refine r_iload (pc := 457) X dL_law_457 11 rfl ?_
          refine y_iast (pc := 459) X ce_42 (fun _ => ca_42 _ _) dL_law_459 hf (fun j78 s79 e9 hf => ?_)
          have hc := hc.eq e9
          refine r_aload (x := some 42) (pc := 460) X dL_law_460 5 rfl ?_
          refine r_iload (pc := 462) X dL_law_462 13 rfl ?_
          refine r_iconst (v := 1) (pc := 464) X dL_law_464 (by decide) ?_
          refine r_iadd (pc := 465) X dL_law_465 ?_
          refine r_iconst (v := 1) (pc := 466) X dL_law_466 (by decide) ?_
          refine r_iload (pc := 467) X dL_law_467 10 rfl ?_
          refine r_bipush (v := 8) (pc := 469) X dL_law_469 (by decide) ?_
          refine r_idiv (pc := 471) X dL_law_471 (by decide) ?_
          refine r_iload (pc := 472) X dL_law_472 10 rfl ?_
          refine r_iconst (v := 5) (pc := 474) X dL_law_474 (by decide) ?_
          refine r_irem (pc := 475) X dL_law_475 (by decide) ?_
          refine b_if_ne (tgt := 484) (pc := 476) X dL_law_476 (by decide) hf (fun hf => ?_) (fun hf => ?_)
          · refine r_bipush (v := 72) (pc := 479) X dL_law_479 (by decide) ?_
            refine r_goto (tgt := 486) (pc := 481) X dL_law_481 (by decide) ?_
            exact c_f_L_law_b486 X M Y S hE hK94 hc hf
          · refine r_bipush (v := 12) (pc := 484) X dL_law_484 (by decide) ?_
            exact c_f_L_law_b486 X M Y S hE hK94 hc hf
    · refine r_aload_n (x := some 0) (pc := 383) X dL_law_383 1 rfl ?_
      refine r_aload_n (x := some 40) (pc := 384) X dL_law_384 3 rfl ?_
      refine r_aload_n (x := some 39) (pc := 385) X dL_law_385 2 rfl ?_
      refine r_iload (pc := 386) X dL_law_386 11 rfl ?_
      refine bnd hf (fun x91 h91 hf => ?_)
      refine ifo hf (fun hz hf => ?_)
      refine y_callXSi (As := [.ref (B + 0), .ref (B + 40), .ref (B + 39), .int l11]) (st := []) (pc := 388) X M Y hc (c_f_L_areValues h91 hc.2) rfl w_983 w_984 w_35 w_985 hdS_L_areValues (by decide) hz (Nat.le_of_ble_eq_true rfl) dL_law_388 rfl (fun hc => ?_)
      refine r_istore (pc := 391) (lv' := [(0, .ref b), (1, .ref (B + 0)), (2, .ref (B + 39)), (3, .ref (B + 40)), (4, .ref (B + 41)), (5, .ref (B + 42)), (6, .ref (B + 43)), (7, .ref (B + 44)), (8, .int x91.1), (9, .int l9), (10, .int l10), (11, .int l11)]) X dL_law_391 (by decide) [1, 2, 3, 4, 5, 6, 7, 8, 0, 9, 10, 11] rfl ?_
      refine r_goto (tgt := 1098) (pc := 393) X dL_law_393 (by decide) ?_
      exact c_f_L_law_b1098 X M Y S hE hK94 hc hf
  · refine r_aload_n (x := some 0) (pc := 352) X dL_law_352 1 rfl ?_
    refine s_aload_n (pc := 353) X dL_law_353 0 rfl ?_
    refine r_aload (x := some 43) (pc := 354) X dL_law_354 6 rfl ?_
    refine r_sipush (v := 300) (pc := 356) X dL_law_356 (by decide) ?_
    refine r_bipush (v := 26) (pc := 359) X dL_law_359 (by decide) ?_
    refine r_iload (pc := 361) X dL_law_361 11 rfl ?_
    refine r_bipush (v := 40) (pc := 363) X dL_law_363 (by decide) ?_
    refine r_irem (pc := 365) X dL_law_365 (by decide) ?_
    refine r_imul (pc := 366) X dL_law_366 ?_
    refine r_iadd (pc := 367) X dL_law_367 ?_
    refine bnd hf (fun x92 h92 hf => ?_)
    refine ifo hf (fun hz hf => ?_)
    refine y_callTSi (As := [.ref (B + 0), .ref b, .ref (B + 43), .int ((300 : Int32) + ((26 : Int32) * (l11 - l11 / 40 * 40)))]) (st := []) (pc := 368) X M Y S hc (c_f_L_isText h92 hc.2) rfl w_866 w_867 w_35 w_868 hdS_L_isText (by decide) hz (Nat.le_of_ble_eq_true rfl) dL_law_368 rfl (fun hc => ?_)
    refine r_istore (pc := 371) (lv' := [(0, .ref b), (1, .ref (B + 0)), (2, .ref (B + 39)), (3, .ref (B + 40)), (4, .ref (B + 41)), (5, .ref (B + 42)), (6, .ref (B + 43)), (7, .ref (B + 44)), (8, .int x92.1), (9, .int l9), (10, .int l10), (11, .int l11)]) X dL_law_371 (by decide) [1, 2, 3, 4, 5, 6, 7, 8, 0, 9, 10, 11] rfl ?_
    refine r_goto (tgt := 1098) (pc := 373) X dL_law_373 (by decide) ?_
    exact c_f_L_law_b1098 X M Y S hE hK94 hc hf
set_option maxHeartbeats 1000000 in
theorem c_f_L_law_b321 {b L : Nat} {xs : Nat → Int32} {F Z : Nat} {Q : State → Prop} {k0 n0 : Nat} {c0 : Nat} {Γ : Ga} {D : DD} {B : Nat} {r : Int32} {s' : St} (X : Cx Γ RL cL_law 19 D B room_1) (M : RLe room_1 Z k0 n0 c0 807 16594) (Y : Xy Γ B) (S : SX Γ B b L xs) (hE : ∀ {s : St} {v : Int32} {pc : Nat} {lv : List (Nat × Value)}, Hc c0 Z s → decode cL_law pc = .ok (.ireturn, 1) → some (v, s) = some (r, s') → V Γ D B true 19 Q (kg k0 c0 s) (ng n0 c0 s) s pc lv [.int v]) {K94 : St → Int32 → Int32 → Option (Int32 × St)} (hK94 : ∀ {s : St} {l8 : Int32} {l9 : Int32}, Hc c0 Z s → K94 s l8 l9 = some (r, s') → V Γ D B true 19 Q (kg k0 c0 s) (ng n0 c0 s) s 94 [(0, .ref b), (1, .ref (B + 0)), (2, .ref (B + 39)), (3, .ref (B + 40)), (4, .ref (B + 41)), (5, .ref (B + 42)), (6, .ref (B + 43)), (7, .ref (B + 44)), (8, .int l8), (9, .int l9)] []) {s : St} {l9 : Int32} {l10 : Int32} {l11 : Int32} {l15 : Int32} {t1 : Int32} {t2 : Int32} {t3 : Int32} {t4 : Int32} {t5 : Int32} (hc : Hc c0 Z s) (hf : f_L_law_b321 L xs F Z K94 s l9 l10 l11 l15 t1 t2 t3 t4 t5 = some (r, s')) : V Γ D B true 19 Q (kg k0 c0 s) (ng n0 c0 s) s 321 [(0, .ref b), (1, .ref (B + 0)), (2, .ref (B + 39)), (3, .ref (B + 40)), (4, .ref (B + 41)), (5, .ref (B + 42)), (6, .ref (B + 43)), (7, .ref (B + 44)), (9, .int l9), (10, .int l10), (11, .int l11), (15, .int l15)] [.int t5, .int t4, .int t3, .int t2, .int t1, .ref (B + 0)] := by
  unfold f_L_law_b321 at hf
  refine r_isub (pc := 321) X dL_law_321 ?_
  refine r_iload (pc := 322) X dL_law_322 11 rfl ?_
  refine bnd hf (fun x104 h104 hf => ?_)
  refine ifo hf (fun hz hf => ?_)
  refine y_callWSi (As := [.ref (B + 0), .int t1, .int t2, .int t3, .int (t4 - t5), .int l15]) (st := []) (pc := 324) X M Y hc (c_f_L_act h104 hc.2) rfl w_437 w_438 w_35 w_439 hdS_L_act (by decide) hz (Nat.le_of_ble_eq_true rfl) dL_law_324 rfl (fun hc => ?_)
  refine r_aload_n (x := some 39) (pc := 327) X dL_law_327 2 rfl ?_
  refine r_iconst (v := 2) (pc := 328) X dL_law_328 (by decide) ?_
  refine b_iald (pc := 329) X ce_39 dL_law_329 hf (fun j105 hf => ?_)
  refine r_iconst (v := 1) (pc := 330) X dL_law_330 (by decide) ?_
  refine r_isub (pc := 331) X dL_law_331 ?_
  refine b_icmp_ne (tgt := 339) (pc := 332) X dL_law_332 (by decide) hf (fun hf => ?_) (fun hf => ?_)
  · refine r_iconst (v := 1) (pc := 335) X dL_law_335 (by decide) ?_
    refine r_goto (tgt := 340) (pc := 336) X dL_law_336 (by decide) ?_
    refine r_istore (pc := 340) (lv' := [(0, .ref b), (1, .ref (B + 0)), (2, .ref (B + 39)), (3, .ref (B + 40)), (4, .ref (B + 41)), (5, .ref (B + 42)), (6, .ref (B + 43)), (7, .ref (B + 44)), (8, .int 1), (9, .int l9), (10, .int l10), (11, .int l11)]) X dL_law_340 (by decide) [1, 2, 3, 4, 5, 6, 7, 8, 0, 9, 10, 11] rfl ?_
    refine r_goto (tgt := 1098) (pc := 342) X dL_law_342 (by decide) ?_
    exact c_f_L_law_b1098 X M Y S hE hK94 hc hf
  · refine r_iconst (v := 0) (pc := 339) X dL_law_339 (by decide) ?_
    refine r_istore (pc := 340) (lv' := [(0, .ref b), (1, .ref (B + 0)), (2, .ref (B + 39)), (3, .ref (B + 40)), (4, .ref (B + 41)), (5, .ref (B + 42)), (6, .ref (B + 43)), (7, .ref (B + 44)), (8, .int 0), (9, .int l9), (10, .int l10), (11, .int l11)]) X dL_law_340 (by decide) [1, 2, 3, 4, 5, 6, 7, 8, 0, 9, 10, 11] rfl ?_
    refine r_goto (tgt := 1098) (pc := 342) X dL_law_342 (by decide) ?_
    exact c_f_L_law_b1098 X M Y S hE hK94 hc hf
set_option maxHeartbeats 1000000 in
theorem c_f_L_law_b252 {b L : Nat} {xs : Nat → Int32} {F Z : Nat} {Q : State → Prop} {k0 n0 : Nat} {c0 : Nat} {Γ : Ga} {D : DD} {B : Nat} {r : Int32} {s' : St} (X : Cx Γ RL cL_law 19 D B room_1) (M : RLe room_1 Z k0 n0 c0 807 16594) (Y : Xy Γ B) (S : SX Γ B b L xs) (hE : ∀ {s : St} {v : Int32} {pc : Nat} {lv : List (Nat × Value)}, Hc c0 Z s → decode cL_law pc = .ok (.ireturn, 1) → some (v, s) = some (r, s') → V Γ D B true 19 Q (kg k0 c0 s) (ng n0 c0 s) s pc lv [.int v]) {K94 : St → Int32 → Int32 → Option (Int32 × St)} (hK94 : ∀ {s : St} {l8 : Int32} {l9 : Int32}, Hc c0 Z s → K94 s l8 l9 = some (r, s') → V Γ D B true 19 Q (kg k0 c0 s) (ng n0 c0 s) s 94 [(0, .ref b), (1, .ref (B + 0)), (2, .ref (B + 39)), (3, .ref (B + 40)), (4, .ref (B + 41)), (5, .ref (B + 42)), (6, .ref (B + 43)), (7, .ref (B + 44)), (8, .int l8), (9, .int l9)] []) {s : St} {l9 : Int32} {l10 : Int32} {l11 : Int32} {t0 : Int32} {t1 : Int32} {t2 : Int32} (hc : Hc c0 Z s) (hf : f_L_law_b252 L xs F Z K94 s l9 l10 l11 t0 t1 t2 = some (r, s')) : V Γ D B true 19 Q (kg k0 c0 s) (ng n0 c0 s) s 252 [(0, .ref b), (1, .ref (B + 0)), (2, .ref (B + 39)), (3, .ref (B + 40)), (4, .ref (B + 41)), (5, .ref (B + 42)), (6, .ref (B + 43)), (7, .ref (B + 44)), (9, .int l9), (10, .int l10), (11, .int l11)] [.int t2, .int t1, .int t0] := by
  unfold f_L_law_b252 at hf
  refine ifz hf (fun hne hf => ?_)
  refine r_irem (pc := 252) X dL_law_252 hne ?_
  refine r_isub (pc := 253) X dL_law_253 ?_
  refine r_istore (pc := 254) (lv' := [(0, .ref b), (1, .ref (B + 0)), (2, .ref (B + 39)), (3, .ref (B + 40)), (4, .ref (B + 41)), (5, .ref (B + 42)), (6, .ref (B + 43)), (7, .ref (B + 44)), (9, .int l9), (10, .int l10), (11, .int l11), (15, .int (t0 - (t1 - t1 / t2 * t2)))]) X dL_law_254 (by decide) [1, 2, 3, 4, 5, 6, 7, 8, 9, 10, 11, 0] rfl ?_
  refine r_aload_n (x := some 40) (pc := 256) X dL_law_256 3 rfl ?_
  refine r_aload_n (x := some 39) (pc := 257) X dL_law_257 2 rfl ?_
  refine r_iconst (v := 2) (pc := 258) X dL_law_258 (by decide) ?_
  refine b_iald (pc := 259) X ce_39 dL_law_259 hf (fun j98 hf => ?_)
  refine r_iload (pc := 260) X dL_law_260 11 rfl ?_
  refine y_iast (pc := 262) X ce_40 (fun _ => ca_40 _ _) dL_law_262 hf (fun j99 s100 e9 hf => ?_)
  have hc := hc.eq e9
  refine r_aload_n (x := some 39) (pc := 263) X dL_law_263 2 rfl ?_
  refine r_iconst (v := 2) (pc := 264) X dL_law_264 (by decide) ?_
  refine r_dup2 (pc := 265) X dL_law_265 rfl rfl ?_
  refine b_iald (pc := 266) X ce_39 dL_law_266 hf (fun j101 hf => ?_)
  refine r_iconst (v := 1) (pc := 267) X dL_law_267 (by decide) ?_
  refine r_iadd (pc := 268) X dL_law_268 ?_
  refine y_iast (pc := 269) X ce_39 (fun _ => ca_39 _ _) dL_law_269 hf (fun j102 s103 e9 hf => ?_)
  have hc := hc.eq e9
  refine r_aload_n (x := some 0) (pc := 270) X dL_law_270 1 rfl ?_
  refine r_iconst (v := 2) (pc := 271) X dL_law_271 (by decide) ?_
  refine r_iload (pc := 272) X dL_law_272 10 rfl ?_
  refine r_bipush (v := 8) (pc := 274) X dL_law_274 (by decide) ?_
  refine r_irem (pc := 276) X dL_law_276 (by decide) ?_
  refine r_iload (pc := 277) X dL_law_277 10 rfl ?_
  refine r_bipush (v := 8) (pc := 279) X dL_law_279 (by decide) ?_
  refine r_idiv (pc := 281) X dL_law_281 (by decide) ?_
  refine r_bipush (v := 6) (pc := 282) X dL_law_282 (by decide) ?_
  refine r_irem (pc := 284) X dL_law_284 (by decide) ?_
  refine r_iload (pc := 285) X dL_law_285 10 rfl ?_
  refine r_bipush (v := 48) (pc := 287) X dL_law_287 (by decide) ?_
  refine r_idiv (pc := 289) X dL_law_289 (by decide) ?_
  refine r_iload (pc := 290) X dL_law_290 10 rfl ?_
  refine r_iconst (v := 3) (pc := 292) X dL_law_292 (by decide) ?_
  refine r_irem (pc := 293) X dL_law_293 (by decide) ?_
  refine b_if_ne (tgt := 303) (pc := 294) X dL_law_294 (by decide) hf (fun hf => ?_) (fun hf => ?_)
  · refine r_sipush (v := 2001) (pc := 297) X dL_law_297 (by decide) ?_
    refine r_goto (tgt := 305) (pc := 300) X dL_law_300 (by decide) ?_
    refine r_irem (pc := 305) X dL_law_305 (by decide) ?_
    refine r_iload (pc := 306) X dL_law_306 10 rfl ?_
    refine r_iconst (v := 3) (pc := 308) X dL_law_308 (by decide) ?_
    refine r_irem (pc := 309) X dL_law_309 (by decide) ?_
    refine b_if_ne (tgt := 319) (pc := 310) X dL_law_310 (by decide) hf (fun hf => ?_) (fun hf => ?_)
    · refine r_sipush (v := 1000) (pc := 313) X dL_law_313 (by decide) ?_
      refine r_goto (tgt := 321) (pc := 316) X dL_law_316 (by decide) ?_
      exact c_f_L_law_b321 X M Y S hE hK94 hc hf
    · refine r_bipush (v := 10) (pc := 319) X dL_law_319 (by decide) ?_
      exact c_f_L_law_b321 X M Y S hE hK94 hc hf
  · refine r_bipush (v := 21) (pc := 303) X dL_law_303 (by decide) ?_
    refine r_irem (pc := 305) X dL_law_305 (by decide) ?_
    refine r_iload (pc := 306) X dL_law_306 10 rfl ?_
    refine r_iconst (v := 3) (pc := 308) X dL_law_308 (by decide) ?_
    refine r_irem (pc := 309) X dL_law_309 (by decide) ?_
    refine b_if_ne (tgt := 319) (pc := 310) X dL_law_310 (by decide) hf (fun hf => ?_) (fun hf => ?_)
    · refine r_sipush (v := 1000) (pc := 313) X dL_law_313 (by decide) ?_
      refine r_goto (tgt := 321) (pc := 316) X dL_law_316 (by decide) ?_
      exact c_f_L_law_b321 X M Y S hE hK94 hc hf
    · refine r_bipush (v := 10) (pc := 319) X dL_law_319 (by decide) ?_
      exact c_f_L_law_b321 X M Y S hE hK94 hc hf
set_option maxHeartbeats 1000000 in
theorem c_f_L_law_b208 {b L : Nat} {xs : Nat → Int32} {F Z : Nat} {Q : State → Prop} {k0 n0 : Nat} {c0 : Nat} {Γ : Ga} {D : DD} {B : Nat} {r : Int32} {s' : St} (X : Cx Γ RL cL_law 19 D B room_1) (M : RLe room_1 Z k0 n0 c0 807 16594) (Y : Xy Γ B) (S : SX Γ B b L xs) (hE : ∀ {s : St} {v : Int32} {pc : Nat} {lv : List (Nat × Value)}, Hc c0 Z s → decode cL_law pc = .ok (.ireturn, 1) → some (v, s) = some (r, s') → V Γ D B true 19 Q (kg k0 c0 s) (ng n0 c0 s) s pc lv [.int v]) {K94 : St → Int32 → Int32 → Option (Int32 × St)} (hK94 : ∀ {s : St} {l8 : Int32} {l9 : Int32}, Hc c0 Z s → K94 s l8 l9 = some (r, s') → V Γ D B true 19 Q (kg k0 c0 s) (ng n0 c0 s) s 94 [(0, .ref b), (1, .ref (B + 0)), (2, .ref (B + 39)), (3, .ref (B + 40)), (4, .ref (B + 41)), (5, .ref (B + 42)), (6, .ref (B + 43)), (7, .ref (B + 44)), (8, .int l8), (9, .int l9)] []) {s : St} {l8 : Int32} {l9 : Int32} {l10 : Int32} {l11 : Int32} {l12 : Int32} {l13 : Int32} {l14 : Int32} (hc : Hc c0 Z s) (hf : f_L_law_b208 L xs F Z K94 s l8 l9 l10 l11 l12 l13 l14 = some (r, s')) : V Γ D B true 19 Q (kg k0 c0 s) (ng n0 c0 s) s 208 [(0, .ref b), (1, .ref (B + 0)), (2, .ref (B + 39)), (3, .ref (B + 40)), (4, .ref (B + 41)), (5, .ref (B + 42)), (6, .ref (B + 43)), (7, .ref (B + 44)), (8, .int l8), (9, .int l9), (10, .int l10), (11, .int l11), (12, .int l12), (13, .int l13), (14, .int l14)] [] := by
  unfold f_L_law_b208 at hf
  refine r_iload (pc := 208) X dL_law_208 12 rfl ?_
  refine r_bipush (v := 8) (pc := 210) X dL_law_210 (by decide) ?_
  refine b_icmp_ge (tgt := 345) (pc := 212) X dL_law_212 (by decide) hf (fun hf => ?_) (fun hf => ?_)
  · exact c_f_L_law_b345 X M Y S hE hK94 hc hf
  · refine r_aload_n (x := some 39) (pc := 215) X dL_law_215 2 rfl ?_
    refine r_iconst (v := 2) (pc := 216) X dL_law_216 (by decide) ?_
    refine b_iald (pc := 217) X ce_39 dL_law_217 hf (fun j93 hf => ?_)
    refine r_bipush (v := 60) (pc := 218) X dL_law_218 (by decide) ?_
    refine b_icmp_ge (tgt := 345) (pc := 220) X dL_law_220 (by decide) hf (fun hf => ?_) (fun hf => ?_)
    · exact c_f_L_law_b345 X M Y S hE hK94 hc hf
    · refine r_aload_n (x := some 0) (pc := 223) X dL_law_223 1 rfl ?_
      refine bnd hf (fun x94 h94 hf => ?_)
      refine y_callVi (As := []) (st := []) (pc := 224) X M hc (c_f_P_now h94) rfl w_317 w_318 w_319 w_36 w_320 hdV_X10_now (Rc.s rfl ce_0) (by decide) (Nat.le_of_ble_eq_true rfl) dL_law_224 rfl hf (fun s95 hc hf => ?_)
      refine r_iload (pc := 227) X dL_law_227 11 rfl ?_
      refine r_bipush (v := 7) (pc := 229) X dL_law_229 (by decide) ?_
      refine r_idiv (pc := 231) X dL_law_231 (by decide) ?_
      refine r_aload_n (x := some 0) (pc := 232) X dL_law_232 1 rfl ?_
      refine bnd hf (fun x96 h96 hf => ?_)
      refine y_callVi (As := []) (st := [.int (l11 / 7), .int x94.1]) (pc := 233) X M hc (c_f_P_now h96) rfl w_317 w_318 w_319 w_36 w_320 hdV_X10_now (Rc.s rfl ce_0) (by decide) (Nat.le_of_ble_eq_true rfl) dL_law_233 rfl hf (fun s97 hc hf => ?_)
      refine r_bipush (v := 12) (pc := 236) X dL_law_236 (by decide) ?_
      refine b_icmp_ge (tgt := 250) (pc := 238) X dL_law_238 (by decide) hf (fun hf => ?_) (fun hf => ?_)
      · refine r_bipush (v := 12) (pc := 250) X dL_law_250 (by decide) ?_
        refine r_forget (lv' := [(0, .ref b), (1, .ref (B + 0)), (2, .ref (B + 39)), (3, .ref (B + 40)), (4, .ref (B + 41)), (5, .ref (B + 42)), (6, .ref (B + 43)), (7, .ref (B + 44)), (9, .int l9), (10, .int l10), (11, .int l11)]) [0, 1, 2, 3, 4, 5, 6, 7, 9, 10, 11] rfl ?_
        exact c_f_L_law_b252 X M Y S hE hK94 hc hf
      · refine r_aload_n (x := some 0) (pc := 241) X dL_law_241 1 rfl ?_
        refine bnd hf (fun x106 h106 hf => ?_)
        refine y_callVi (As := []) (st := [.int (l11 / 7), .int x94.1]) (pc := 242) X M hc (c_f_P_now h106) rfl w_317 w_318 w_319 w_36 w_320 hdV_X10_now (Rc.s rfl ce_0) (by decide) (Nat.le_of_ble_eq_true rfl) dL_law_242 rfl hf (fun s107 hc hf => ?_)
        refine r_iconst (v := 1) (pc := 245) X dL_law_245 (by decide) ?_
        refine r_iadd (pc := 246) X dL_law_246 ?_
        refine r_goto (tgt := 252) (pc := 247) X dL_law_247 (by decide) ?_
        refine r_forget (lv' := [(0, .ref b), (1, .ref (B + 0)), (2, .ref (B + 39)), (3, .ref (B + 40)), (4, .ref (B + 41)), (5, .ref (B + 42)), (6, .ref (B + 43)), (7, .ref (B + 44)), (9, .int l9), (10, .int l10), (11, .int l11)]) [0, 1, 2, 3, 4, 5, 6, 7, 9, 10, 11] rfl ?_
        exact c_f_L_law_b252 X M Y S hE hK94 hc hf
set_option maxHeartbeats 1000000 in
theorem c_f_L_law_b153 {b L : Nat} {xs : Nat → Int32} {F Z : Nat} {Q : State → Prop} {k0 n0 : Nat} {c0 : Nat} {Γ : Ga} {D : DD} {B : Nat} {r : Int32} {s' : St} (X : Cx Γ RL cL_law 19 D B room_1) (M : RLe room_1 Z k0 n0 c0 807 16594) (Y : Xy Γ B) (S : SX Γ B b L xs) (hE : ∀ {s : St} {v : Int32} {pc : Nat} {lv : List (Nat × Value)}, Hc c0 Z s → decode cL_law pc = .ok (.ireturn, 1) → some (v, s) = some (r, s') → V Γ D B true 19 Q (kg k0 c0 s) (ng n0 c0 s) s pc lv [.int v]) {K94 : St → Int32 → Int32 → Option (Int32 × St)} (hK94 : ∀ {s : St} {l8 : Int32} {l9 : Int32}, Hc c0 Z s → K94 s l8 l9 = some (r, s') → V Γ D B true 19 Q (kg k0 c0 s) (ng n0 c0 s) s 94 [(0, .ref b), (1, .ref (B + 0)), (2, .ref (B + 39)), (3, .ref (B + 40)), (4, .ref (B + 41)), (5, .ref (B + 42)), (6, .ref (B + 43)), (7, .ref (B + 44)), (8, .int l8), (9, .int l9)] []) {s : St} {l8 : Int32} {l9 : Int32} {l10 : Int32} {l11 : Int32} {l12 : Int32} {l13 : Int32} {t0 : Int32} (hc : Hc c0 Z s) (hf : f_L_law_b153 L xs F Z K94 s l8 l9 l10 l11 l12 l13 t0 = some (r, s')) : V Γ D B true 19 Q (kg k0 c0 s) (ng n0 c0 s) s 153 [(0, .ref b), (1, .ref (B + 0)), (2, .ref (B + 39)), (3, .ref (B + 40)), (4, .ref (B + 41)), (5, .ref (B + 42)), (6, .ref (B + 43)), (7, .ref (B + 44)), (8, .int l8), (9, .int l9), (10, .int l10), (11, .int l11), (12, .int l12), (13, .int l13)] [.int t0] := by
  unfold f_L_law_b153 at hf
  refine r_istore (pc := 153) (lv' := [(0, .ref b), (1, .ref (B + 0)), (2, .ref (B + 39)), (3, .ref (B + 40)), (4, .ref (B + 41)), (5, .ref (B + 42)), (6, .ref (B + 43)), (7, .ref (B + 44)), (8, .int l8), (9, .int l9), (10, .int l10), (11, .int l11), (12, .int l12), (13, .int l13), (14, .int t0)]) X dL_law_153 (by decide) [1, 2, 3, 4, 5, 6, 7, 8, 9, 10, 11, 12, 13, 14, 0] rfl ?_
  refine r_aload_n (x := some 39) (pc := 155) X dL_law_155 2 rfl ?_
  refine r_iconst (v := 0) (pc := 156) X dL_law_156 (by decide) ?_
  refine b_iald (pc := 157) X ce_39 dL_law_157 hf (fun j6 hf => ?_)
  refine r_iconst (v := 2) (pc := 158) X dL_law_158 (by decide) ?_
  refine b_icmp_lt (tgt := 174) (pc := 159) X dL_law_159 (by decide) hf (fun hf => ?_) (fun hf => ?_)
  · refine r_forget (lv' := [(0, .ref b), (1, .ref (B + 0)), (2, .ref (B + 39)), (3, .ref (B + 40)), (4, .ref (B + 41)), (5, .ref (B + 42)), (6, .ref (B + 43)), (7, .ref (B + 44)), (9, .int l9), (10, .int l10), (11, .int l11)]) [0, 1, 2, 3, 4, 5, 6, 7, 9, 10, 11] rfl ?_
    exact c_f_L_law_b174 X M Y S hE hK94 hc hf
  · refine r_iload (pc := 162) X dL_law_162 12 rfl ?_
    refine b_if_ne (tgt := 208) (pc := 164) X dL_law_164 (by decide) hf (fun hf => ?_) (fun hf => ?_)
    · refine r_aload_n (x := some 39) (pc := 167) X dL_law_167 2 rfl ?_
      refine r_iconst (v := 0) (pc := 168) X dL_law_168 (by decide) ?_
      refine b_iald (pc := 169) X ce_39 dL_law_169 hf (fun j23 hf => ?_)
      refine r_iconst (v := 5) (pc := 170) X dL_law_170 (by decide) ?_
      refine b_icmp_ge (tgt := 208) (pc := 171) X dL_law_171 (by decide) hf (fun hf => ?_) (fun hf => ?_)
      · exact c_f_L_law_b208 X M Y S hE hK94 hc hf
      · refine r_forget (lv' := [(0, .ref b), (1, .ref (B + 0)), (2, .ref (B + 39)), (3, .ref (B + 40)), (4, .ref (B + 41)), (5, .ref (B + 42)), (6, .ref (B + 43)), (7, .ref (B + 44)), (9, .int l9), (10, .int l10), (11, .int l11)]) [0, 1, 2, 3, 4, 5, 6, 7, 9, 10, 11] rfl ?_
        exact c_f_L_law_b174 X M Y S hE hK94 hc hf
    · exact c_f_L_law_b208 X M Y S hE hK94 hc hf
set_option maxHeartbeats 1000000 in
theorem c_f_L_law_b94 {b L : Nat} {xs : Nat → Int32} {F Z : Nat} {Q : State → Prop} {k0 n0 : Nat} {c0 : Nat} {Γ : Ga} {D : DD} {B : Nat} {r : Int32} {s' : St} (X : Cx Γ RL cL_law 19 D B room_1) (M : RLe room_1 Z k0 n0 c0 807 16594) (Y : Xy Γ B) (S : SX Γ B b L xs) (hE : ∀ {s : St} {v : Int32} {pc : Nat} {lv : List (Nat × Value)}, Hc c0 Z s → decode cL_law pc = .ok (.ireturn, 1) → some (v, s) = some (r, s') → V Γ D B true 19 Q (kg k0 c0 s) (ng n0 c0 s) s pc lv [.int v]) : ∀ (n : Nat) {s : St} {l8 : Int32} {l9 : Int32}, Hc c0 Z s → f_L_law_b94 L xs F Z n s l8 l9 = some (r, s') → V Γ D B true 19 Q (kg k0 c0 s) (ng n0 c0 s) s 94 [(0, .ref b), (1, .ref (B + 0)), (2, .ref (B + 39)), (3, .ref (B + 40)), (4, .ref (B + 41)), (5, .ref (B + 42)), (6, .ref (B + 43)), (7, .ref (B + 44)), (8, .int l8), (9, .int l9)] [] := by
  intro n
  induction n with
  | zero => intro s l8 l9 hc hf; rw [f_L_law_b94] at hf; cases hf
  | succ n ih =>
    intro s l8 l9 hc hf
    rw [f_L_law_b94] at hf
    refine r_iload (pc := 94) X dL_law_94 9 rfl ?_
    refine r_bipush (v := 100) (pc := 96) X dL_law_96 (by decide) ?_
    refine b_icmp_ge (tgt := 1221) (pc := 98) X dL_law_98 (by decide) hf (fun hf => ?_) (fun hf => ?_)
    · refine r_iload (pc := 1221) X dL_law_1221 8 rfl ?_
      exact hE hc dL_law_1223 hf
    · refine r_iload (pc := 101) X dL_law_101 8 rfl ?_
      refine b_if_eq (tgt := 1221) (pc := 103) X dL_law_103 (by decide) hf (fun hf => ?_) (fun hf => ?_)
      · refine r_iload (pc := 1221) X dL_law_1221 8 rfl ?_
        exact hE hc dL_law_1223 hf
      · refine s_aload_n (pc := 106) X dL_law_106 0 rfl ?_
        refine r_iload (pc := 107) X dL_law_107 9 rfl ?_
        refine bnd hf (fun x2 h2 hf => ?_)
        refine ifo hf (fun hz hf => ?_)
        refine y_callTSi (As := [.ref b, .int l9]) (st := []) (pc := 109) X M Y S hc (c_f_L_dice h2 hc.2) rfl w_432 w_433 w_35 w_434 hdS_L_dice (by decide) hz (Nat.le_of_ble_eq_true rfl) dL_law_109 rfl (fun hc => ?_)
        refine r_istore (pc := 112) (lv' := [(0, .ref b), (1, .ref (B + 0)), (2, .ref (B + 39)), (3, .ref (B + 40)), (4, .ref (B + 41)), (5, .ref (B + 42)), (6, .ref (B + 43)), (7, .ref (B + 44)), (8, .int l8), (9, .int l9), (10, .int x2.1)]) X dL_law_112 (by decide) [1, 2, 3, 4, 5, 6, 7, 8, 9, 10, 0] rfl ?_
        refine r_iload (pc := 114) X dL_law_114 10 rfl ?_
        refine r_bipush (v := 32) (pc := 116) X dL_law_116 (by decide) ?_
        refine r_idiv (pc := 118) X dL_law_118 (by decide) ?_
        refine r_istore (pc := 119) (lv' := [(0, .ref b), (1, .ref (B + 0)), (2, .ref (B + 39)), (3, .ref (B + 40)), (4, .ref (B + 41)), (5, .ref (B + 42)), (6, .ref (B + 43)), (7, .ref (B + 44)), (8, .int l8), (9, .int l9), (10, .int x2.1), (11, .int (x2.1 / 32))]) X dL_law_119 (by decide) [1, 2, 3, 4, 5, 6, 7, 8, 9, 10, 11, 0] rfl ?_
        refine r_iload (pc := 121) X dL_law_121 10 rfl ?_
        refine r_bipush (v := 32) (pc := 123) X dL_law_123 (by decide) ?_
        refine r_irem (pc := 125) X dL_law_125 (by decide) ?_
        refine r_istore (pc := 126) (lv' := [(0, .ref b), (1, .ref (B + 0)), (2, .ref (B + 39)), (3, .ref (B + 40)), (4, .ref (B + 41)), (5, .ref (B + 42)), (6, .ref (B + 43)), (7, .ref (B + 44)), (8, .int l8), (9, .int l9), (10, .int x2.1), (11, .int (x2.1 / 32)), (12, .int (x2.1 - x2.1 / 32 * 32))]) X dL_law_126 (by decide) [1, 2, 3, 4, 5, 6, 7, 8, 9, 10, 11, 12, 0] rfl ?_
        refine r_aload_n (x := some 0) (pc := 128) X dL_law_128 1 rfl ?_
        refine bnd hf (fun x3 h3 hf => ?_)
        refine y_callVi (As := []) (st := []) (pc := 129) X M hc (c_f_P_now h3) rfl w_317 w_318 w_319 w_36 w_320 hdV_X10_now (Rc.s rfl ce_0) (by decide) (Nat.le_of_ble_eq_true rfl) dL_law_129 rfl hf (fun s4 hc hf => ?_)
        refine r_bipush (v := 8) (pc := 132) X dL_law_132 (by decide) ?_
        refine r_idiv (pc := 134) X dL_law_134 (by decide) ?_
        refine r_istore (pc := 135) (lv' := [(0, .ref b), (1, .ref (B + 0)), (2, .ref (B + 39)), (3, .ref (B + 40)), (4, .ref (B + 41)), (5, .ref (B + 42)), (6, .ref (B + 43)), (7, .ref (B + 44)), (8, .int l8), (9, .int l9), (10, .int x2.1), (11, .int (x2.1 / 32)), (12, .int (x2.1 - x2.1 / 32 * 32)), (13, .int (x3.1 / 8))]) X dL_law_135 (by decide) [1, 2, 3, 4, 5, 6, 7, 8, 9, 10, 11, 12, 13, 0] rfl ?_
        refine r_aload_n (x := some 39) (pc := 137) X dL_law_137 2 rfl ?_
        refine r_iconst (v := 0) (pc := 138) X dL_law_138 (by decide) ?_
        refine b_iald (pc := 139) X ce_39 dL_law_139 hf (fun j5 hf => ?_)
        refine b_if_ne (tgt := 147) (pc := 140) X dL_law_140 (by decide) hf (fun hf => ?_) (fun hf => ?_)
        · refine r_iconst (v := 0) (pc := 143) X dL_law_143 (by decide) ?_
          refine r_goto (tgt := 153) (pc := 144) X dL_law_144 (by decide) ?_
          exact c_f_L_law_b153 X M Y S hE (fun hc hf => ih hc hf) hc hf
        · refine r_iload (pc := 147) X dL_law_147 11 rfl ?_
          refine r_aload_n (x := some 39) (pc := 149) X dL_law_149 2 rfl ?_
          refine r_iconst (v := 0) (pc := 150) X dL_law_150 (by decide) ?_
          refine b_iald (pc := 151) X ce_39 dL_law_151 hf (fun j108 hf => ?_)
          refine ifz hf (fun hne hf => ?_)
          refine r_irem (pc := 152) X dL_law_152 hne ?_
          exact c_f_L_law_b153 X M Y S hE (fun hc hf => ih hc hf) hc hf
set_option maxHeartbeats 1000000 in
theorem c_f_L_law {b L : Nat} {xs : Nat → Int32} {F Z : Nat} {Q : State → Prop} {k0 n0 : Nat} {c0 : Nat} {Γ : Ga} {D : DD} {B : Nat} {r : Int32} {s' : St} (X : Cx Γ RL cL_law 19 D B room_1) (M : RLe room_1 Z k0 n0 c0 807 16594) (Y : Xy Γ B) (S : SX Γ B b L xs) (hE : ∀ {s : St} {v : Int32} {pc : Nat} {lv : List (Nat × Value)}, Hc c0 Z s → decode cL_law pc = .ok (.ireturn, 1) → some (v, s) = some (r, s') → V Γ D B true 19 Q (kg k0 c0 s) (ng n0 c0 s) s pc lv [.int v]) {s : St} (hc : Hc c0 Z s) (hf : f_L_law L xs F Z s = some (r, s')) : V Γ D B true 19 Q (kg k0 c0 s) (ng n0 c0 s) s 41 [(0, .ref b), (1, .ref (B + 0)), (2, .ref (B + 39)), (3, .ref (B + 40)), (4, .ref (B + 41)), (5, .ref (B + 42)), (6, .ref (B + 43)), (7, .ref (B + 44))] [] := by
  unfold f_L_law at hf
  refine r_aload_n (x := some 0) (pc := 41) X dL_law_41 1 rfl ?_
  refine r_aload (x := some 42) (pc := 42) X dL_law_42 5 rfl ?_
  refine r_aload_n (x := some 39) (pc := 44) X dL_law_44 2 rfl ?_
  refine r_iconst (v := 0) (pc := 45) X dL_law_45 (by decide) ?_
  refine bnd hf (fun x1 h1 hf => ?_)
  refine ifo hf (fun hz hf => ?_)
  refine y_callXSi (As := [.ref (B + 0), .ref (B + 42), .ref (B + 39), .int 0]) (st := []) (pc := 46) X M Y hc (c_f_L_isRefused h1 hc.2) rfl w_1019 w_1020 w_35 w_1021 hdS_L_isRefused (by decide) hz (Nat.le_of_ble_eq_true rfl) dL_law_46 rfl (fun hc => ?_)
  refine b_if_eq (tgt := 88) (pc := 49) X dL_law_49 (by decide) hf (fun hf => ?_) (fun hf => ?_)
  · refine r_iconst (v := 0) (pc := 88) X dL_law_88 (by decide) ?_
    refine r_istore (pc := 89) (lv' := [(0, .ref b), (1, .ref (B + 0)), (2, .ref (B + 39)), (3, .ref (B + 40)), (4, .ref (B + 41)), (5, .ref (B + 42)), (6, .ref (B + 43)), (7, .ref (B + 44)), (8, .int 0)]) X dL_law_89 (by decide) [1, 2, 3, 4, 5, 6, 7, 8, 0] rfl ?_
    refine r_iconst (v := 0) (pc := 91) X dL_law_91 (by decide) ?_
    refine r_istore (pc := 92) (lv' := [(0, .ref b), (1, .ref (B + 0)), (2, .ref (B + 39)), (3, .ref (B + 40)), (4, .ref (B + 41)), (5, .ref (B + 42)), (6, .ref (B + 43)), (7, .ref (B + 44)), (8, .int 0), (9, .int 0)]) X dL_law_92 (by decide) [1, 2, 3, 4, 5, 6, 7, 8, 9, 0] rfl ?_
    exact c_f_L_law_b94 X M Y S hE _ hc hf
  · refine r_aload_n (x := some 0) (pc := 52) X dL_law_52 1 rfl ?_
    refine r_aload (x := some 42) (pc := 53) X dL_law_53 5 rfl ?_
    refine r_aload_n (x := some 39) (pc := 55) X dL_law_55 2 rfl ?_
    refine r_iconst (v := 1) (pc := 56) X dL_law_56 (by decide) ?_
    refine bnd hf (fun x109 h109 hf => ?_)
    refine ifo hf (fun hz hf => ?_)
    refine y_callXSi (As := [.ref (B + 0), .ref (B + 42), .ref (B + 39), .int 1]) (st := []) (pc := 57) X M Y hc (c_f_L_isRefused h109 hc.2) rfl w_1019 w_1020 w_35 w_1021 hdS_L_isRefused (by decide) hz (Nat.le_of_ble_eq_true rfl) dL_law_57 rfl (fun hc => ?_)
    refine b_if_eq (tgt := 88) (pc := 60) X dL_law_60 (by decide) hf (fun hf => ?_) (fun hf => ?_)
    · refine r_iconst (v := 0) (pc := 88) X dL_law_88 (by decide) ?_
      refine r_istore (pc := 89) (lv' := [(0, .ref b), (1, .ref (B + 0)), (2, .ref (B + 39)), (3, .ref (B + 40)), (4, .ref (B + 41)), (5, .ref (B + 42)), (6, .ref (B + 43)), (7, .ref (B + 44)), (8, .int 0)]) X dL_law_89 (by decide) [1, 2, 3, 4, 5, 6, 7, 8, 0] rfl ?_
      refine r_iconst (v := 0) (pc := 91) X dL_law_91 (by decide) ?_
      refine r_istore (pc := 92) (lv' := [(0, .ref b), (1, .ref (B + 0)), (2, .ref (B + 39)), (3, .ref (B + 40)), (4, .ref (B + 41)), (5, .ref (B + 42)), (6, .ref (B + 43)), (7, .ref (B + 44)), (8, .int 0), (9, .int 0)]) X dL_law_92 (by decide) [1, 2, 3, 4, 5, 6, 7, 8, 9, 0] rfl ?_
      exact c_f_L_law_b94 X M Y S hE _ hc hf
    · refine r_aload_n (x := some 0) (pc := 63) X dL_law_63 1 rfl ?_
      refine bnd hf (fun x110 h110 hf => ?_)
      refine y_callVi (As := []) (st := []) (pc := 64) X M hc (c_f_P_next h110) rfl w_321 w_322 w_323 w_36 w_324 hdV_X10_next (Rc.s rfl ce_0) (by decide) (Nat.le_of_ble_eq_true rfl) dL_law_64 rfl hf (fun s111 hc hf => ?_)
      refine r_iconst (v := -1) (pc := 67) X dL_law_67 (by decide) ?_
      refine b_icmp_ne (tgt := 88) (pc := 68) X dL_law_68 (by decide) hf (fun hf => ?_) (fun hf => ?_)
      · refine r_aload_n (x := some 0) (pc := 71) X dL_law_71 1 rfl ?_
        refine s_aload_n (pc := 72) X dL_law_72 0 rfl ?_
        refine r_aload (x := some 43) (pc := 73) X dL_law_73 6 rfl ?_
        refine r_sipush (v := 300) (pc := 75) X dL_law_75 (by decide) ?_
        refine bnd hf (fun x112 h112 hf => ?_)
        refine ifo hf (fun hz hf => ?_)
        refine y_callTSi (As := [.ref (B + 0), .ref b, .ref (B + 43), .int 300]) (st := []) (pc := 78) X M Y S hc (c_f_L_isText h112 hc.2) rfl w_866 w_867 w_35 w_868 hdS_L_isText (by decide) hz (Nat.le_of_ble_eq_true rfl) dL_law_78 rfl (fun hc => ?_)
        refine b_if_eq (tgt := 88) (pc := 81) X dL_law_81 (by decide) hf (fun hf => ?_) (fun hf => ?_)
        · refine r_iconst (v := 0) (pc := 88) X dL_law_88 (by decide) ?_
          refine r_istore (pc := 89) (lv' := [(0, .ref b), (1, .ref (B + 0)), (2, .ref (B + 39)), (3, .ref (B + 40)), (4, .ref (B + 41)), (5, .ref (B + 42)), (6, .ref (B + 43)), (7, .ref (B + 44)), (8, .int 0)]) X dL_law_89 (by decide) [1, 2, 3, 4, 5, 6, 7, 8, 0] rfl ?_
          refine r_iconst (v := 0) (pc := 91) X dL_law_91 (by decide) ?_
          refine r_istore (pc := 92) (lv' := [(0, .ref b), (1, .ref (B + 0)), (2, .ref (B + 39)), (3, .ref (B + 40)), (4, .ref (B + 41)), (5, .ref (B + 42)), (6, .ref (B + 43)), (7, .ref (B + 44)), (8, .int 0), (9, .int 0)]) X dL_law_92 (by decide) [1, 2, 3, 4, 5, 6, 7, 8, 9, 0] rfl ?_
          exact c_f_L_law_b94 X M Y S hE _ hc hf
        · refine r_iconst (v := 1) (pc := 84) X dL_law_84 (by decide) ?_
          refine r_goto (tgt := 89) (pc := 85) X dL_law_85 (by decide) ?_
          refine r_istore (pc := 89) (lv' := [(0, .ref b), (1, .ref (B + 0)), (2, .ref (B + 39)), (3, .ref (B + 40)), (4, .ref (B + 41)), (5, .ref (B + 42)), (6, .ref (B + 43)), (7, .ref (B + 44)), (8, .int 1)]) X dL_law_89 (by decide) [1, 2, 3, 4, 5, 6, 7, 8, 0] rfl ?_
          refine r_iconst (v := 0) (pc := 91) X dL_law_91 (by decide) ?_
          refine r_istore (pc := 92) (lv' := [(0, .ref b), (1, .ref (B + 0)), (2, .ref (B + 39)), (3, .ref (B + 40)), (4, .ref (B + 41)), (5, .ref (B + 42)), (6, .ref (B + 43)), (7, .ref (B + 44)), (8, .int 1), (9, .int 0)]) X dL_law_92 (by decide) [1, 2, 3, 4, 5, 6, 7, 8, 9, 0] rfl ?_
          exact c_f_L_law_b94 X M Y S hE _ hc hf
      · refine r_iconst (v := 0) (pc := 88) X dL_law_88 (by decide) ?_
        refine r_istore (pc := 89) (lv' := [(0, .ref b), (1, .ref (B + 0)), (2, .ref (B + 39)), (3, .ref (B + 40)), (4, .ref (B + 41)), (5, .ref (B + 42)), (6, .ref (B + 43)), (7, .ref (B + 44)), (8, .int 0)]) X dL_law_89 (by decide) [1, 2, 3, 4, 5, 6, 7, 8, 0] rfl ?_
        refine r_iconst (v := 0) (pc := 91) X dL_law_91 (by decide) ?_
        refine r_istore (pc := 92) (lv' := [(0, .ref b), (1, .ref (B + 0)), (2, .ref (B + 39)), (3, .ref (B + 40)), (4, .ref (B + 41)), (5, .ref (B + 42)), (6, .ref (B + 43)), (7, .ref (B + 44)), (8, .int 0), (9, .int 0)]) X dL_law_92 (by decide) [1, 2, 3, 4, 5, 6, 7, 8, 9, 0] rfl ?_
        exact c_f_L_law_b94 X M Y S hE _ hc hf
