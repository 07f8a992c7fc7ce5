/-! f_L_areShifts -/
theorem dL_areShifts_0 : decode cL_areShifts 0 = .ok (.aload_n 0, 1) := by decide +kernel
theorem dL_areShifts_1 : decode cL_areShifts 1 = .ok (.invokevirtual 103, 3) := by decide +kernel
theorem dL_areShifts_4 : decode cL_areShifts 4 = .ok (.bipush 8, 2) := by decide +kernel
theorem dL_areShifts_6 : decode cL_areShifts 6 = .ok (.idiv, 1) := by decide +kernel
theorem dL_areShifts_7 : decode cL_areShifts 7 = .ok (.istore 4, 2) := by decide +kernel
theorem dL_areShifts_9 : decode cL_areShifts 9 = .ok (.iconst 1, 1) := by decide +kernel
theorem dL_areShifts_10 : decode cL_areShifts 10 = .ok (.istore 5, 2) := by decide +kernel
theorem dL_areShifts_12 : decode cL_areShifts 12 = .ok (.iconst 0, 1) := by decide +kernel
theorem dL_areShifts_13 : decode cL_areShifts 13 = .ok (.istore 6, 2) := by decide +kernel
theorem dL_areShifts_15 : decode cL_areShifts 15 = .ok (.iconst 1, 1) := by decide +kernel
theorem dL_areShifts_16 : decode cL_areShifts 16 = .ok (.istore 7, 2) := by decide +kernel
theorem dL_areShifts_18 : decode cL_areShifts 18 = .ok (.iload 7, 2) := by decide +kernel
theorem dL_areShifts_20 : decode cL_areShifts 20 = .ok (.iload 4, 2) := by decide +kernel
theorem dL_areShifts_22 : decode cL_areShifts 22 = .ok (.if_icmp .gt 82, 3) := by decide +kernel
theorem dL_areShifts_25 : decode cL_areShifts 25 = .ok (.iload 5, 2) := by decide +kernel
theorem dL_areShifts_27 : decode cL_areShifts 27 = .ok (.ifCond .eq 77, 3) := by decide +kernel
theorem dL_areShifts_30 : decode cL_areShifts 30 = .ok (.aload_n 0, 1) := by decide +kernel
theorem dL_areShifts_31 : decode cL_areShifts 31 = .ok (.iload 7, 2) := by decide +kernel
theorem dL_areShifts_33 : decode cL_areShifts 33 = .ok (.invokevirtual 69, 3) := by decide +kernel
theorem dL_areShifts_36 : decode cL_areShifts 36 = .ok (.istore 8, 2) := by decide +kernel
theorem dL_areShifts_38 : decode cL_areShifts 38 = .ok (.iload 8, 2) := by decide +kernel
theorem dL_areShifts_40 : decode cL_areShifts 40 = .ok (.iconst (-1), 1) := by decide +kernel
theorem dL_areShifts_41 : decode cL_areShifts 41 = .ok (.if_icmp .lt 32, 3) := by decide +kernel
theorem dL_areShifts_44 : decode cL_areShifts 44 = .ok (.iload 8, 2) := by decide +kernel
theorem dL_areShifts_46 : decode cL_areShifts 46 = .ok (.aload_n 2, 1) := by decide +kernel
theorem dL_areShifts_47 : decode cL_areShifts 47 = .ok (.iconst 0, 1) := by decide +kernel
theorem dL_areShifts_48 : decode cL_areShifts 48 = .ok (.iaload, 1) := by decide +kernel
theorem dL_areShifts_49 : decode cL_areShifts 49 = .ok (.if_icmp .ge 24, 3) := by decide +kernel
theorem dL_areShifts_52 : decode cL_areShifts 52 = .ok (.iload 8, 2) := by decide +kernel
theorem dL_areShifts_54 : decode cL_areShifts 54 = .ok (.ifCond .lt 15, 3) := by decide +kernel
theorem dL_areShifts_57 : decode cL_areShifts 57 = .ok (.aload_n 1, 1) := by decide +kernel
theorem dL_areShifts_58 : decode cL_areShifts 58 = .ok (.iload 7, 2) := by decide +kernel
theorem dL_areShifts_60 : decode cL_areShifts 60 = .ok (.iaload, 1) := by decide +kernel
theorem dL_areShifts_61 : decode cL_areShifts 61 = .ok (.iload 8, 2) := by decide +kernel
theorem dL_areShifts_63 : decode cL_areShifts 63 = .ok (.ishr, 1) := by decide +kernel
theorem dL_areShifts_64 : decode cL_areShifts 64 = .ok (.iconst 1, 1) := by decide +kernel
theorem dL_areShifts_65 : decode cL_areShifts 65 = .ok (.iand, 1) := by decide +kernel
theorem dL_areShifts_66 : decode cL_areShifts 66 = .ok (.ifCond .ne 7, 3) := by decide +kernel
theorem dL_areShifts_69 : decode cL_areShifts 69 = .ok (.iconst 1, 1) := by decide +kernel
theorem dL_areShifts_70 : decode cL_areShifts 70 = .ok (.goto 4, 3) := by decide +kernel
theorem dL_areShifts_73 : decode cL_areShifts 73 = .ok (.iconst 0, 1) := by decide +kernel
theorem dL_areShifts_74 : decode cL_areShifts 74 = .ok (.istore 5, 2) := by decide +kernel
theorem dL_areShifts_76 : decode cL_areShifts 76 = .ok (.iload 6, 2) := by decide +kernel
theorem dL_areShifts_78 : decode cL_areShifts 78 = .ok (.iload 8, 2) := by decide +kernel
theorem dL_areShifts_80 : decode cL_areShifts 80 = .ok (.ifCond .lt 14, 3) := by decide +kernel
theorem dL_areShifts_83 : decode cL_areShifts 83 = .ok (.iload 7, 2) := by decide +kernel
theorem dL_areShifts_85 : decode cL_areShifts 85 = .ok (.iconst 3, 1) := by decide +kernel
theorem dL_areShifts_86 : decode cL_areShifts 86 = .ok (.irem, 1) := by decide +kernel
theorem dL_areShifts_87 : decode cL_areShifts 87 = .ok (.ifCond .ne 7, 3) := by decide +kernel
theorem dL_areShifts_90 : decode cL_areShifts 90 = .ok (.iconst 1, 1) := by decide +kernel
theorem dL_areShifts_91 : decode cL_areShifts 91 = .ok (.goto 4, 3) := by decide +kernel
theorem dL_areShifts_94 : decode cL_areShifts 94 = .ok (.iconst 0, 1) := by decide +kernel
theorem dL_areShifts_95 : decode cL_areShifts 95 = .ok (.iadd, 1) := by decide +kernel
theorem dL_areShifts_96 : decode cL_areShifts 96 = .ok (.istore 6, 2) := by decide +kernel
theorem dL_areShifts_98 : decode cL_areShifts 98 = .ok (.iinc 7 1, 3) := by decide +kernel
theorem dL_areShifts_101 : decode cL_areShifts 101 = .ok (.goto (-83), 3) := by decide +kernel
theorem dL_areShifts_104 : decode cL_areShifts 104 = .ok (.iconst 0, 1) := by decide +kernel
theorem dL_areShifts_105 : decode cL_areShifts 105 = .ok (.istore 7, 2) := by decide +kernel
theorem dL_areShifts_107 : decode cL_areShifts 107 = .ok (.iconst 0, 1) := by decide +kernel
theorem dL_areShifts_108 : decode cL_areShifts 108 = .ok (.istore 8, 2) := by decide +kernel
theorem dL_areShifts_110 : decode cL_areShifts 110 = .ok (.iload 8, 2) := by decide +kernel
theorem dL_areShifts_112 : decode cL_areShifts 112 = .ok (.aload_n 2, 1) := by decide +kernel
theorem dL_areShifts_113 : decode cL_areShifts 113 = .ok (.iconst 0, 1) := by decide +kernel
theorem dL_areShifts_114 : decode cL_areShifts 114 = .ok (.iaload, 1) := by decide +kernel
theorem dL_areShifts_115 : decode cL_areShifts 115 = .ok (.if_icmp .ge 73, 3) := by decide +kernel
theorem dL_areShifts_118 : decode cL_areShifts 118 = .ok (.iload 6, 2) := by decide +kernel
theorem dL_areShifts_120 : decode cL_areShifts 120 = .ok (.aload_n 0, 1) := by decide +kernel
theorem dL_areShifts_121 : decode cL_areShifts 121 = .ok (.iload 8, 2) := by decide +kernel
theorem dL_areShifts_123 : decode cL_areShifts 123 = .ok (.invokevirtual 72, 3) := by decide +kernel
theorem dL_areShifts_126 : decode cL_areShifts 126 = .ok (.isub, 1) := by decide +kernel
theorem dL_areShifts_127 : decode cL_areShifts 127 = .ok (.istore 6, 2) := by decide +kernel
theorem dL_areShifts_129 : decode cL_areShifts 129 = .ok (.iload 5, 2) := by decide +kernel
theorem dL_areShifts_131 : decode cL_areShifts 131 = .ok (.ifCond .eq 18, 3) := by decide +kernel
theorem dL_areShifts_134 : decode cL_areShifts 134 = .ok (.aload_n 0, 1) := by decide +kernel
theorem dL_areShifts_135 : decode cL_areShifts 135 = .ok (.iload 8, 2) := by decide +kernel
theorem dL_areShifts_137 : decode cL_areShifts 137 = .ok (.iload 8, 2) := by decide +kernel
theorem dL_areShifts_139 : decode cL_areShifts 139 = .ok (.invokevirtual 75, 3) := by decide +kernel
theorem dL_areShifts_142 : decode cL_areShifts 142 = .ok (.ifCond .ne 7, 3) := by decide +kernel
theorem dL_areShifts_145 : decode cL_areShifts 145 = .ok (.iconst 1, 1) := by decide +kernel
theorem dL_areShifts_146 : decode cL_areShifts 146 = .ok (.goto 4, 3) := by decide +kernel
theorem dL_areShifts_149 : decode cL_areShifts 149 = .ok (.iconst 0, 1) := by decide +kernel
theorem dL_areShifts_150 : decode cL_areShifts 150 = .ok (.istore 5, 2) := by decide +kernel
theorem dL_areShifts_152 : decode cL_areShifts 152 = .ok (.iconst 0, 1) := by decide +kernel
theorem dL_areShifts_153 : decode cL_areShifts 153 = .ok (.istore 9, 2) := by decide +kernel
theorem dL_areShifts_155 : decode cL_areShifts 155 = .ok (.iload 9, 2) := by decide +kernel
theorem dL_areShifts_157 : decode cL_areShifts 157 = .ok (.aload_n 2, 1) := by decide +kernel
theorem dL_areShifts_158 : decode cL_areShifts 158 = .ok (.iconst 0, 1) := by decide +kernel
theorem dL_areShifts_159 : decode cL_areShifts 159 = .ok (.iaload, 1) := by decide +kernel
theorem dL_areShifts_160 : decode cL_areShifts 160 = .ok (.if_icmp .ge 22, 3) := by decide +kernel
theorem dL_areShifts_163 : decode cL_areShifts 163 = .ok (.iload 7, 2) := by decide +kernel
theorem dL_areShifts_165 : decode cL_areShifts 165 = .ok (.aload_n 0, 1) := by decide +kernel
theorem dL_areShifts_166 : decode cL_areShifts 166 = .ok (.iload 8, 2) := by decide +kernel
theorem dL_areShifts_168 : decode cL_areShifts 168 = .ok (.iload 9, 2) := by decide +kernel
theorem dL_areShifts_170 : decode cL_areShifts 170 = .ok (.invokevirtual 75, 3) := by decide +kernel
theorem dL_areShifts_173 : decode cL_areShifts 173 = .ok (.iadd, 1) := by decide +kernel
theorem dL_areShifts_174 : decode cL_areShifts 174 = .ok (.istore 7, 2) := by decide +kernel
theorem dL_areShifts_176 : decode cL_areShifts 176 = .ok (.iinc 9 1, 3) := by decide +kernel
theorem dL_areShifts_179 : decode cL_areShifts 179 = .ok (.goto (-24), 3) := by decide +kernel
theorem dL_areShifts_182 : decode cL_areShifts 182 = .ok (.iinc 8 1, 3) := by decide +kernel
theorem dL_areShifts_185 : decode cL_areShifts 185 = .ok (.goto (-75), 3) := by decide +kernel
theorem dL_areShifts_188 : decode cL_areShifts 188 = .ok (.iload 4, 2) := by decide +kernel
theorem dL_areShifts_190 : decode cL_areShifts 190 = .ok (.iconst 1, 1) := by decide +kernel
theorem dL_areShifts_191 : decode cL_areShifts 191 = .ok (.iadd, 1) := by decide +kernel
theorem dL_areShifts_192 : decode cL_areShifts 192 = .ok (.iload_n 3, 1) := by decide +kernel
theorem dL_areShifts_193 : decode cL_areShifts 193 = .ok (.bipush 6, 2) := by decide +kernel
theorem dL_areShifts_195 : decode cL_areShifts 195 = .ok (.irem, 1) := by decide +kernel
theorem dL_areShifts_196 : decode cL_areShifts 196 = .ok (.iadd, 1) := by decide +kernel
theorem dL_areShifts_197 : decode cL_areShifts 197 = .ok (.istore 8, 2) := by decide +kernel
theorem dL_areShifts_199 : decode cL_areShifts 199 = .ok (.aload_n 0, 1) := by decide +kernel
theorem dL_areShifts_200 : decode cL_areShifts 200 = .ok (.iload 8, 2) := by decide +kernel
theorem dL_areShifts_202 : decode cL_areShifts 202 = .ok (.invokevirtual 66, 3) := by decide +kernel
theorem dL_areShifts_205 : decode cL_areShifts 205 = .ok (.istore 9, 2) := by decide +kernel
theorem dL_areShifts_207 : decode cL_areShifts 207 = .ok (.aload_n 0, 1) := by decide +kernel
theorem dL_areShifts_208 : decode cL_areShifts 208 = .ok (.invokevirtual 123, 3) := by decide +kernel
theorem dL_areShifts_211 : decode cL_areShifts 211 = .ok (.istore 10, 2) := by decide +kernel
theorem dL_areShifts_213 : decode cL_areShifts 213 = .ok (.aload_n 0, 1) := by decide +kernel
theorem dL_areShifts_214 : decode cL_areShifts 214 = .ok (.iload 4, 2) := by decide +kernel
theorem dL_areShifts_216 : decode cL_areShifts 216 = .ok (.iconst 1, 1) := by decide +kernel
theorem dL_areShifts_217 : decode cL_areShifts 217 = .ok (.iadd, 1) := by decide +kernel
theorem dL_areShifts_218 : decode cL_areShifts 218 = .ok (.invokevirtual 66, 3) := by decide +kernel
theorem dL_areShifts_221 : decode cL_areShifts 221 = .ok (.istore 11, 2) := by decide +kernel
theorem dL_areShifts_223 : decode cL_areShifts 223 = .ok (.iload 11, 2) := by decide +kernel
theorem dL_areShifts_225 : decode cL_areShifts 225 = .ok (.ifCond .lt 22, 3) := by decide +kernel
theorem dL_areShifts_228 : decode cL_areShifts 228 = .ok (.aload_n 1, 1) := by decide +kernel
theorem dL_areShifts_229 : decode cL_areShifts 229 = .ok (.iload 4, 2) := by decide +kernel
theorem dL_areShifts_231 : decode cL_areShifts 231 = .ok (.iconst 1, 1) := by decide +kernel
theorem dL_areShifts_232 : decode cL_areShifts 232 = .ok (.iadd, 1) := by decide +kernel
theorem dL_areShifts_233 : decode cL_areShifts 233 = .ok (.iaload, 1) := by decide +kernel
theorem dL_areShifts_234 : decode cL_areShifts 234 = .ok (.iload 11, 2) := by decide +kernel
theorem dL_areShifts_236 : decode cL_areShifts 236 = .ok (.ishr, 1) := by decide +kernel
theorem dL_areShifts_237 : decode cL_areShifts 237 = .ok (.iconst 1, 1) := by decide +kernel
theorem dL_areShifts_238 : decode cL_areShifts 238 = .ok (.iand, 1) := by decide +kernel
theorem dL_areShifts_239 : decode cL_areShifts 239 = .ok (.iconst 1, 1) := by decide +kernel
theorem dL_areShifts_240 : decode cL_areShifts 240 = .ok (.if_icmp .ne 7, 3) := by decide +kernel
theorem dL_areShifts_243 : decode cL_areShifts 243 = .ok (.iconst 1, 1) := by decide +kernel
theorem dL_areShifts_244 : decode cL_areShifts 244 = .ok (.goto 4, 3) := by decide +kernel
theorem dL_areShifts_247 : decode cL_areShifts 247 = .ok (.iconst 0, 1) := by decide +kernel
theorem dL_areShifts_248 : decode cL_areShifts 248 = .ok (.istore 12, 2) := by decide +kernel
theorem dL_areShifts_250 : decode cL_areShifts 250 = .ok (.iload 5, 2) := by decide +kernel
theorem dL_areShifts_252 : decode cL_areShifts 252 = .ok (.ifCond .eq 139, 3) := by decide +kernel
theorem dL_areShifts_255 : decode cL_areShifts 255 = .ok (.iload 6, 2) := by decide +kernel
theorem dL_areShifts_257 : decode cL_areShifts 257 = .ok (.ifCond .ne 134, 3) := by decide +kernel
theorem dL_areShifts_260 : decode cL_areShifts 260 = .ok (.iload 7, 2) := by decide +kernel
theorem dL_areShifts_262 : decode cL_areShifts 262 = .ok (.aload_n 2, 1) := by decide +kernel
theorem dL_areShifts_263 : decode cL_areShifts 263 = .ok (.iconst 3, 1) := by decide +kernel
theorem dL_areShifts_264 : decode cL_areShifts 264 = .ok (.iaload, 1) := by decide +kernel
theorem dL_areShifts_265 : decode cL_areShifts 265 = .ok (.if_icmp .ne 126, 3) := by decide +kernel
theorem dL_areShifts_268 : decode cL_areShifts 268 = .ok (.aload_n 0, 1) := by decide +kernel
theorem dL_areShifts_269 : decode cL_areShifts 269 = .ok (.iconst 0, 1) := by decide +kernel
theorem dL_areShifts_270 : decode cL_areShifts 270 = .ok (.invokevirtual 69, 3) := by decide +kernel
theorem dL_areShifts_273 : decode cL_areShifts 273 = .ok (.iconst (-1), 1) := by decide +kernel
theorem dL_areShifts_274 : decode cL_areShifts 274 = .ok (.if_icmp .ne 117, 3) := by decide +kernel
theorem dL_areShifts_277 : decode cL_areShifts 277 = .ok (.iload 9, 2) := by decide +kernel
theorem dL_areShifts_279 : decode cL_areShifts 279 = .ok (.aload_n 2, 1) := by decide +kernel
theorem dL_areShifts_280 : decode cL_areShifts 280 = .ok (.iconst 0, 1) := by decide +kernel
theorem dL_areShifts_281 : decode cL_areShifts 281 = .ok (.iaload, 1) := by decide +kernel
theorem dL_areShifts_282 : decode cL_areShifts 282 = .ok (.ifCond .le 7, 3) := by decide +kernel
theorem dL_areShifts_285 : decode cL_areShifts 285 = .ok (.iconst 0, 1) := by decide +kernel
theorem dL_areShifts_286 : decode cL_areShifts 286 = .ok (.goto 4, 3) := by decide +kernel
theorem dL_areShifts_289 : decode cL_areShifts 289 = .ok (.iconst (-1), 1) := by decide +kernel
theorem dL_areShifts_290 : decode cL_areShifts 290 = .ok (.if_icmp .lt 101, 3) := by decide +kernel
theorem dL_areShifts_293 : decode cL_areShifts 293 = .ok (.iload 9, 2) := by decide +kernel
theorem dL_areShifts_295 : decode cL_areShifts 295 = .ok (.aload_n 2, 1) := by decide +kernel
theorem dL_areShifts_296 : decode cL_areShifts 296 = .ok (.iconst 0, 1) := by decide +kernel
theorem dL_areShifts_297 : decode cL_areShifts 297 = .ok (.iaload, 1) := by decide +kernel
theorem dL_areShifts_298 : decode cL_areShifts 298 = .ok (.ifCond .le 9, 3) := by decide +kernel
theorem dL_areShifts_301 : decode cL_areShifts 301 = .ok (.aload_n 2, 1) := by decide +kernel
theorem dL_areShifts_302 : decode cL_areShifts 302 = .ok (.iconst 0, 1) := by decide +kernel
theorem dL_areShifts_303 : decode cL_areShifts 303 = .ok (.iaload, 1) := by decide +kernel
theorem dL_areShifts_304 : decode cL_areShifts 304 = .ok (.goto 4, 3) := by decide +kernel
theorem dL_areShifts_307 : decode cL_areShifts 307 = .ok (.iconst 0, 1) := by decide +kernel
theorem dL_areShifts_308 : decode cL_areShifts 308 = .ok (.if_icmp .ge 83, 3) := by decide +kernel
theorem dL_areShifts_311 : decode cL_areShifts 311 = .ok (.iload 10, 2) := by decide +kernel
theorem dL_areShifts_313 : decode cL_areShifts 313 = .ok (.ifCond .ge 28, 3) := by decide +kernel
theorem dL_areShifts_316 : decode cL_areShifts 316 = .ok (.aload_n 2, 1) := by decide +kernel
theorem dL_areShifts_317 : decode cL_areShifts 317 = .ok (.iconst 0, 1) := by decide +kernel
theorem dL_areShifts_318 : decode cL_areShifts 318 = .ok (.iaload, 1) := by decide +kernel
theorem dL_areShifts_319 : decode cL_areShifts 319 = .ok (.ifCond .eq 36, 3) := by decide +kernel
theorem dL_areShifts_322 : decode cL_areShifts 322 = .ok (.aload_n 1, 1) := by decide +kernel
theorem dL_areShifts_323 : decode cL_areShifts 323 = .ok (.iload 4, 2) := by decide +kernel
theorem dL_areShifts_325 : decode cL_areShifts 325 = .ok (.iconst 1, 1) := by decide +kernel
theorem dL_areShifts_326 : decode cL_areShifts 326 = .ok (.iadd, 1) := by decide +kernel
theorem dL_areShifts_327 : decode cL_areShifts 327 = .ok (.iaload, 1) := by decide +kernel
theorem dL_areShifts_328 : decode cL_areShifts 328 = .ok (.iconst 1, 1) := by decide +kernel
theorem dL_areShifts_329 : decode cL_areShifts 329 = .ok (.aload_n 2, 1) := by decide +kernel
theorem dL_areShifts_330 : decode cL_areShifts 330 = .ok (.iconst 0, 1) := by decide +kernel
theorem dL_areShifts_331 : decode cL_areShifts 331 = .ok (.iaload, 1) := by decide +kernel
theorem dL_areShifts_332 : decode cL_areShifts 332 = .ok (.ishl, 1) := by decide +kernel
theorem dL_areShifts_333 : decode cL_areShifts 333 = .ok (.iconst 1, 1) := by decide +kernel
theorem dL_areShifts_334 : decode cL_areShifts 334 = .ok (.isub, 1) := by decide +kernel
theorem dL_areShifts_335 : decode cL_areShifts 335 = .ok (.if_icmp .ne 56, 3) := by decide +kernel
theorem dL_areShifts_338 : decode cL_areShifts 338 = .ok (.goto 17, 3) := by decide +kernel
theorem dL_areShifts_341 : decode cL_areShifts 341 = .ok (.aload_n 1, 1) := by decide +kernel
theorem dL_areShifts_342 : decode cL_areShifts 342 = .ok (.iload 4, 2) := by decide +kernel
theorem dL_areShifts_344 : decode cL_areShifts 344 = .ok (.iconst 1, 1) := by decide +kernel
theorem dL_areShifts_345 : decode cL_areShifts 345 = .ok (.iadd, 1) := by decide +kernel
theorem dL_areShifts_346 : decode cL_areShifts 346 = .ok (.iaload, 1) := by decide +kernel
theorem dL_areShifts_347 : decode cL_areShifts 347 = .ok (.iload 10, 2) := by decide +kernel
theorem dL_areShifts_349 : decode cL_areShifts 349 = .ok (.ishr, 1) := by decide +kernel
theorem dL_areShifts_350 : decode cL_areShifts 350 = .ok (.iconst 1, 1) := by decide +kernel
theorem dL_areShifts_351 : decode cL_areShifts 351 = .ok (.iand, 1) := by decide +kernel
theorem dL_areShifts_352 : decode cL_areShifts 352 = .ok (.ifCond .ne 39, 3) := by decide +kernel
theorem dL_areShifts_355 : decode cL_areShifts 355 = .ok (.iload 12, 2) := by decide +kernel
theorem dL_areShifts_357 : decode cL_areShifts 357 = .ok (.ifCond .ne 30, 3) := by decide +kernel
theorem dL_areShifts_360 : decode cL_areShifts 360 = .ok (.iload 10, 2) := by decide +kernel
theorem dL_areShifts_362 : decode cL_areShifts 362 = .ok (.iload 11, 2) := by decide +kernel
theorem dL_areShifts_364 : decode cL_areShifts 364 = .ok (.if_icmp .eq 23, 3) := by decide +kernel
theorem dL_areShifts_367 : decode cL_areShifts 367 = .ok (.iload 4, 2) := by decide +kernel
theorem dL_areShifts_369 : decode cL_areShifts 369 = .ok (.iconst 1, 1) := by decide +kernel
theorem dL_areShifts_370 : decode cL_areShifts 370 = .ok (.iadd, 1) := by decide +kernel
theorem dL_areShifts_371 : decode cL_areShifts 371 = .ok (.iconst 3, 1) := by decide +kernel
theorem dL_areShifts_372 : decode cL_areShifts 372 = .ok (.irem, 1) := by decide +kernel
theorem dL_areShifts_373 : decode cL_areShifts 373 = .ok (.ifCond .ne 18, 3) := by decide +kernel
theorem dL_areShifts_376 : decode cL_areShifts 376 = .ok (.aload_n 0, 1) := by decide +kernel
theorem dL_areShifts_377 : decode cL_areShifts 377 = .ok (.iload 10, 2) := by decide +kernel
theorem dL_areShifts_379 : decode cL_areShifts 379 = .ok (.iload 11, 2) := by decide +kernel
theorem dL_areShifts_381 : decode cL_areShifts 381 = .ok (.invokevirtual 75, 3) := by decide +kernel
theorem dL_areShifts_384 : decode cL_areShifts 384 = .ok (.ifCond .le 7, 3) := by decide +kernel
theorem dL_areShifts_387 : decode cL_areShifts 387 = .ok (.iconst 1, 1) := by decide +kernel
theorem dL_areShifts_388 : decode cL_areShifts 388 = .ok (.goto 4, 3) := by decide +kernel
theorem dL_areShifts_391 : decode cL_areShifts 391 = .ok (.iconst 0, 1) := by decide +kernel
theorem dL_areShifts_392 : decode cL_areShifts 392 = .ok (.ireturn, 1) := by decide +kernel
def f_L_areShifts_b355 (F Z : Nat) (s : St) (l4 : Int32) (l10 : Int32) (l11 : Int32) (l12 : Int32) : Option (Int32 × St) :=
  if l12 = 0 then
    (if l10 = l11 then
      (some (1, s))
    else
      (if ((l4 + 1) - (l4 + 1) / 3 * 3) = 0 then
        ((qc Z s (fun z => f_P_owes F z s l10 l11)).bind fun x16 => ((an x16.1).bind fun v17 => (if v17 ≤ 0 then
          (some (0, x16.2))
        else
          (some (1, x16.2)))))
      else
        (some (0, s))))
  else
    (some (1, s))
def f_L_areShifts_b308 (F Z : Nat) (s : St) (l4 : Int32) (l10 : Int32) (l11 : Int32) (l12 : Int32) (t0 : Int32) (t1 : Int32) : Option (Int32 × St) :=
  if t1 ≤ t0 then
    (some (0, s))
  else
    (if 0 ≤ l10 then
      ((ix 64 (l4 + 1)).bind fun j15 => (if (((gA s 41 j15) >>> (l10 &&& 31)) &&& 1) = 0 then
        (f_L_areShifts_b355 F Z s l4 l10 l11 l12)
      else
        (some (0, s))))
    else
      ((ix 4 0).bind fun j18 => (if (gA s 39 j18) = 0 then
        (f_L_areShifts_b355 F Z s l4 l10 l11 l12)
      else
        ((ix 64 (l4 + 1)).bind fun j19 => ((ix 4 0).bind fun j20 => (if (gA s 41 j19) = (((1 : Int32) <<< ((gA s 39 j20) &&& 31)) - 1) then
          (f_L_areShifts_b355 F Z s l4 l10 l11 l12)
        else
          (some (0, s))))))))
def f_L_areShifts_b290 (F Z : Nat) (s : St) (l4 : Int32) (l9 : Int32) (l10 : Int32) (l11 : Int32) (l12 : Int32) (t0 : Int32) (t1 : Int32) : Option (Int32 × St) :=
  if t0 < t1 then
    (some (0, s))
  else
    ((ix 4 0).bind fun j14 => (if (gA s 39 j14) ≤ 0 then
      (f_L_areShifts_b308 F Z s l4 l10 l11 l12 l9 0)
    else
      ((ix 4 0).bind fun j21 => (f_L_areShifts_b308 F Z s l4 l10 l11 l12 l9 (gA s 39 j21)))))
def f_L_areShifts_b248 (F Z : Nat) (s : St) (l4 : Int32) (l5 : Int32) (l6 : Int32) (l7 : Int32) (l9 : Int32) (l10 : Int32) (l11 : Int32) (t0 : Int32) : Option (Int32 × St) :=
  if l5 = 0 then
    (some (0, s))
  else
    (if l6 = 0 then
      ((ix 4 3).bind fun j10 => (if l7 = (gA s 39 j10) then
        ((qc Z s (fun z => f_P_holder F z s 0)).bind fun x11 => ((an x11.1).bind fun v12 => (if v12 = (-1) then
          ((ix 4 0).bind fun j13 => (if (gA x11.2 39 j13) ≤ 0 then
            (f_L_areShifts_b290 F Z x11.2 l4 l9 l10 l11 t0 l9 (-1))
          else
            (f_L_areShifts_b290 F Z x11.2 l4 l9 l10 l11 t0 l9 0)))
        else
          (some (0, x11.2)))))
      else
        (some (0, s))))
    else
      (some (0, s)))
def f_L_areShifts_b155 (F Z : Nat) (K110 : St → Int32 → Int32 → Int32 → Int32 → Int32 → Int32 → Option (Int32 × St)) : Nat → St → Int32 → Int32 → Int32 → Int32 → Int32 → Int32 → Int32 → Option (Int32 × St)
  | 0, _, _, _, _, _, _, _, _ => none
  | n + 1, s, l3, l4, l5, l6, l7, l8, l9 =>
    (ix 4 0).bind fun j25 => (if (gA s 39 j25) ≤ l9 then
      (K110 s l3 l4 l5 l6 l7 (l8 + 1))
    else
      ((qc Z s (fun z => f_P_owes F z s l8 l9)).bind fun x26 => ((an x26.1).bind fun v27 => (f_L_areShifts_b155 F Z K110 n x26.2 l3 l4 l5 l6 (l7 + v27) l8 (l9 + 1)))))
def f_L_areShifts_b110 (F Z : Nat) : Nat → St → Int32 → Int32 → Int32 → Int32 → Int32 → Int32 → Option (Int32 × St)
  | 0, _, _, _, _, _, _, _ => none
  | n + 1, s, l3, l4, l5, l6, l7, l8 =>
    (ix 4 0).bind fun j3 => (if (gA s 39 j3) ≤ l8 then
      ((qc Z s (fun z => f_P_planned F z s ((l4 + 1) + (l3 - l3 / 6 * 6)))).bind fun x4 => ((an x4.1).bind fun v5 => ((f_P_next F x4.2).bind fun x6 => (lt (kb x4.2 x6.2 0) fun s7 => ((qc Z s7 (fun z => f_P_planned F z s7 (l4 + 1))).bind fun x8 => ((an x8.1).bind fun v9 => (if v9 < 0 then
        (f_L_areShifts_b248 F Z x8.2 l4 l5 l6 l7 v5 x6.1 v9 0)
      else
        ((ix 64 (l4 + 1)).bind fun j22 => (if (((gA x8.2 41 j22) >>> (v9 &&& 31)) &&& 1) = 1 then
          (f_L_areShifts_b248 F Z x8.2 l4 l5 l6 l7 v5 x6.1 v9 1)
        else
          (f_L_areShifts_b248 F Z x8.2 l4 l5 l6 l7 v5 x6.1 v9 0))))))))))
    else
      ((qc Z s (fun z => f_P_nights F z s l8)).bind fun x23 => ((an x23.1).bind fun v24 => (if l5 = 0 then
        (f_L_areShifts_b155 F Z (f_L_areShifts_b110 F Z n) F x23.2 l3 l4 0 (l6 - v24) l7 l8 0)
      else
        ((qc Z x23.2 (fun z => f_P_owes F z x23.2 l8 l8)).bind fun x28 => ((an x28.1).bind fun v29 => (if v29 = 0 then
          (f_L_areShifts_b155 F Z (f_L_areShifts_b110 F Z n) F x28.2 l3 l4 1 (l6 - v24) l7 l8 0)
        else
          (f_L_areShifts_b155 F Z (f_L_areShifts_b110 F Z n) F x28.2 l3 l4 0 (l6 - v24) l7 l8 0))))))))
def f_L_areShifts_b74 (F Z : Nat) (K18 : St → Int32 → Int32 → Int32 → Int32 → Int32 → Option (Int32 × St)) (s : St) (l3 : Int32) (l4 : Int32) (l6 : Int32) (l7 : Int32) (l8 : Int32) (t0 : Int32) : Option (Int32 × St) :=
  if l8 < 0 then
    (K18 s l3 l4 t0 (l6 + 0) (l7 + 1))
  else
    (if (l7 - l7 / 3 * 3) = 0 then
      (K18 s l3 l4 t0 (l6 + 1) (l7 + 1))
    else
      (K18 s l3 l4 t0 (l6 + 0) (l7 + 1)))
def f_L_areShifts_b18 (F Z : Nat) : Nat → St → Int32 → Int32 → Int32 → Int32 → Int32 → Option (Int32 × St)
  | 0, _, _, _, _, _, _ => none
  | n + 1, s, l3, l4, l5, l6, l7 =>
    if l4 < l7 then
      (f_L_areShifts_b110 F Z F s l3 l4 l5 l6 0 0)
    else
      (if l5 = 0 then
        (f_L_areShifts_b110 F Z F s l3 l4 l5 l6 0 0)
      else
        ((qc Z s (fun z => f_P_holder F z s l7)).bind fun x30 => ((an x30.1).bind fun v31 => (if v31 < (-1) then
          (f_L_areShifts_b74 F Z (f_L_areShifts_b18 F Z n) x30.2 l3 l4 l6 l7 v31 0)
        else
          ((ix 4 0).bind fun j32 => (if (gA x30.2 39 j32) ≤ v31 then
            (f_L_areShifts_b74 F Z (f_L_areShifts_b18 F Z n) x30.2 l3 l4 l6 l7 v31 0)
          else
            (if v31 < 0 then
              (f_L_areShifts_b74 F Z (f_L_areShifts_b18 F Z n) x30.2 l3 l4 l6 l7 v31 1)
            else
              ((ix 64 l7).bind fun j33 => (if (((gA x30.2 41 j33) >>> (v31 &&& 31)) &&& 1) = 0 then
                (f_L_areShifts_b74 F Z (f_L_areShifts_b18 F Z n) x30.2 l3 l4 l6 l7 v31 1)
              else
                (f_L_areShifts_b74 F Z (f_L_areShifts_b18 F Z n) x30.2 l3 l4 l6 l7 v31 0))))))))))
def f_L_areShifts (F Z : Nat) (s : St) (p3 : Int32) : Option (Int32 × St) :=
  (f_P_now F s).bind fun x1 => (lt (kb s x1.2 0) fun s2 => (f_L_areShifts_b18 F Z F s2 p3 (x1.1 / 8) 1 0 1))
set_option maxHeartbeats 1000000 in
theorem c_f_L_areShifts_b355 {F Z : Nat} {c0 : Nat} {Γ : Ga} {D : DD} {B : Nat} {r : Int32} {s' : St} (X : Cx Γ RL cL_areShifts 13 D B (RMg Z c0 7 113)) (M : RLe (RMg Z c0 7 113) Z 0 0 c0 7 113) (Y : Xy Γ B) (hr : (Gme Γ).sig.returnType = (some .boolean)) {s : St} {l4 : Int32} {l10 : Int32} {l11 : Int32} {l12 : Int32} (hc : Hc c0 Z s) (hf : f_L_areShifts_b355 F Z s l4 l10 l11 l12 = some (r, s')) : V Γ D B true 13 (QX Γ D B true s' (.inl (some (.int r))) (64 * (ct s' - c0)) (768 * (ct s' - c0))) (kg 0 c0 s) (ng 0 c0 s) s 355 [(0, .ref (B + 0)), (4, .int l4), (10, .int l10), (11, .int l11), (12, .int l12)] [] := by
  unfold f_L_areShifts_b355 at hf
  refine r_iload (pc := 355) X dL_areShifts_355 4 rfl ?_
  refine b_if_ne (tgt := 387) (pc := 357) X dL_areShifts_357 (by decide) hf (fun hf => ?_) (fun hf => ?_)
  · refine r_iload (pc := 360) X dL_areShifts_360 2 rfl ?_
    refine r_iload (pc := 362) X dL_areShifts_362 3 rfl ?_
    refine b_icmp_eq (tgt := 387) (pc := 364) X dL_areShifts_364 (by decide) hf (fun hf => ?_) (fun hf => ?_)
    · refine r_iconst (v := 1) (pc := 387) X dL_areShifts_387 (by decide) ?_
      refine r_goto (tgt := 392) (pc := 388) X dL_areShifts_388 (by decide) ?_
      exact y_zret (pc := 392) X hr (by decide) hf dL_areShifts_392
    · refine r_iload (pc := 367) X dL_areShifts_367 1 rfl ?_
      refine r_iconst (v := 1) (pc := 369) X dL_areShifts_369 (by decide) ?_
      refine r_iadd (pc := 370) X dL_areShifts_370 ?_
      refine r_iconst (v := 3) (pc := 371) X dL_areShifts_371 (by decide) ?_
      refine r_irem (pc := 372) X dL_areShifts_372 (by decide) ?_
      refine b_if_ne (tgt := 391) (pc := 373) X dL_areShifts_373 (by decide) hf (fun hf => ?_) (fun hf => ?_)
      · refine r_aload_n (x := some 0) (pc := 376) X dL_areShifts_376 0 rfl ?_
        refine r_iload (pc := 377) X dL_areShifts_377 2 rfl ?_
        refine r_iload (pc := 379) X dL_areShifts_379 3 rfl ?_
        refine bnd hf (fun x16 h16 hf => ?_)
        refine bnd hf (fun v17 h16v hf => ?_)
        refine y_callXVi (As := [.int l10, .int l11]) (st := []) (pc := 381) X M Y hc (qc_run (ou := ouI) hc.2 (fun z x h => c_f_P_owes h) h16) rfl w_818 w_819 w_820 w_36 w_821 hdV_X10_owes (Rc.s rfl ce_0) (by decide) (Nat.le_of_ble_eq_true rfl) dL_areShifts_381 rfl h16v (fun hc => ?_)
        refine b_if_le (tgt := 391) (pc := 384) X dL_areShifts_384 (by decide) hf (fun hf => ?_) (fun hf => ?_)
        · refine r_iconst (v := 0) (pc := 391) X dL_areShifts_391 (by decide) ?_
          exact y_zret (pc := 392) X hr (by decide) hf dL_areShifts_392
        · refine r_iconst (v := 1) (pc := 387) X dL_areShifts_387 (by decide) ?_
          refine r_goto (tgt := 392) (pc := 388) X dL_areShifts_388 (by decide) ?_
          exact y_zret (pc := 392) X hr (by decide) hf dL_areShifts_392
      · refine r_iconst (v := 0) (pc := 391) X dL_areShifts_391 (by decide) ?_
        exact y_zret (pc := 392) X hr (by decide) hf dL_areShifts_392
  · refine r_iconst (v := 1) (pc := 387) X dL_areShifts_387 (by decide) ?_
    refine r_goto (tgt := 392) (pc := 388) X dL_areShifts_388 (by decide) ?_
    exact y_zret (pc := 392) X hr (by decide) hf dL_areShifts_392
set_option maxHeartbeats 1000000 in
theorem c_f_L_areShifts_b308 {F Z : Nat} {c0 : Nat} {Γ : Ga} {D : DD} {B : Nat} {r : Int32} {s' : St} (X : Cx Γ RL cL_areShifts 13 D B (RMg Z c0 7 113)) (M : RLe (RMg Z c0 7 113) Z 0 0 c0 7 113) (Y : Xy Γ B) (hr : (Gme Γ).sig.returnType = (some .boolean)) {s : St} {l4 : Int32} {l10 : Int32} {l11 : Int32} {l12 : Int32} {t0 : Int32} {t1 : Int32} (hc : Hc c0 Z s) (hf : f_L_areShifts_b308 F Z s l4 l10 l11 l12 t0 t1 = some (r, s')) : V Γ D B true 13 (QX Γ D B true s' (.inl (some (.int r))) (64 * (ct s' - c0)) (768 * (ct s' - c0))) (kg 0 c0 s) (ng 0 c0 s) s 308 [(0, .ref (B + 0)), (1, .ref (B + 41)), (2, .ref (B + 39)), (4, .int l4), (10, .int l10), (11, .int l11), (12, .int l12)] [.int t1, .int t0] := by
  unfold f_L_areShifts_b308 at hf
  refine b_icmp_ge (tgt := 391) (pc := 308) X dL_areShifts_308 (by decide) hf (fun hf => ?_) (fun hf => ?_)
  · refine r_iconst (v := 0) (pc := 391) X dL_areShifts_391 (by decide) ?_
    exact y_zret (pc := 392) X hr (by decide) hf dL_areShifts_392
  · refine r_iload (pc := 311) X dL_areShifts_311 4 rfl ?_
    refine b_if_ge (tgt := 341) (pc := 313) X dL_areShifts_313 (by decide) hf (fun hf => ?_) (fun hf => ?_)
    · refine r_aload_n (x := some 41) (pc := 341) X dL_areShifts_341 1 rfl ?_
      refine r_iload (pc := 342) X dL_areShifts_342 3 rfl ?_
      refine r_iconst (v := 1) (pc := 344) X dL_areShifts_344 (by decide) ?_
      refine r_iadd (pc := 345) X dL_areShifts_345 ?_
      refine b_iald (pc := 346) X ce_41 dL_areShifts_346 hf (fun j15 hf => ?_)
      refine r_iload (pc := 347) X dL_areShifts_347 4 rfl ?_
      refine r_ishr (pc := 349) X dL_areShifts_349 ?_
      refine r_iconst (v := 1) (pc := 350) X dL_areShifts_350 (by decide) ?_
      refine r_iand (pc := 351) X dL_areShifts_351 ?_
      refine b_if_ne (tgt := 391) (pc := 352) X dL_areShifts_352 (by decide) hf (fun hf => ?_) (fun hf => ?_)
      · refine r_forget (lv' := [(0, .ref (B + 0)), (4, .int l4), (10, .int l10), (11, .int l11), (12, .int l12)]) [0, 3, 4, 5, 6] rfl ?_
        exact c_f_L_areShifts_b355 X M Y hr hc hf
      · refine r_iconst (v := 0) (pc := 391) X dL_areShifts_391 (by decide) ?_
        exact y_zret (pc := 392) X hr (by decide) hf dL_areShifts_392
    · refine r_aload_n (x := some 39) (pc := 316) X dL_areShifts_316 2 rfl ?_
      refine r_iconst (v := 0) (pc := 317) X dL_areShifts_317 (by decide) ?_
      refine b_iald (pc := 318) X ce_39 dL_areShifts_318 hf (fun j18 hf => ?_)
      refine b_if_eq (tgt := 355) (pc := 319) X dL_areShifts_319 (by decide) hf (fun hf => ?_) (fun hf => ?_)
      · refine r_forget (lv' := [(0, .ref (B + 0)), (4, .int l4), (10, .int l10), (11, .int l11), (12, .int l12)]) [0, 3, 4, 5, 6] rfl ?_
        exact c_f_L_areShifts_b355 X M Y hr hc hf
      · refine r_aload_n (x := some 41) (pc := 322) X dL_areShifts_322 1 rfl ?_
        refine r_iload (pc := 323) X dL_areShifts_323 3 rfl ?_
        refine r_iconst (v := 1) (pc := 325) X dL_areShifts_325 (by decide) ?_
        refine r_iadd (pc := 326) X dL_areShifts_326 ?_
        refine b_iald (pc := 327) X ce_41 dL_areShifts_327 hf (fun j19 hf => ?_)
        refine r_iconst (v := 1) (pc := 328) X dL_areShifts_328 (by decide) ?_
        refine r_aload_n (x := some 39) (pc := 329) X dL_areShifts_329 2 rfl ?_
        refine r_iconst (v := 0) (pc := 330) X dL_areShifts_330 (by decide) ?_
        refine b_iald (pc := 331) X ce_39 dL_areShifts_331 hf (fun j20 hf => ?_)
        refine r_ishl (pc := 332) X dL_areShifts_332 ?_
        refine r_iconst (v := 1) (pc := 333) X dL_areShifts_333 (by decide) ?_
        refine r_isub (pc := 334) X dL_areShifts_334 ?_
        refine b_icmp_ne (tgt := 391) (pc := 335) X dL_areShifts_335 (by decide) hf (fun hf => ?_) (fun hf => ?_)
        · refine r_goto (tgt := 355) (pc := 338) X dL_areShifts_338 (by decide) ?_
          refine r_forget (lv' := [(0, .ref (B + 0)), (4, .int l4), (10, .int l10), (11, .int l11), (12, .int l12)]) [0, 3, 4, 5, 6] rfl ?_
          exact c_f_L_areShifts_b355 X M Y hr hc hf
        · refine r_iconst (v := 0) (pc := 391) X dL_areShifts_391 (by decide) ?_
          exact y_zret (pc := 392) X hr (by decide) hf dL_areShifts_392
set_option maxHeartbeats 1000000 in
theorem c_f_L_areShifts_b290 {F Z : Nat} {c0 : Nat} {Γ : Ga} {D : DD} {B : Nat} {r : Int32} {s' : St} (X : Cx Γ RL cL_areShifts 13 D B (RMg Z c0 7 113)) (M : RLe (RMg Z c0 7 113) Z 0 0 c0 7 113) (Y : Xy Γ B) (hr : (Gme Γ).sig.returnType = (some .boolean)) {s : St} {l4 : Int32} {l9 : Int32} {l10 : Int32} {l11 : Int32} {l12 : Int32} {t0 : Int32} {t1 : Int32} (hc : Hc c0 Z s) (hf : f_L_areShifts_b290 F Z s l4 l9 l10 l11 l12 t0 t1 = some (r, s')) : V Γ D B true 13 (QX Γ D B true s' (.inl (some (.int r))) (64 * (ct s' - c0)) (768 * (ct s' - c0))) (kg 0 c0 s) (ng 0 c0 s) s 290 [(0, .ref (B + 0)), (1, .ref (B + 41)), (2, .ref (B + 39)), (4, .int l4), (9, .int l9), (10, .int l10), (11, .int l11), (12, .int l12)] [.int t1, .int t0] := by
  unfold f_L_areShifts_b290 at hf
  refine b_icmp_lt (tgt := 391) (pc := 290) X dL_areShifts_290 (by decide) hf (fun hf => ?_) (fun hf => ?_)
  · refine r_iconst (v := 0) (pc := 391) X dL_areShifts_391 (by decide) ?_
    exact y_zret (pc := 392) X hr (by decide) hf dL_areShifts_392
  · refine r_iload (pc := 293) X dL_areShifts_293 4 rfl ?_
    refine r_aload_n (x := some 39) (pc := 295) X dL_areShifts_295 2 rfl ?_
    refine r_iconst (v := 0) (pc := 296) X dL_areShifts_296 (by decide) ?_
    refine b_iald (pc := 297) X ce_39 dL_areShifts_297 hf (fun j14 hf => ?_)
    refine b_if_le (tgt := 307) (pc := 298) X dL_areShifts_298 (by decide) hf (fun hf => ?_) (fun hf => ?_)
    · refine r_iconst (v := 0) (pc := 307) X dL_areShifts_307 (by decide) ?_
      refine r_forget (lv' := [(0, .ref (B + 0)), (1, .ref (B + 41)), (2, .ref (B + 39)), (4, .int l4), (10, .int l10), (11, .int l11), (12, .int l12)]) [0, 1, 2, 3, 5, 6, 7] rfl ?_
      exact c_f_L_areShifts_b308 X M Y hr hc hf
    · refine r_aload_n (x := some 39) (pc := 301) X dL_areShifts_301 2 rfl ?_
      refine r_iconst (v := 0) (pc := 302) X dL_areShifts_302 (by decide) ?_
      refine b_iald (pc := 303) X ce_39 dL_areShifts_303 hf (fun j21 hf => ?_)
      refine r_goto (tgt := 308) (pc := 304) X dL_areShifts_304 (by decide) ?_
      refine r_forget (lv' := [(0, .ref (B + 0)), (1, .ref (B + 41)), (2, .ref (B + 39)), (4, .int l4), (10, .int l10), (11, .int l11), (12, .int l12)]) [0, 1, 2, 3, 5, 6, 7] rfl ?_
      exact c_f_L_areShifts_b308 X M Y hr hc hf
set_option maxHeartbeats 1000000 in
theorem c_f_L_areShifts_b248 {F Z : Nat} {c0 : Nat} {Γ : Ga} {D : DD} {B : Nat} {r : Int32} {s' : St} (X : Cx Γ RL cL_areShifts 13 D B (RMg Z c0 7 113)) (M : RLe (RMg Z c0 7 113) Z 0 0 c0 7 113) (Y : Xy Γ B) (hr : (Gme Γ).sig.returnType = (some .boolean)) {s : St} {l4 : Int32} {l5 : Int32} {l6 : Int32} {l7 : Int32} {l9 : Int32} {l10 : Int32} {l11 : Int32} {t0 : Int32} (hc : Hc c0 Z s) (hf : f_L_areShifts_b248 F Z s l4 l5 l6 l7 l9 l10 l11 t0 = some (r, s')) : V Γ D B true 13 (QX Γ D B true s' (.inl (some (.int r))) (64 * (ct s' - c0)) (768 * (ct s' - c0))) (kg 0 c0 s) (ng 0 c0 s) s 248 [(0, .ref (B + 0)), (1, .ref (B + 41)), (2, .ref (B + 39)), (4, .int l4), (5, .int l5), (6, .int l6), (7, .int l7), (9, .int l9), (10, .int l10), (11, .int l11)] [.int t0] := by
  unfold f_L_areShifts_b248 at hf
  refine r_istore (pc := 248) (lv' := [(0, .ref (B + 0)), (1, .ref (B + 41)), (2, .ref (B + 39)), (4, .int l4), (5, .int l5), (6, .int l6), (7, .int l7), (9, .int l9), (10, .int l10), (11, .int l11), (12, .int t0)]) X dL_areShifts_248 (by decide) [1, 2, 3, 4, 5, 6, 7, 8, 9, 10, 0] rfl ?_
  refine r_iload (pc := 250) X dL_areShifts_250 4 rfl ?_
  refine b_if_eq (tgt := 391) (pc := 252) X dL_areShifts_252 (by decide) hf (fun hf => ?_) (fun hf => ?_)
  · refine r_iconst (v := 0) (pc := 391) X dL_areShifts_391 (by decide) ?_
    exact y_zret (pc := 392) X hr (by decide) hf dL_areShifts_392
  · refine r_iload (pc := 255) X dL_areShifts_255 5 rfl ?_
    refine b_if_ne (tgt := 391) (pc := 257) X dL_areShifts_257 (by decide) hf (fun hf => ?_) (fun hf => ?_)
    · refine r_iload (pc := 260) X dL_areShifts_260 6 rfl ?_
      refine r_aload_n (x := some 39) (pc := 262) X dL_areShifts_262 2 rfl ?_
      refine r_iconst (v := 3) (pc := 263) X dL_areShifts_263 (by decide) ?_
      refine b_iald (pc := 264) X ce_39 dL_areShifts_264 hf (fun j10 hf => ?_)
      refine b_icmp_ne (tgt := 391) (pc := 265) X dL_areShifts_265 (by decide) hf (fun hf => ?_) (fun hf => ?_)
      · refine r_aload_n (x := some 0) (pc := 268) X dL_areShifts_268 0 rfl ?_
        refine r_iconst (v := 0) (pc := 269) X dL_areShifts_269 (by decide) ?_
        refine bnd hf (fun x11 h11 hf => ?_)
        refine bnd hf (fun v12 h11v hf => ?_)
        refine y_callXVi (As := [.int 0]) (st := []) (pc := 270) X M Y hc (qc_run (ou := ouI) hc.2 (fun z x h => c_f_P_holder h) h11) rfl w_806 w_807 w_808 w_36 w_809 hdV_X10_holder (Rc.s rfl ce_0) (by decide) (Nat.le_of_ble_eq_true rfl) dL_areShifts_270 rfl h11v (fun hc => ?_)
        refine r_iconst (v := -1) (pc := 273) X dL_areShifts_273 (by decide) ?_
        refine b_icmp_ne (tgt := 391) (pc := 274) X dL_areShifts_274 (by decide) hf (fun hf => ?_) (fun hf => ?_)
        · refine r_iload (pc := 277) X dL_areShifts_277 7 rfl ?_
          refine r_aload_n (x := some 39) (pc := 279) X dL_areShifts_279 2 rfl ?_
          refine r_iconst (v := 0) (pc := 280) X dL_areShifts_280 (by decide) ?_
          refine b_iald (pc := 281) X ce_39 dL_areShifts_281 hf (fun j13 hf => ?_)
          refine b_if_le (tgt := 289) (pc := 282) X dL_areShifts_282 (by decide) hf (fun hf => ?_) (fun hf => ?_)
          · refine r_iconst (v := -1) (pc := 289) X dL_areShifts_289 (by decide) ?_
            refine r_forget (lv' := [(0, .ref (B + 0)), (1, .ref (B + 41)), (2, .ref (B + 39)), (4, .int l4), (9, .int l9), (10, .int l10), (11, .int l11), (12, .int t0)]) [0, 1, 2, 3, 7, 8, 9, 10] rfl ?_
            exact c_f_L_areShifts_b290 X M Y hr hc hf
          · refine r_iconst (v := 0) (pc := 285) X dL_areShifts_285 (by decide) ?_
            refine r_goto (tgt := 290) (pc := 286) X dL_areShifts_286 (by decide) ?_
            refine r_forget (lv' := [(0, .ref (B + 0)), (1, .ref (B + 41)), (2, .ref (B + 39)), (4, .int l4), (9, .int l9), (10, .int l10), (11, .int l11), (12, .int t0)]) [0, 1, 2, 3, 7, 8, 9, 10] rfl ?_
            exact c_f_L_areShifts_b290 X M Y hr hc hf
        · refine r_iconst (v := 0) (pc := 391) X dL_areShifts_391 (by decide) ?_
          exact y_zret (pc := 392) X hr (by decide) hf dL_areShifts_392
      · refine r_iconst (v := 0) (pc := 391) X dL_areShifts_391 (by decide) ?_
        exact y_zret (pc := 392) X hr (by decide) hf dL_areShifts_392
    · refine r_iconst (v := 0) (pc := 391) X dL_areShifts_391 (by decide) ?_
      exact y_zret (pc := 392) X hr (by decide) hf dL_areShifts_392
set_option maxHeartbeats 1000000 in
theorem c_f_L_areShifts_b155 {F Z : Nat} {c0 : Nat} {Γ : Ga} {D : DD} {B : Nat} {r : Int32} {s' : St} (X : Cx Γ RL cL_areShifts 13 D B (RMg Z c0 7 113)) (M : RLe (RMg Z c0 7 113) Z 0 0 c0 7 113) (Y : Xy Γ B) (hr : (Gme Γ).sig.returnType = (some .boolean)) {K110 : St → Int32 → Int32 → Int32 → Int32 → Int32 → Int32 → Option (Int32 × St)} (hK110 : ∀ {s : St} {l3 : Int32} {l4 : Int32} {l5 : Int32} {l6 : Int32} {l7 : Int32} {l8 : Int32}, Hc c0 Z s → K110 s l3 l4 l5 l6 l7 l8 = some (r, s') → V Γ D B true 13 (QX Γ D B true s' (.inl (some (.int r))) (64 * (ct s' - c0)) (768 * (ct s' - c0))) (kg 0 c0 s) (ng 0 c0 s) s 110 [(0, .ref (B + 0)), (1, .ref (B + 41)), (2, .ref (B + 39)), (3, .int l3), (4, .int l4), (5, .int l5), (6, .int l6), (7, .int l7), (8, .int l8)] []) : ∀ (n : Nat) {s : St} {l3 : Int32} {l4 : Int32} {l5 : Int32} {l6 : Int32} {l7 : Int32} {l8 : Int32} {l9 : Int32}, Hc c0 Z s → f_L_areShifts_b155 F Z K110 n s l3 l4 l5 l6 l7 l8 l9 = some (r, s') → V Γ D B true 13 (QX Γ D B true s' (.inl (some (.int r))) (64 * (ct s' - c0)) (768 * (ct s' - c0))) (kg 0 c0 s) (ng 0 c0 s) s 155 [(0, .ref (B + 0)), (1, .ref (B + 41)), (2, .ref (B + 39)), (3, .int l3), (4, .int l4), (5, .int l5), (6, .int l6), (7, .int l7), (8, .int l8), (9, .int l9)] [] := by
  intro n
  induction n with
  | zero => intro s l3 l4 l5 l6 l7 l8 l9 hc hf; rw [f_L_areShifts_b155] at hf; cases hf
  | succ n ih =>
    intro s l3 l4 l5 l6 l7 l8 l9 hc hf
    rw [f_L_areShifts_b155] at hf
    refine r_iload (pc := 155) X dL_areShifts_155 9 rfl ?_
    refine r_aload_n (x := some 39) (pc := 157) X dL_areShifts_157 2 rfl ?_
    refine r_iconst (v := 0) (pc := 158) X dL_areShifts_158 (by decide) ?_
    refine b_iald (pc := 159) X ce_39 dL_areShifts_159 hf (fun j25 hf => ?_)
    refine b_icmp_ge (tgt := 182) (pc := 160) X dL_areShifts_160 (by decide) hf (fun hf => ?_) (fun hf => ?_)
    · refine r_iinc (v := l8 + 1) (lv' := [(0, .ref (B + 0)), (1, .ref (B + 41)), (2, .ref (B + 39)), (3, .int l3), (4, .int l4), (5, .int l5), (6, .int l6), (7, .int l7), (8, .int (l8 + 1))]) (pc := 182) X dL_areShifts_182 8 rfl rfl (by decide) [1, 2, 3, 4, 5, 6, 7, 8, 0] rfl ?_
      refine r_goto (tgt := 110) (pc := 185) X dL_areShifts_185 (by decide) ?_
      exact hK110 hc hf
    · refine r_iload (pc := 163) X dL_areShifts_163 7 rfl ?_
      refine r_aload_n (x := some 0) (pc := 165) X dL_areShifts_165 0 rfl ?_
      refine r_iload (pc := 166) X dL_areShifts_166 8 rfl ?_
      refine r_iload (pc := 168) X dL_areShifts_168 9 rfl ?_
      refine bnd hf (fun x26 h26 hf => ?_)
      refine bnd hf (fun v27 h26v hf => ?_)
      refine y_callXVi (As := [.int l8, .int l9]) (st := [.int l7]) (pc := 170) X M Y hc (qc_run (ou := ouI) hc.2 (fun z x h => c_f_P_owes h) h26) rfl w_818 w_819 w_820 w_36 w_821 hdV_X10_owes (Rc.s rfl ce_0) (by decide) (Nat.le_of_ble_eq_true rfl) dL_areShifts_170 rfl h26v (fun hc => ?_)
      refine r_iadd (pc := 173) X dL_areShifts_173 ?_
      refine r_istore (pc := 174) (lv' := [(0, .ref (B + 0)), (1, .ref (B + 41)), (2, .ref (B + 39)), (3, .int l3), (4, .int l4), (5, .int l5), (6, .int l6), (7, .int (l7 + v27)), (8, .int l8), (9, .int l9)]) X dL_areShifts_174 (by decide) [1, 2, 3, 4, 5, 6, 7, 0, 8, 9] rfl ?_
      refine r_iinc (v := l9 + 1) (lv' := [(0, .ref (B + 0)), (1, .ref (B + 41)), (2, .ref (B + 39)), (3, .int l3), (4, .int l4), (5, .int l5), (6, .int l6), (7, .int (l7 + v27)), (8, .int l8), (9, .int (l9 + 1))]) (pc := 176) X dL_areShifts_176 9 rfl rfl (by decide) [1, 2, 3, 4, 5, 6, 7, 8, 9, 0] rfl ?_
      refine r_goto (tgt := 155) (pc := 179) X dL_areShifts_179 (by decide) ?_
      exact ih hc hf
set_option maxHeartbeats 1000000 in
theorem c_f_L_areShifts_b110 {F Z : Nat} {c0 : Nat} {Γ : Ga} {D : DD} {B : Nat} {r : Int32} {s' : St} (X : Cx Γ RL cL_areShifts 13 D B (RMg Z c0 7 113)) (M : RLe (RMg Z c0 7 113) Z 0 0 c0 7 113) (Y : Xy Γ B) (hr : (Gme Γ).sig.returnType = (some .boolean)) : ∀ (n : Nat) {s : St} {l3 : Int32} {l4 : Int32} {l5 : Int32} {l6 : Int32} {l7 : Int32} {l8 : Int32}, Hc c0 Z s → f_L_areShifts_b110 F Z n s l3 l4 l5 l6 l7 l8 = some (r, s') → V Γ D B true 13 (QX Γ D B true s' (.inl (some (.int r))) (64 * (ct s' - c0)) (768 * (ct s' - c0))) (kg 0 c0 s) (ng 0 c0 s) s 110 [(0, .ref (B + 0)), (1, .ref (B + 41)), (2, .ref (B + 39)), (3, .int l3), (4, .int l4), (5, .int l5), (6, .int l6), (7, .int l7), (8, .int l8)] [] := by
  intro n
  induction n with
  | zero => intro s l3 l4 l5 l6 l7 l8 hc hf; rw [f_L_areShifts_b110] at hf; cases hf
  | succ n ih =>
    intro s l3 l4 l5 l6 l7 l8 hc hf
    rw [f_L_areShifts_b110] at hf
    refine r_iload (pc := 110) X dL_areShifts_110 8 rfl ?_
    refine r_aload_n (x := some 39) (pc := 112) X dL_areShifts_112 2 rfl ?_
    refine r_iconst (v := 0) (pc := 113) X dL_areShifts_113 (by decide) ?_
    refine b_iald (pc := 114) X ce_39 dL_areShifts_114 hf (fun j3 hf => ?_)
    refine b_icmp_ge (tgt := 188) (pc := 115) X dL_areShifts_115 (by decide) hf (fun hf => ?_) (fun hf => ?_)
    · refine r_iload (pc := 188) X dL_areShifts_188 4 rfl ?_
      refine r_iconst (v := 1) (pc := 190) X dL_areShifts_190 (by decide) ?_
      refine r_iadd (pc := 191) X dL_areShifts_191 ?_
      refine r_iload_n (pc := 192) X dL_areShifts_192 3 rfl ?_
      refine r_bipush (v := 6) (pc := 193) X dL_areShifts_193 (by decide) ?_
      refine r_irem (pc := 195) X dL_areShifts_195 (by decide) ?_
      refine r_iadd (pc := 196) X dL_areShifts_196 ?_
      refine r_istore (pc := 197) (lv' := [(0, .ref (B + 0)), (1, .ref (B + 41)), (2, .ref (B + 39)), (4, .int l4), (5, .int l5), (6, .int l6), (7, .int l7), (8, .int ((l4 + 1) + (l3 - l3 / 6 * 6)))]) X dL_areShifts_197 (by decide) [1, 2, 3, 5, 6, 7, 8, 0] rfl ?_
      refine r_aload_n (x := some 0) (pc := 199) X dL_areShifts_199 0 rfl ?_
      refine r_iload (pc := 200) X dL_areShifts_200 7 rfl ?_
      refine bnd hf (fun x4 h4 hf => ?_)
      refine bnd hf (fun v5 h4v hf => ?_)
      refine y_callXVi (As := [.int ((l4 + 1) + (l3 - l3 / 6 * 6))]) (st := []) (pc := 202) X M Y hc (qc_run (ou := ouI) hc.2 (fun z x h => c_f_P_planned h) h4) rfl w_801 w_802 w_803 w_36 w_804 hdV_X10_planned (Rc.s rfl ce_0) (by decide) (Nat.le_of_ble_eq_true rfl) dL_areShifts_202 rfl h4v (fun hc => ?_)
      refine r_istore (pc := 205) (lv' := [(0, .ref (B + 0)), (1, .ref (B + 41)), (2, .ref (B + 39)), (4, .int l4), (5, .int l5), (6, .int l6), (7, .int l7), (9, .int v5)]) X dL_areShifts_205 (by decide) [1, 2, 3, 4, 5, 6, 7, 0] rfl ?_
      refine r_aload_n (x := some 0) (pc := 207) X dL_areShifts_207 0 rfl ?_
      refine bnd hf (fun x6 h6 hf => ?_)
      refine y_callVi (As := []) (st := []) (pc := 208) X M hc (c_f_P_next h6) rfl w_321 w_322 w_323 w_36 w_324 hdV_X10_next (Rc.s rfl ce_0) (by decide) (Nat.le_of_ble_eq_true rfl) dL_areShifts_208 rfl hf (fun s7 hc hf => ?_)
      refine r_istore (pc := 211) (lv' := [(0, .ref (B + 0)), (1, .ref (B + 41)), (2, .ref (B + 39)), (4, .int l4), (5, .int l5), (6, .int l6), (7, .int l7), (9, .int v5), (10, .int x6.1)]) X dL_areShifts_211 (by decide) [1, 2, 3, 4, 5, 6, 7, 8, 0] rfl ?_
      refine r_aload_n (x := some 0) (pc := 213) X dL_areShifts_213 0 rfl ?_
      refine r_iload (pc := 214) X dL_areShifts_214 3 rfl ?_
      refine r_iconst (v := 1) (pc := 216) X dL_areShifts_216 (by decide) ?_
      refine r_iadd (pc := 217) X dL_areShifts_217 ?_
      refine bnd hf (fun x8 h8 hf => ?_)
      refine bnd hf (fun v9 h8v hf => ?_)
      refine y_callXVi (As := [.int (l4 + 1)]) (st := []) (pc := 218) X M Y hc (qc_run (ou := ouI) hc.2 (fun z x h => c_f_P_planned h) h8) rfl w_801 w_802 w_803 w_36 w_804 hdV_X10_planned (Rc.s rfl ce_0) (by decide) (Nat.le_of_ble_eq_true rfl) dL_areShifts_218 rfl h8v (fun hc => ?_)
      refine r_istore (pc := 221) (lv' := [(0, .ref (B + 0)), (1, .ref (B + 41)), (2, .ref (B + 39)), (4, .int l4), (5, .int l5), (6, .int l6), (7, .int l7), (9, .int v5), (10, .int x6.1), (11, .int v9)]) X dL_areShifts_221 (by decide) [1, 2, 3, 4, 5, 6, 7, 8, 9, 0] rfl ?_
      refine r_iload (pc := 223) X dL_areShifts_223 9 rfl ?_
      refine b_if_lt (tgt := 247) (pc := 225) X dL_areShifts_225 (by decide) hf (fun hf => ?_) (fun hf => ?_)
      · refine r_iconst (v := 0) (pc := 247) X dL_areShifts_247 (by decide) ?_
        exact c_f_L_areShifts_b248 X M Y hr hc hf
      · refine r_aload_n (x := some 41) (pc := 228) X dL_areShifts_228 1 rfl ?_
        refine r_iload (pc := 229) X dL_areShifts_229 3 rfl ?_
        refine r_iconst (v := 1) (pc := 231) X dL_areShifts_231 (by decide) ?_
        refine r_iadd (pc := 232) X dL_areShifts_232 ?_
        refine b_iald (pc := 233) X ce_41 dL_areShifts_233 hf (fun j22 hf => ?_)
        refine r_iload (pc := 234) X dL_areShifts_234 9 rfl ?_
        refine r_ishr (pc := 236) X dL_areShifts_236 ?_
        refine r_iconst (v := 1) (pc := 237) X dL_areShifts_237 (by decide) ?_
        refine r_iand (pc := 238) X dL_areShifts_238 ?_
        refine r_iconst (v := 1) (pc := 239) X dL_areShifts_239 (by decide) ?_
        refine b_icmp_ne (tgt := 247) (pc := 240) X dL_areShifts_240 (by decide) hf (fun hf => ?_) (fun hf => ?_)
        · refine r_iconst (v := 1) (pc := 243) X dL_areShifts_243 (by decide) ?_
          refine r_goto (tgt := 248) (pc := 244) X dL_areShifts_244 (by decide) ?_
          exact c_f_L_areShifts_b248 X M Y hr hc hf
        · refine r_iconst (v := 0) (pc := 247) X dL_areShifts_247 (by decide) ?_
          exact c_f_L_areShifts_b248 X M Y hr hc hf
    · refine r_iload (pc := 118) X dL_areShifts_118 6 rfl ?_
      refine r_aload_n (x := some 0) (pc := 120) X dL_areShifts_120 0 rfl ?_
      refine r_iload (pc := 121) X dL_areShifts_121 8 rfl ?_
      refine bnd hf (fun x23 h23 hf => ?_)
      refine bnd hf (fun v24 h23v hf => ?_)
      refine y_callXVi (As := [.int l8]) (st := [.int l6]) (pc := 123) X M Y hc (qc_run (ou := ouI) hc.2 (fun z x h => c_f_P_nights h) h23) rfl w_810 w_811 w_812 w_36 w_813 hdV_X10_nights (Rc.s rfl ce_0) (by decide) (Nat.le_of_ble_eq_true rfl) dL_areShifts_123 rfl h23v (fun hc => ?_)
      refine r_isub (pc := 126) X dL_areShifts_126 ?_
      refine r_istore (pc := 127) (lv' := [(0, .ref (B + 0)), (1, .ref (B + 41)), (2, .ref (B + 39)), (3, .int l3), (4, .int l4), (5, .int l5), (6, .int (l6 - v24)), (7, .int l7), (8, .int l8)]) X dL_areShifts_127 (by decide) [1, 2, 3, 4, 5, 6, 0, 7, 8] rfl ?_
      refine r_iload (pc := 129) X dL_areShifts_129 5 rfl ?_
      refine b_if_eq (tgt := 149) (pc := 131) X dL_areShifts_131 (by decide) hf (fun hf => ?_) (fun hf => ?_)
      · refine r_iconst (v := 0) (pc := 149) X dL_areShifts_149 (by decide) ?_
        refine r_istore (pc := 150) (lv' := [(0, .ref (B + 0)), (1, .ref (B + 41)), (2, .ref (B + 39)), (3, .int l3), (4, .int l4), (5, .int 0), (6, .int (l6 - v24)), (7, .int l7), (8, .int l8)]) X dL_areShifts_150 (by decide) [1, 2, 3, 4, 5, 0, 6, 7, 8] rfl ?_
        refine r_iconst (v := 0) (pc := 152) X dL_areShifts_152 (by decide) ?_
        refine r_istore (pc := 153) (lv' := [(0, .ref (B + 0)), (1, .ref (B + 41)), (2, .ref (B + 39)), (3, .int l3), (4, .int l4), (5, .int 0), (6, .int (l6 - v24)), (7, .int l7), (8, .int l8), (9, .int 0)]) X dL_areShifts_153 (by decide) [1, 2, 3, 4, 5, 6, 7, 8, 9, 0] rfl ?_
        exact c_f_L_areShifts_b155 X M Y hr (fun hc hf => ih hc hf) _ hc hf
      · refine r_aload_n (x := some 0) (pc := 134) X dL_areShifts_134 0 rfl ?_
        refine r_iload (pc := 135) X dL_areShifts_135 8 rfl ?_
        refine r_iload (pc := 137) X dL_areShifts_137 8 rfl ?_
        refine bnd hf (fun x28 h28 hf => ?_)
        refine bnd hf (fun v29 h28v hf => ?_)
        refine y_callXVi (As := [.int l8, .int l8]) (st := []) (pc := 139) X M Y hc (qc_run (ou := ouI) hc.2 (fun z x h => c_f_P_owes h) h28) rfl w_818 w_819 w_820 w_36 w_821 hdV_X10_owes (Rc.s rfl ce_0) (by decide) (Nat.le_of_ble_eq_true rfl) dL_areShifts_139 rfl h28v (fun hc => ?_)
        refine b_if_ne (tgt := 149) (pc := 142) X dL_areShifts_142 (by decide) hf (fun hf => ?_) (fun hf => ?_)
        · refine r_iconst (v := 1) (pc := 145) X dL_areShifts_145 (by decide) ?_
          refine r_goto (tgt := 150) (pc := 146) X dL_areShifts_146 (by decide) ?_
          refine r_istore (pc := 150) (lv' := [(0, .ref (B + 0)), (1, .ref (B + 41)), (2, .ref (B + 39)), (3, .int l3), (4, .int l4), (5, .int 1), (6, .int (l6 - v24)), (7, .int l7), (8, .int l8)]) X dL_areShifts_150 (by decide) [1, 2, 3, 4, 5, 0, 6, 7, 8] rfl ?_
          refine r_iconst (v := 0) (pc := 152) X dL_areShifts_152 (by decide) ?_
          refine r_istore (pc := 153) (lv' := [(0, .ref (B + 0)), (1, .ref (B + 41)), (2, .ref (B + 39)), (3, .int l3), (4, .int l4), (5, .int 1), (6, .int (l6 - v24)), (7, .int l7), (8, .int l8), (9, .int 0)]) X dL_areShifts_153 (by decide) [1, 2, 3, 4, 5, 6, 7, 8, 9, 0] rfl ?_
          exact c_f_L_areShifts_b155 X M Y hr (fun hc hf => ih hc hf) _ hc hf
        · refine r_iconst (v := 0) (pc := 149) X dL_areShifts_149 (by decide) ?_
          refine r_istore (pc := 150) (lv' := [(0, .ref (B + 0)), (1, .ref (B + 41)), (2, .ref (B + 39)), (3, .int l3), (4, .int l4), (5, .int 0), (6, .int (l6 - v24)), (7, .int l7), (8, .int l8)]) X dL_areShifts_150 (by decide) [1, 2, 3, 4, 5, 0, 6, 7, 8] rfl ?_
          refine r_iconst (v := 0) (pc := 152) X dL_areShifts_152 (by decide) ?_
          refine r_istore (pc := 153) (lv' := [(0, .ref (B + 0)), (1, .ref (B + 41)), (2, .ref (B + 39)), (3, .int l3), (4, .int l4), (5, .int 0), (6, .int (l6 - v24)), (7, .int l7), (8, .int l8), (9, .int 0)]) X dL_areShifts_153 (by decide) [1, 2, 3, 4, 5, 6, 7, 8, 9, 0] rfl ?_
          exact c_f_L_areShifts_b155 X M Y hr (fun hc hf => ih hc hf) _ hc hf
set_option maxHeartbeats 1000000 in
theorem c_f_L_areShifts_b74 {F Z : Nat} {c0 : Nat} {Γ : Ga} {D : DD} {B : Nat} {r : Int32} {s' : St} (X : Cx Γ RL cL_areShifts 13 D B (RMg Z c0 7 113)) (M : RLe (RMg Z c0 7 113) Z 0 0 c0 7 113) (Y : Xy Γ B) (hr : (Gme Γ).sig.returnType = (some .boolean)) {K18 : St → Int32 → Int32 → Int32 → Int32 → Int32 → Option (Int32 × St)} (hK18 : ∀ {s : St} {l3 : Int32} {l4 : Int32} {l5 : Int32} {l6 : Int32} {l7 : Int32}, Hc c0 Z s → K18 s l3 l4 l5 l6 l7 = some (r, s') → V Γ D B true 13 (QX Γ D B true s' (.inl (some (.int r))) (64 * (ct s' - c0)) (768 * (ct s' - c0))) (kg 0 c0 s) (ng 0 c0 s) s 18 [(0, .ref (B + 0)), (1, .ref (B + 41)), (2, .ref (B + 39)), (3, .int l3), (4, .int l4), (5, .int l5), (6, .int l6), (7, .int l7)] []) {s : St} {l3 : Int32} {l4 : Int32} {l6 : Int32} {l7 : Int32} {l8 : Int32} {t0 : Int32} (hc : Hc c0 Z s) (hf : f_L_areShifts_b74 F Z K18 s l3 l4 l6 l7 l8 t0 = some (r, s')) : V Γ D B true 13 (QX Γ D B true s' (.inl (some (.int r))) (64 * (ct s' - c0)) (768 * (ct s' - c0))) (kg 0 c0 s) (ng 0 c0 s) s 74 [(0, .ref (B + 0)), (1, .ref (B + 41)), (2, .ref (B + 39)), (3, .int l3), (4, .int l4), (6, .int l6), (7, .int l7), (8, .int l8)] [.int t0] := by
  unfold f_L_areShifts_b74 at hf
  refine r_istore (pc := 74) (lv' := [(0, .ref (B + 0)), (1, .ref (B + 41)), (2, .ref (B + 39)), (3, .int l3), (4, .int l4), (5, .int t0), (6, .int l6), (7, .int l7), (8, .int l8)]) X dL_areShifts_74 (by decide) [1, 2, 3, 4, 5, 0, 6, 7, 8] rfl ?_
  refine r_iload (pc := 76) X dL_areShifts_76 6 rfl ?_
  refine r_iload (pc := 78) X dL_areShifts_78 8 rfl ?_
  refine b_if_lt (tgt := 94) (pc := 80) X dL_areShifts_80 (by decide) hf (fun hf => ?_) (fun hf => ?_)
  · refine r_iconst (v := 0) (pc := 94) X dL_areShifts_94 (by decide) ?_
    refine r_iadd (pc := 95) X dL_areShifts_95 ?_
    refine r_istore (pc := 96) (lv' := [(0, .ref (B + 0)), (1, .ref (B + 41)), (2, .ref (B + 39)), (3, .int l3), (4, .int l4), (5, .int t0), (6, .int (l6 + 0)), (7, .int l7)]) X dL_areShifts_96 (by decide) [1, 2, 3, 4, 5, 6, 0, 7] rfl ?_
    refine r_iinc (v := l7 + 1) (lv' := [(0, .ref (B + 0)), (1, .ref (B + 41)), (2, .ref (B + 39)), (3, .int l3), (4, .int l4), (5, .int t0), (6, .int (l6 + 0)), (7, .int (l7 + 1))]) (pc := 98) X dL_areShifts_98 7 rfl rfl (by decide) [1, 2, 3, 4, 5, 6, 7, 0] rfl ?_
    refine r_goto (tgt := 18) (pc := 101) X dL_areShifts_101 (by decide) ?_
    exact hK18 hc hf
  · refine r_iload (pc := 83) X dL_areShifts_83 7 rfl ?_
    refine r_iconst (v := 3) (pc := 85) X dL_areShifts_85 (by decide) ?_
    refine r_irem (pc := 86) X dL_areShifts_86 (by decide) ?_
    refine b_if_ne (tgt := 94) (pc := 87) X dL_areShifts_87 (by decide) hf (fun hf => ?_) (fun hf => ?_)
    · refine r_iconst (v := 1) (pc := 90) X dL_areShifts_90 (by decide) ?_
      refine r_goto (tgt := 95) (pc := 91) X dL_areShifts_91 (by decide) ?_
      refine r_iadd (pc := 95) X dL_areShifts_95 ?_
      refine r_istore (pc := 96) (lv' := [(0, .ref (B + 0)), (1, .ref (B + 41)), (2, .ref (B + 39)), (3, .int l3), (4, .int l4), (5, .int t0), (6, .int (l6 + 1)), (7, .int l7)]) X dL_areShifts_96 (by decide) [1, 2, 3, 4, 5, 6, 0, 7] rfl ?_
      refine r_iinc (v := l7 + 1) (lv' := [(0, .ref (B + 0)), (1, .ref (B + 41)), (2, .ref (B + 39)), (3, .int l3), (4, .int l4), (5, .int t0), (6, .int (l6 + 1)), (7, .int (l7 + 1))]) (pc := 98) X dL_areShifts_98 7 rfl rfl (by decide) [1, 2, 3, 4, 5, 6, 7, 0] rfl ?_
      refine r_goto (tgt := 18) (pc := 101) X dL_areShifts_101 (by decide) ?_
      exact hK18 hc hf
    · refine r_iconst (v := 0) (pc := 94) X dL_areShifts_94 (by decide) ?_
      refine r_iadd (pc := 95) X dL_areShifts_95 ?_
      refine r_istore (pc := 96) (lv' := [(0, .ref (B + 0)), (1, .ref (B + 41)), (2, .ref (B + 39)), (3, .int l3), (4, .int l4), (5, .int t0), (6, .int (l6 + 0)), (7, .int l7)]) X dL_areShifts_96 (by decide) [1, 2, 3, 4, 5, 6, 0, 7] rfl ?_
      refine r_iinc (v := l7 + 1) (lv' := [(0, .ref (B + 0)), (1, .ref (B + 41)), (2, .ref (B + 39)), (3, .int l3), (4, .int l4), (5, .int t0), (6, .int (l6 + 0)), (7, .int (l7 + 1))]) (pc := 98) X dL_areShifts_98 7 rfl rfl (by decide) [1, 2, 3, 4, 5, 6, 7, 0] rfl ?_
      refine r_goto (tgt := 18) (pc := 101) X dL_areShifts_101 (by decide) ?_
      exact hK18 hc hf
set_option maxHeartbeats 1000000 in
theorem c_f_L_areShifts_b18 {F Z : Nat} {c0 : Nat} {Γ : Ga} {D : DD} {B : Nat} {r : Int32} {s' : St} (X : Cx Γ RL cL_areShifts 13 D B (RMg Z c0 7 113)) (M : RLe (RMg Z c0 7 113) Z 0 0 c0 7 113) (Y : Xy Γ B) (hr : (Gme Γ).sig.returnType = (some .boolean)) : ∀ (n : Nat) {s : St} {l3 : Int32} {l4 : Int32} {l5 : Int32} {l6 : Int32} {l7 : Int32}, Hc c0 Z s → f_L_areShifts_b18 F Z n s l3 l4 l5 l6 l7 = some (r, s') → V Γ D B true 13 (QX Γ D B true s' (.inl (some (.int r))) (64 * (ct s' - c0)) (768 * (ct s' - c0))) (kg 0 c0 s) (ng 0 c0 s) s 18 [(0, .ref (B + 0)), (1, .ref (B + 41)), (2, .ref (B + 39)), (3, .int l3), (4, .int l4), (5, .int l5), (6, .int l6), (7, .int l7)] [] := by
  intro n
  induction n with
  | zero => intro s l3 l4 l5 l6 l7 hc hf; rw [f_L_areShifts_b18] at hf; cases hf
  | succ n ih =>
    intro s l3 l4 l5 l6 l7 hc hf
    rw [f_L_areShifts_b18] at hf
    refine r_iload (pc := 18) X dL_areShifts_18 7 rfl ?_
    refine r_iload (pc := 20) X dL_areShifts_20 4 rfl ?_
    refine b_icmp_gt (tgt := 104) (pc := 22) X dL_areShifts_22 (by decide) hf (fun hf => ?_) (fun hf => ?_)
    · refine r_iconst (v := 0) (pc := 104) X dL_areShifts_104 (by decide) ?_
      refine r_istore (pc := 105) (lv' := [(0, .ref (B + 0)), (1, .ref (B + 41)), (2, .ref (B + 39)), (3, .int l3), (4, .int l4), (5, .int l5), (6, .int l6), (7, .int 0)]) X dL_areShifts_105 (by decide) [1, 2, 3, 4, 5, 6, 7, 0] rfl ?_
      refine r_iconst (v := 0) (pc := 107) X dL_areShifts_107 (by decide) ?_
      refine r_istore (pc := 108) (lv' := [(0, .ref (B + 0)), (1, .ref (B + 41)), (2, .ref (B + 39)), (3, .int l3), (4, .int l4), (5, .int l5), (6, .int l6), (7, .int 0), (8, .int 0)]) X dL_areShifts_108 (by decide) [1, 2, 3, 4, 5, 6, 7, 8, 0] rfl ?_
      exact c_f_L_areShifts_b110 X M Y hr _ hc hf
    · refine r_iload (pc := 25) X dL_areShifts_25 5 rfl ?_
      refine b_if_eq (tgt := 104) (pc := 27) X dL_areShifts_27 (by decide) hf (fun hf => ?_) (fun hf => ?_)
      · refine r_iconst (v := 0) (pc := 104) X dL_areShifts_104 (by decide) ?_
        refine r_istore (pc := 105) (lv' := [(0, .ref (B + 0)), (1, .ref (B + 41)), (2, .ref (B + 39)), (3, .int l3), (4, .int l4), (5, .int l5), (6, .int l6), (7, .int 0)]) X dL_areShifts_105 (by decide) [1, 2, 3, 4, 5, 6, 7, 0] rfl ?_
        refine r_iconst (v := 0) (pc := 107) X dL_areShifts_107 (by decide) ?_
        refine r_istore (pc := 108) (lv' := [(0, .ref (B + 0)), (1, .ref (B + 41)), (2, .ref (B + 39)), (3, .int l3), (4, .int l4), (5, .int l5), (6, .int l6), (7, .int 0), (8, .int 0)]) X dL_areShifts_108 (by decide) [1, 2, 3, 4, 5, 6, 7, 8, 0] rfl ?_
        exact c_f_L_areShifts_b110 X M Y hr _ hc hf
      · refine r_aload_n (x := some 0) (pc := 30) X dL_areShifts_30 0 rfl ?_
        refine r_iload (pc := 31) X dL_areShifts_31 7 rfl ?_
        refine bnd hf (fun x30 h30 hf => ?_)
        refine bnd hf (fun v31 h30v hf => ?_)
        refine y_callXVi (As := [.int l7]) (st := []) (pc := 33) X M Y hc (qc_run (ou := ouI) hc.2 (fun z x h => c_f_P_holder h) h30) rfl w_806 w_807 w_808 w_36 w_809 hdV_X10_holder (Rc.s rfl ce_0) (by decide) (Nat.le_of_ble_eq_true rfl) dL_areShifts_33 rfl h30v (fun hc => ?_)
        refine r_istore (pc := 36) (lv' := [(0, .ref (B + 0)), (1, .ref (B + 41)), (2, .ref (B + 39)), (3, .int l3), (4, .int l4), (6, .int l6), (7, .int l7), (8, .int v31)]) X dL_areShifts_36 (by decide) [1, 2, 3, 4, 5, 7, 8, 0] rfl ?_
        refine r_iload (pc := 38) X dL_areShifts_38 7 rfl ?_
        refine r_iconst (v := -1) (pc := 40) X dL_areShifts_40 (by decide) ?_
        refine b_icmp_lt (tgt := 73) (pc := 41) X dL_areShifts_41 (by decide) hf (fun hf => ?_) (fun hf => ?_)
        · refine r_iconst (v := 0) (pc := 73) X dL_areShifts_73 (by decide) ?_
          exact c_f_L_areShifts_b74 X M Y hr (fun hc hf => ih hc hf) hc hf
        · refine r_iload (pc := 44) X dL_areShifts_44 7 rfl ?_
          refine r_aload_n (x := some 39) (pc := 46) X dL_areShifts_46 2 rfl ?_
          refine r_iconst (v := 0) (pc := 47) X dL_areShifts_47 (by decide) ?_
          refine b_iald (pc := 48) X ce_39 dL_areShifts_48 hf (fun j32 hf => ?_)
          refine b_icmp_ge (tgt := 73) (pc := 49) X dL_areShifts_49 (by decide) hf (fun hf => ?_) (fun hf => ?_)
          · refine r_iconst (v := 0) (pc := 73) X dL_areShifts_73 (by decide) ?_
            exact c_f_L_areShifts_b74 X M Y hr (fun hc hf => ih hc hf) hc hf
          · refine r_iload (pc := 52) X dL_areShifts_52 7 rfl ?_
            refine b_if_lt (tgt := 69) (pc := 54) X dL_areShifts_54 (by decide) hf (fun hf => ?_) (fun hf => ?_)
            · refine r_iconst (v := 1) (pc := 69) X dL_areShifts_69 (by decide) ?_
              refine r_goto (tgt := 74) (pc := 70) X dL_areShifts_70 (by decide) ?_
              exact c_f_L_areShifts_b74 X M Y hr (fun hc hf => ih hc hf) hc hf
            · refine r_aload_n (x := some 41) (pc := 57) X dL_areShifts_57 1 rfl ?_
              refine r_iload (pc := 58) X dL_areShifts_58 6 rfl ?_
              refine b_iald (pc := 60) X ce_41 dL_areShifts_60 hf (fun j33 hf => ?_)
              refine r_iload (pc := 61) X dL_areShifts_61 7 rfl ?_
              refine r_ishr (pc := 63) X dL_areShifts_63 ?_
              refine r_iconst (v := 1) (pc := 64) X dL_areShifts_64 (by decide) ?_
              refine r_iand (pc := 65) X dL_areShifts_65 ?_
              refine b_if_ne (tgt := 73) (pc := 66) X dL_areShifts_66 (by decide) hf (fun hf => ?_) (fun hf => ?_)
              · refine r_iconst (v := 1) (pc := 69) X dL_areShifts_69 (by decide) ?_
                refine r_goto (tgt := 74) (pc := 70) X dL_areShifts_70 (by decide) ?_
                exact c_f_L_areShifts_b74 X M Y hr (fun hc hf => ih hc hf) hc hf
              · refine r_iconst (v := 0) (pc := 73) X dL_areShifts_73 (by decide) ?_
                exact c_f_L_areShifts_b74 X M Y hr (fun hc hf => ih hc hf) hc hf
set_option maxHeartbeats 1000000 in
theorem c_f_L_areShifts {F Z : Nat} {s : St} {p3 : Int32} {r : Int32} {s' : St} (hf : f_L_areShifts F Z s p3 = some (r, s')) (hz : ct s ≤ Z) : CX true yL_areShifts (Cond.code yL_areShifts cL_areShifts 13 (some .boolean)) 7 113 (64 * (Z - ct s)) (768 * (Z - ct s)) (fun B => [.ref (B + 0), .ref (B + 41), .ref (B + 39), .int p3]) s (fun B => .inl (some (.int r))) s' (64 * (ct s' - ct s)) (768 * (ct s' - ct s)) := by
  refine CX.ofL (fun B => [(0, .ref (B + 0)), (1, .ref (B + 41)), (2, .ref (B + 39)), (3, .int p3)]) (by decide +kernel) (fun _ => rfl) (fun _ => (by simp [lg_sl, rfB_cat, catI, catL, catR])) (fun Γ D B X Y hr => ?_)
  have X : Cx Γ RL cL_areShifts 13 D B (RMg Z (ct s) 7 113) := X
  have M : RLe (RMg Z (ct s) 7 113) Z 0 0 (ct s) 7 113 := RLe.rf
  have hc : Hc (ct s) Z s := ⟨Nat.le_refl _, hz⟩
  unfold f_L_areShifts at hf
  refine r_aload_n (x := some 0) (pc := 0) X dL_areShifts_0 0 rfl ?_
  refine bnd hf (fun x1 h1 hf => ?_)
  refine y_callVi (As := []) (st := []) (pc := 1) X M hc (c_f_P_now h1) rfl w_317 w_318 w_319 w_36 w_320 hdV_X10_now (Rc.s rfl ce_0) (by decide) (Nat.le_of_ble_eq_true rfl) dL_areShifts_1 rfl hf (fun s2 hc hf => ?_)
  refine r_bipush (v := 8) (pc := 4) X dL_areShifts_4 (by decide) ?_
  refine r_idiv (pc := 6) X dL_areShifts_6 (by decide) ?_
  refine r_istore (pc := 7) (lv' := [(0, .ref (B + 0)), (1, .ref (B + 41)), (2, .ref (B + 39)), (3, .int p3), (4, .int (x1.1 / 8))]) X dL_areShifts_7 (by decide) [1, 2, 3, 4, 0] rfl ?_
  refine r_iconst (v := 1) (pc := 9) X dL_areShifts_9 (by decide) ?_
  refine r_istore (pc := 10) (lv' := [(0, .ref (B + 0)), (1, .ref (B + 41)), (2, .ref (B + 39)), (3, .int p3), (4, .int (x1.1 / 8)), (5, .int 1)]) X dL_areShifts_10 (by decide) [1, 2, 3, 4, 5, 0] rfl ?_
  refine r_iconst (v := 0) (pc := 12) X dL_areShifts_12 (by decide) ?_
  refine r_istore (pc := 13) (lv' := [(0, .ref (B + 0)), (1, .ref (B + 41)), (2, .ref (B + 39)), (3, .int p3), (4, .int (x1.1 / 8)), (5, .int 1), (6, .int 0)]) X dL_areShifts_13 (by decide) [1, 2, 3, 4, 5, 6, 0] rfl ?_
  refine r_iconst (v := 1) (pc := 15) X dL_areShifts_15 (by decide) ?_
  refine r_istore (pc := 16) (lv' := [(0, .ref (B + 0)), (1, .ref (B + 41)), (2, .ref (B + 39)), (3, .int p3), (4, .int (x1.1 / 8)), (5, .int 1), (6, .int 0), (7, .int 1)]) X dL_areShifts_16 (by decide) [1, 2, 3, 4, 5, 6, 7, 0] rfl ?_
  exact c_f_L_areShifts_b18 X M Y hr _ hc hf
/-! f_L_isSwapped -/
theorem dL_isSwapped_0 : decode cL_isSwapped 0 = .ok (.aload_n 0, 1) := by decide +kernel
theorem dL_isSwapped_1 : decode cL_isSwapped 1 = .ok (.iload_n 3, 1) := by decide +kernel
theorem dL_isSwapped_2 : decode cL_isSwapped 2 = .ok (.invokevirtual 66, 3) := by decide +kernel
theorem dL_isSwapped_5 : decode cL_isSwapped 5 = .ok (.istore 5, 2) := by decide +kernel
theorem dL_isSwapped_7 : decode cL_isSwapped 7 = .ok (.aload_n 0, 1) := by decide +kernel
theorem dL_isSwapped_8 : decode cL_isSwapped 8 = .ok (.iload 4, 2) := by decide +kernel
theorem dL_isSwapped_10 : decode cL_isSwapped 10 = .ok (.invokevirtual 66, 3) := by decide +kernel
theorem dL_isSwapped_13 : decode cL_isSwapped 13 = .ok (.istore 6, 2) := by decide +kernel
theorem dL_isSwapped_15 : decode cL_isSwapped 15 = .ok (.iload 5, 2) := by decide +kernel
theorem dL_isSwapped_17 : decode cL_isSwapped 17 = .ok (.ifCond .lt 37, 3) := by decide +kernel
theorem dL_isSwapped_20 : decode cL_isSwapped 20 = .ok (.iload 5, 2) := by decide +kernel
theorem dL_isSwapped_22 : decode cL_isSwapped 22 = .ok (.iload 6, 2) := by decide +kernel
theorem dL_isSwapped_24 : decode cL_isSwapped 24 = .ok (.if_icmp .eq 30, 3) := by decide +kernel
theorem dL_isSwapped_27 : decode cL_isSwapped 27 = .ok (.aload_n 1, 1) := by decide +kernel
theorem dL_isSwapped_28 : decode cL_isSwapped 28 = .ok (.iload 4, 2) := by decide +kernel
theorem dL_isSwapped_30 : decode cL_isSwapped 30 = .ok (.iaload, 1) := by decide +kernel
theorem dL_isSwapped_31 : decode cL_isSwapped 31 = .ok (.iload 5, 2) := by decide +kernel
theorem dL_isSwapped_33 : decode cL_isSwapped 33 = .ok (.ishr, 1) := by decide +kernel
theorem dL_isSwapped_34 : decode cL_isSwapped 34 = .ok (.iconst 1, 1) := by decide +kernel
theorem dL_isSwapped_35 : decode cL_isSwapped 35 = .ok (.iand, 1) := by decide +kernel
theorem dL_isSwapped_36 : decode cL_isSwapped 36 = .ok (.ifCond .ne 18, 3) := by decide +kernel
theorem dL_isSwapped_39 : decode cL_isSwapped 39 = .ok (.aload_n 1, 1) := by decide +kernel
theorem dL_isSwapped_40 : decode cL_isSwapped 40 = .ok (.iload_n 3, 1) := by decide +kernel
theorem dL_isSwapped_41 : decode cL_isSwapped 41 = .ok (.iaload, 1) := by decide +kernel
theorem dL_isSwapped_42 : decode cL_isSwapped 42 = .ok (.iload 6, 2) := by decide +kernel
theorem dL_isSwapped_44 : decode cL_isSwapped 44 = .ok (.ishr, 1) := by decide +kernel
theorem dL_isSwapped_45 : decode cL_isSwapped 45 = .ok (.iconst 1, 1) := by decide +kernel
theorem dL_isSwapped_46 : decode cL_isSwapped 46 = .ok (.iand, 1) := by decide +kernel
theorem dL_isSwapped_47 : decode cL_isSwapped 47 = .ok (.ifCond .ne 7, 3) := by decide +kernel
theorem dL_isSwapped_50 : decode cL_isSwapped 50 = .ok (.iconst 1, 1) := by decide +kernel
theorem dL_isSwapped_51 : decode cL_isSwapped 51 = .ok (.goto 4, 3) := by decide +kernel
theorem dL_isSwapped_54 : decode cL_isSwapped 54 = .ok (.iconst 0, 1) := by decide +kernel
theorem dL_isSwapped_55 : decode cL_isSwapped 55 = .ok (.istore 7, 2) := by decide +kernel
theorem dL_isSwapped_57 : decode cL_isSwapped 57 = .ok (.iload_n 3, 1) := by decide +kernel
theorem dL_isSwapped_58 : decode cL_isSwapped 58 = .ok (.iload 4, 2) := by decide +kernel
theorem dL_isSwapped_60 : decode cL_isSwapped 60 = .ok (.if_icmp .ne 9, 3) := by decide +kernel
theorem dL_isSwapped_63 : decode cL_isSwapped 63 = .ok (.sipush (-1242), 3) := by decide +kernel
theorem dL_isSwapped_66 : decode cL_isSwapped 66 = .ok (.goto 15, 3) := by decide +kernel
theorem dL_isSwapped_69 : decode cL_isSwapped 69 = .ok (.iload 7, 2) := by decide +kernel
theorem dL_isSwapped_71 : decode cL_isSwapped 71 = .ok (.ifCond .eq 7, 3) := by decide +kernel
theorem dL_isSwapped_74 : decode cL_isSwapped 74 = .ok (.iconst 0, 1) := by decide +kernel
theorem dL_isSwapped_75 : decode cL_isSwapped 75 = .ok (.goto 6, 3) := by decide +kernel
theorem dL_isSwapped_78 : decode cL_isSwapped 78 = .ok (.sipush (-1243), 3) := by decide +kernel
theorem dL_isSwapped_81 : decode cL_isSwapped 81 = .ok (.istore 8, 2) := by decide +kernel
theorem dL_isSwapped_83 : decode cL_isSwapped 83 = .ok (.aload_n 0, 1) := by decide +kernel
theorem dL_isSwapped_84 : decode cL_isSwapped 84 = .ok (.iload_n 3, 1) := by decide +kernel
theorem dL_isSwapped_85 : decode cL_isSwapped 85 = .ok (.iload 4, 2) := by decide +kernel
theorem dL_isSwapped_87 : decode cL_isSwapped 87 = .ok (.invokestatic 164, 3) := by decide +kernel
theorem dL_isSwapped_90 : decode cL_isSwapped 90 = .ok (.iload 8, 2) := by decide +kernel
theorem dL_isSwapped_92 : decode cL_isSwapped 92 = .ok (.if_icmp .ne 7, 3) := by decide +kernel
theorem dL_isSwapped_95 : decode cL_isSwapped 95 = .ok (.iconst 1, 1) := by decide +kernel
theorem dL_isSwapped_96 : decode cL_isSwapped 96 = .ok (.goto 4, 3) := by decide +kernel
theorem dL_isSwapped_99 : decode cL_isSwapped 99 = .ok (.iconst 0, 1) := by decide +kernel
theorem dL_isSwapped_100 : decode cL_isSwapped 100 = .ok (.istore 9, 2) := by decide +kernel
theorem dL_isSwapped_102 : decode cL_isSwapped 102 = .ok (.iload 9, 2) := by decide +kernel
theorem dL_isSwapped_104 : decode cL_isSwapped 104 = .ok (.ifCond .eq 48, 3) := by decide +kernel
theorem dL_isSwapped_107 : decode cL_isSwapped 107 = .ok (.aload_n 0, 1) := by decide +kernel
theorem dL_isSwapped_108 : decode cL_isSwapped 108 = .ok (.iload_n 3, 1) := by decide +kernel
theorem dL_isSwapped_109 : decode cL_isSwapped 109 = .ok (.invokevirtual 66, 3) := by decide +kernel
theorem dL_isSwapped_112 : decode cL_isSwapped 112 = .ok (.iload 8, 2) := by decide +kernel
theorem dL_isSwapped_114 : decode cL_isSwapped 114 = .ok (.ifCond .ne 8, 3) := by decide +kernel
theorem dL_isSwapped_117 : decode cL_isSwapped 117 = .ok (.iload 6, 2) := by decide +kernel
theorem dL_isSwapped_119 : decode cL_isSwapped 119 = .ok (.goto 5, 3) := by decide +kernel
theorem dL_isSwapped_122 : decode cL_isSwapped 122 = .ok (.iload 5, 2) := by decide +kernel
theorem dL_isSwapped_124 : decode cL_isSwapped 124 = .ok (.if_icmp .ne 28, 3) := by decide +kernel
theorem dL_isSwapped_127 : decode cL_isSwapped 127 = .ok (.aload_n 0, 1) := by decide +kernel
theorem dL_isSwapped_128 : decode cL_isSwapped 128 = .ok (.iload 4, 2) := by decide +kernel
theorem dL_isSwapped_130 : decode cL_isSwapped 130 = .ok (.invokevirtual 66, 3) := by decide +kernel
theorem dL_isSwapped_133 : decode cL_isSwapped 133 = .ok (.iload 8, 2) := by decide +kernel
theorem dL_isSwapped_135 : decode cL_isSwapped 135 = .ok (.ifCond .ne 8, 3) := by decide +kernel
theorem dL_isSwapped_138 : decode cL_isSwapped 138 = .ok (.iload 5, 2) := by decide +kernel
theorem dL_isSwapped_140 : decode cL_isSwapped 140 = .ok (.goto 5, 3) := by decide +kernel
theorem dL_isSwapped_143 : decode cL_isSwapped 143 = .ok (.iload 6, 2) := by decide +kernel
theorem dL_isSwapped_145 : decode cL_isSwapped 145 = .ok (.if_icmp .ne 7, 3) := by decide +kernel
theorem dL_isSwapped_148 : decode cL_isSwapped 148 = .ok (.iconst 1, 1) := by decide +kernel
theorem dL_isSwapped_149 : decode cL_isSwapped 149 = .ok (.goto 4, 3) := by decide +kernel
theorem dL_isSwapped_152 : decode cL_isSwapped 152 = .ok (.iconst 0, 1) := by decide +kernel
theorem dL_isSwapped_153 : decode cL_isSwapped 153 = .ok (.ireturn, 1) := by decide +kernel
def f_L_isSwapped_b124 (F Z : Nat) (s : St) (l4 : Int32) (l5 : Int32) (l6 : Int32) (l8 : Int32) (t0 : Int32) (t1 : Int32) : Option (Int32 × St) :=
  if t0 = t1 then
    ((qc Z s (fun z => f_P_planned F z s l4)).bind fun x8 => ((an x8.1).bind fun v9 => (if l8 = 0 then
      (if v9 = l5 then
        (some (1, x8.2))
      else
        (some (0, x8.2)))
    else
      (if v9 = l6 then
        (some (1, x8.2))
      else
        (some (0, x8.2))))))
  else
    (some (0, s))
def f_L_isSwapped_b100 (F Z : Nat) (s : St) (l3 : Int32) (l4 : Int32) (l5 : Int32) (l6 : Int32) (l8 : Int32) (t0 : Int32) : Option (Int32 × St) :=
  if t0 = 0 then
    (some (0, s))
  else
    ((qc Z s (fun z => f_P_planned F z s l3)).bind fun x6 => ((an x6.1).bind fun v7 => (if l8 = 0 then
      (f_L_isSwapped_b124 F Z x6.2 l4 l5 l6 l8 v7 l6)
    else
      (f_L_isSwapped_b124 F Z x6.2 l4 l5 l6 l8 v7 l5))))
def f_L_isSwapped_b55 (F Z : Nat) (s : St) (l3 : Int32) (l4 : Int32) (l5 : Int32) (l6 : Int32) (t0 : Int32) : Option (Int32 × St) :=
  if l3 = l4 then
    ((f_L_swapped F Z s l3 l4).bind fun x5 => (if ct s ≤ ct x5.2 ∧ ct x5.2 ≤ Z then (if x5.1 = (-1242) then
      (f_L_isSwapped_b100 F Z x5.2 l3 l4 l5 l6 (-1242) 1)
    else
      (f_L_isSwapped_b100 F Z x5.2 l3 l4 l5 l6 (-1242) 0)) else none))
  else
    (if t0 = 0 then
      ((f_L_swapped F Z s l3 l4).bind fun x10 => (if ct s ≤ ct x10.2 ∧ ct x10.2 ≤ Z then (if x10.1 = (-1243) then
        (f_L_isSwapped_b100 F Z x10.2 l3 l4 l5 l6 (-1243) 1)
      else
        (f_L_isSwapped_b100 F Z x10.2 l3 l4 l5 l6 (-1243) 0)) else none))
    else
      ((f_L_swapped F Z s l3 l4).bind fun x11 => (if ct s ≤ ct x11.2 ∧ ct x11.2 ≤ Z then (if x11.1 = 0 then
        (f_L_isSwapped_b100 F Z x11.2 l3 l4 l5 l6 0 1)
      else
        (f_L_isSwapped_b100 F Z x11.2 l3 l4 l5 l6 0 0)) else none)))
def f_L_isSwapped (F Z : Nat) (s : St) (p3 : Int32) (p4 : Int32) : Option (Int32 × St) :=
  (qc Z s (fun z => f_P_planned F z s p3)).bind fun x1 => ((an x1.1).bind fun v2 => ((qc Z x1.2 (fun z => f_P_planned F z x1.2 p4)).bind fun x3 => ((an x3.1).bind fun v4 => (if v2 < 0 then
    (f_L_isSwapped_b55 F Z x3.2 p3 p4 v2 v4 0)
  else
    (if v2 = v4 then
      (f_L_isSwapped_b55 F Z x3.2 p3 p4 v2 v4 0)
    else
      ((ix 64 p4).bind fun j12 => (if (((gA x3.2 41 j12) >>> (v2 &&& 31)) &&& 1) = 0 then
        ((ix 64 p3).bind fun j13 => (if (((gA x3.2 41 j13) >>> (v4 &&& 31)) &&& 1) = 0 then
          (f_L_isSwapped_b55 F Z x3.2 p3 p4 v2 v4 1)
        else
          (f_L_isSwapped_b55 F Z x3.2 p3 p4 v2 v4 0)))
      else
        (f_L_isSwapped_b55 F Z x3.2 p3 p4 v2 v4 0))))))))
set_option maxHeartbeats 1000000 in
theorem c_f_L_isSwapped_b124 {F Z : Nat} {c0 : Nat} {Γ : Ga} {D : DD} {B : Nat} {r : Int32} {s' : St} (X : Cx Γ RL cL_isSwapped 10 D B (RMg Z c0 8 137)) (M : RLe (RMg Z c0 8 137) Z 0 0 c0 8 137) (Y : Xy Γ B) (hr : (Gme Γ).sig.returnType = (some .boolean)) {s : St} {l4 : Int32} {l5 : Int32} {l6 : Int32} {l8 : Int32} {t0 : Int32} {t1 : Int32} (hc : Hc c0 Z s) (hf : f_L_isSwapped_b124 F Z s l4 l5 l6 l8 t0 t1 = some (r, s')) : V Γ D B true 10 (QX Γ D B true s' (.inl (some (.int r))) (64 * (ct s' - c0)) (768 * (ct s' - c0))) (kg 0 c0 s) (ng 0 c0 s) s 124 [(0, .ref (B + 0)), (4, .int l4), (5, .int l5), (6, .int l6), (8, .int l8)] [.int t1, .int t0] := by
  unfold f_L_isSwapped_b124 at hf
  refine b_icmp_ne (tgt := 152) (pc := 124) X dL_isSwapped_124 (by decide) hf (fun hf => ?_) (fun hf => ?_)
  · refine r_aload_n (x := some 0) (pc := 127) X dL_isSwapped_127 0 rfl ?_
    refine r_iload (pc := 128) X dL_isSwapped_128 1 rfl ?_
    refine bnd hf (fun x8 h8 hf => ?_)
    refine bnd hf (fun v9 h8v hf => ?_)
    refine y_callXVi (As := [.int l4]) (st := []) (pc := 130) X M Y hc (qc_run (ou := ouI) hc.2 (fun z x h => c_f_P_planned h) h8) rfl w_801 w_802 w_803 w_36 w_804 hdV_X10_planned (Rc.s rfl ce_0) (by decide) (Nat.le_of_ble_eq_true rfl) dL_isSwapped_130 rfl h8v (fun hc => ?_)
    refine r_iload (pc := 133) X dL_isSwapped_133 4 rfl ?_
    refine b_if_ne (tgt := 143) (pc := 135) X dL_isSwapped_135 (by decide) hf (fun hf => ?_) (fun hf => ?_)
    · refine r_iload (pc := 138) X dL_isSwapped_138 2 rfl ?_
      refine r_goto (tgt := 145) (pc := 140) X dL_isSwapped_140 (by decide) ?_
      refine b_icmp_ne (tgt := 152) (pc := 145) X dL_isSwapped_145 (by decide) hf (fun hf => ?_) (fun hf => ?_)
      · refine r_iconst (v := 1) (pc := 148) X dL_isSwapped_148 (by decide) ?_
        refine r_goto (tgt := 153) (pc := 149) X dL_isSwapped_149 (by decide) ?_
        exact y_zret (pc := 153) X hr (by decide) hf dL_isSwapped_153
      · refine r_iconst (v := 0) (pc := 152) X dL_isSwapped_152 (by decide) ?_
        exact y_zret (pc := 153) X hr (by decide) hf dL_isSwapped_153
    · refine r_iload (pc := 143) X dL_isSwapped_143 3 rfl ?_
      refine b_icmp_ne (tgt := 152) (pc := 145) X dL_isSwapped_145 (by decide) hf (fun hf => ?_) (fun hf => ?_)
      · refine r_iconst (v := 1) (pc := 148) X dL_isSwapped_148 (by decide) ?_
        refine r_goto (tgt := 153) (pc := 149) X dL_isSwapped_149 (by decide) ?_
        exact y_zret (pc := 153) X hr (by decide) hf dL_isSwapped_153
      · refine r_iconst (v := 0) (pc := 152) X dL_isSwapped_152 (by decide) ?_
        exact y_zret (pc := 153) X hr (by decide) hf dL_isSwapped_153
  · refine r_iconst (v := 0) (pc := 152) X dL_isSwapped_152 (by decide) ?_
    exact y_zret (pc := 153) X hr (by decide) hf dL_isSwapped_153
set_option maxHeartbeats 1000000 in
theorem c_f_L_isSwapped_b100 {F Z : Nat} {c0 : Nat} {Γ : Ga} {D : DD} {B : Nat} {r : Int32} {s' : St} (X : Cx Γ RL cL_isSwapped 10 D B (RMg Z c0 8 137)) (M : RLe (RMg Z c0 8 137) Z 0 0 c0 8 137) (Y : Xy Γ B) (hr : (Gme Γ).sig.returnType = (some .boolean)) {s : St} {l3 : Int32} {l4 : Int32} {l5 : Int32} {l6 : Int32} {l8 : Int32} {t0 : Int32} (hc : Hc c0 Z s) (hf : f_L_isSwapped_b100 F Z s l3 l4 l5 l6 l8 t0 = some (r, s')) : V Γ D B true 10 (QX Γ D B true s' (.inl (some (.int r))) (64 * (ct s' - c0)) (768 * (ct s' - c0))) (kg 0 c0 s) (ng 0 c0 s) s 100 [(0, .ref (B + 0)), (3, .int l3), (4, .int l4), (5, .int l5), (6, .int l6), (8, .int l8)] [.int t0] := by
  unfold f_L_isSwapped_b100 at hf
  refine r_istore (pc := 100) (lv' := [(0, .ref (B + 0)), (3, .int l3), (4, .int l4), (5, .int l5), (6, .int l6), (8, .int l8), (9, .int t0)]) X dL_isSwapped_100 (by decide) [1, 2, 3, 4, 5, 6, 0] rfl ?_
  refine r_iload (pc := 102) X dL_isSwapped_102 6 rfl ?_
  refine b_if_eq (tgt := 152) (pc := 104) X dL_isSwapped_104 (by decide) hf (fun hf => ?_) (fun hf => ?_)
  · refine r_iconst (v := 0) (pc := 152) X dL_isSwapped_152 (by decide) ?_
    exact y_zret (pc := 153) X hr (by decide) hf dL_isSwapped_153
  · refine r_aload_n (x := some 0) (pc := 107) X dL_isSwapped_107 0 rfl ?_
    refine r_iload_n (pc := 108) X dL_isSwapped_108 1 rfl ?_
    refine bnd hf (fun x6 h6 hf => ?_)
    refine bnd hf (fun v7 h6v hf => ?_)
    refine y_callXVi (As := [.int l3]) (st := []) (pc := 109) X M Y hc (qc_run (ou := ouI) hc.2 (fun z x h => c_f_P_planned h) h6) rfl w_801 w_802 w_803 w_36 w_804 hdV_X10_planned (Rc.s rfl ce_0) (by decide) (Nat.le_of_ble_eq_true rfl) dL_isSwapped_109 rfl h6v (fun hc => ?_)
    refine r_iload (pc := 112) X dL_isSwapped_112 5 rfl ?_
    refine b_if_ne (tgt := 122) (pc := 114) X dL_isSwapped_114 (by decide) hf (fun hf => ?_) (fun hf => ?_)
    · refine r_iload (pc := 117) X dL_isSwapped_117 4 rfl ?_
      refine r_goto (tgt := 124) (pc := 119) X dL_isSwapped_119 (by decide) ?_
      refine r_forget (lv' := [(0, .ref (B + 0)), (4, .int l4), (5, .int l5), (6, .int l6), (8, .int l8)]) [0, 2, 3, 4, 5] rfl ?_
      exact c_f_L_isSwapped_b124 X M Y hr hc hf
    · refine r_iload (pc := 122) X dL_isSwapped_122 3 rfl ?_
      refine r_forget (lv' := [(0, .ref (B + 0)), (4, .int l4), (5, .int l5), (6, .int l6), (8, .int l8)]) [0, 2, 3, 4, 5] rfl ?_
      exact c_f_L_isSwapped_b124 X M Y hr hc hf
set_option maxHeartbeats 1000000 in
theorem c_f_L_isSwapped_b55 {F Z : Nat} {c0 : Nat} {Γ : Ga} {D : DD} {B : Nat} {r : Int32} {s' : St} (X : Cx Γ RL cL_isSwapped 10 D B (RMg Z c0 8 137)) (M : RLe (RMg Z c0 8 137) Z 0 0 c0 8 137) (Y : Xy Γ B) (hr : (Gme Γ).sig.returnType = (some .boolean)) {s : St} {l3 : Int32} {l4 : Int32} {l5 : Int32} {l6 : Int32} {t0 : Int32} (hc : Hc c0 Z s) (hf : f_L_isSwapped_b55 F Z s l3 l4 l5 l6 t0 = some (r, s')) : V Γ D B true 10 (QX Γ D B true s' (.inl (some (.int r))) (64 * (ct s' - c0)) (768 * (ct s' - c0))) (kg 0 c0 s) (ng 0 c0 s) s 55 [(0, .ref (B + 0)), (3, .int l3), (4, .int l4), (5, .int l5), (6, .int l6)] [.int t0] := by
  unfold f_L_isSwapped_b55 at hf
  refine r_istore (pc := 55) (lv' := [(0, .ref (B + 0)), (3, .int l3), (4, .int l4), (5, .int l5), (6, .int l6), (7, .int t0)]) X dL_isSwapped_55 (by decide) [1, 2, 3, 4, 5, 0] rfl ?_
  refine r_iload_n (pc := 57) X dL_isSwapped_57 1 rfl ?_
  refine r_iload (pc := 58) X dL_isSwapped_58 2 rfl ?_
  refine b_icmp_ne (tgt := 69) (pc := 60) X dL_isSwapped_60 (by decide) hf (fun hf => ?_) (fun hf => ?_)
  · refine r_sipush (v := -1242) (pc := 63) X dL_isSwapped_63 (by decide) ?_
    refine r_goto (tgt := 81) (pc := 66) X dL_isSwapped_66 (by decide) ?_
    refine r_istore (pc := 81) (lv' := [(0, .ref (B + 0)), (3, .int l3), (4, .int l4), (5, .int l5), (6, .int l6), (8, .int (-1242))]) X dL_isSwapped_81 (by decide) [1, 2, 3, 4, 5, 0] rfl ?_
    refine r_aload_n (x := some 0) (pc := 83) X dL_isSwapped_83 0 rfl ?_
    refine r_iload_n (pc := 84) X dL_isSwapped_84 1 rfl ?_
    refine r_iload (pc := 85) X dL_isSwapped_85 2 rfl ?_
    refine bnd hf (fun x5 h5 hf => ?_)
    refine ifo hf (fun hz hf => ?_)
    refine y_callWSi (As := [.ref (B + 0), .int l3, .int l4]) (st := []) (pc := 87) X M Y hc (c_f_L_swapped h5 hc.2) rfl w_992 w_993 w_35 w_994 hdS_L_swapped (by decide) hz (Nat.le_of_ble_eq_true rfl) dL_isSwapped_87 rfl (fun hc => ?_)
    refine r_iload (pc := 90) X dL_isSwapped_90 5 rfl ?_
    refine b_icmp_ne (tgt := 99) (pc := 92) X dL_isSwapped_92 (by decide) hf (fun hf => ?_) (fun hf => ?_)
    · refine r_iconst (v := 1) (pc := 95) X dL_isSwapped_95 (by decide) ?_
      refine r_goto (tgt := 100) (pc := 96) X dL_isSwapped_96 (by decide) ?_
      exact c_f_L_isSwapped_b100 X M Y hr hc hf
    · refine r_iconst (v := 0) (pc := 99) X dL_isSwapped_99 (by decide) ?_
      exact c_f_L_isSwapped_b100 X M Y hr hc hf
  · refine r_iload (pc := 69) X dL_isSwapped_69 5 rfl ?_
    refine b_if_eq (tgt := 78) (pc := 71) X dL_isSwapped_71 (by decide) hf (fun hf => ?_) (fun hf => ?_)
    · refine r_sipush (v := -1243) (pc := 78) X dL_isSwapped_78 (by decide) ?_
      refine r_istore (pc := 81) (lv' := [(0, .ref (B + 0)), (3, .int l3), (4, .int l4), (5, .int l5), (6, .int l6), (8, .int (-1243))]) X dL_isSwapped_81 (by decide) [1, 2, 3, 4, 5, 0] rfl ?_
      refine r_aload_n (x := some 0) (pc := 83) X dL_isSwapped_83 0 rfl ?_
      refine r_iload_n (pc := 84) X dL_isSwapped_84 1 rfl ?_
      refine r_iload (pc := 85) X dL_isSwapped_85 2 rfl ?_
      refine bnd hf (fun x10 h10 hf => ?_)
      refine ifo hf (fun hz hf => ?_)
      refine y_callWSi (As := [.ref (B + 0), .int l3, .int l4]) (st := []) (pc := 87) X M Y hc (c_f_L_swapped h10 hc.2) rfl w_992 w_993 w_35 w_994 hdS_L_swapped (by decide) hz (Nat.le_of_ble_eq_true rfl) dL_isSwapped_87 rfl (fun hc => ?_)
      refine r_iload (pc := 90) X dL_isSwapped_90 5 rfl ?_
      refine b_icmp_ne (tgt := 99) (pc := 92) X dL_isSwapped_92 (by decide) hf (fun hf => ?_) (fun hf => ?_)
      · refine r_iconst (v := 1) (pc := 95) X dL_isSwapped_95 (by decide) ?_
        refine r_goto (tgt := 100) (pc := 96) X dL_isSwapped_96 (by decide) ?_
        exact c_f_L_isSwapped_b100 X M Y hr hc hf
      · refine r_iconst (v := 0) (pc := 99) X dL_isSwapped_99 (by decide) ?_
        exact c_f_L_isSwapped_b100 X M Y hr hc hf
    · refine r_iconst (v := 0) (pc := 74) X dL_isSwapped_74 (by decide) ?_
      refine r_goto (tgt := 81) (pc := 75) X dL_isSwapped_75 (by decide) ?_
      refine r_istore (pc := 81) (lv' := [(0, .ref (B + 0)), (3, .int l3), (4, .int l4), (5, .int l5), (6, .int l6), (8, .int 0)]) X dL_isSwapped_81 (by decide) [1, 2, 3, 4, 5, 0] rfl ?_
      refine r_aload_n (x := some 0) (pc := 83) X dL_isSwapped_83 0 rfl ?_
      refine r_iload_n (pc := 84) X dL_isSwapped_84 1 rfl ?_
      refine r_iload (pc := 85) X dL_isSwapped_85 2 rfl ?_
      refine bnd hf (fun x11 h11 hf => ?_)
      refine ifo hf (fun hz hf => ?_)
      refine y_callWSi (As := [.ref (B + 0), .int l3, .int l4]) (st := []) (pc := 87) X M Y hc (c_f_L_swapped h11 hc.2) rfl w_992 w_993 w_35 w_994 hdS_L_swapped (by decide) hz (Nat.le_of_ble_eq_true rfl) dL_isSwapped_87 rfl (fun hc => ?_)
      refine r_iload (pc := 90) X dL_isSwapped_90 5 rfl ?_
      refine b_icmp_ne (tgt := 99) (pc := 92) X dL_isSwapped_92 (by decide) hf (fun hf => ?_) (fun hf => ?_)
      · refine r_iconst (v := 1) (pc := 95) X dL_isSwapped_95 (by decide) ?_
        refine r_goto (tgt := 100) (pc := 96) X dL_isSwapped_96 (by decide) ?_
        exact c_f_L_isSwapped_b100 X M Y hr hc hf
      · refine r_iconst (v := 0) (pc := 99) X dL_isSwapped_99 (by decide) ?_
        exact c_f_L_isSwapped_b100 X M Y hr hc hf
set_option maxHeartbeats 1000000 in
theorem c_f_L_isSwapped {F Z : Nat} {s : St} {p3 : Int32} {p4 : Int32} {r : Int32} {s' : St} (hf : f_L_isSwapped F Z s p3 p4 = some (r, s')) (hz : ct s ≤ Z) : CX true yL_isSwapped (Cond.code yL_isSwapped cL_isSwapped 10 (some .boolean)) 8 137 (64 * (Z - ct s)) (768 * (Z - ct s)) (fun B => [.ref (B + 0), .ref (B + 41), .ref (B + 39), .int p3, .int p4]) s (fun B => .inl (some (.int r))) s' (64 * (ct s' - ct s)) (768 * (ct s' - ct s)) := by
  refine CX.ofL (fun B => [(0, .ref (B + 0)), (1, .ref (B + 41)), (2, .ref (B + 39)), (3, .int p3), (4, .int p4)]) (by decide +kernel) (fun _ => rfl) (fun _ => (by simp [lg_sl, rfB_cat, catI, catL, catR])) (fun Γ D B X Y hr => ?_)
  have X : Cx Γ RL cL_isSwapped 10 D B (RMg Z (ct s) 8 137) := X
  have M : RLe (RMg Z (ct s) 8 137) Z 0 0 (ct s) 8 137 := RLe.rf
  have hc : Hc (ct s) Z s := ⟨Nat.le_refl _, hz⟩
  unfold f_L_isSwapped at hf
  refine r_aload_n (x := some 0) (pc := 0) X dL_isSwapped_0 0 rfl ?_
  refine r_iload_n (pc := 1) X dL_isSwapped_1 3 rfl ?_
  refine bnd hf (fun x1 h1 hf => ?_)
  refine bnd hf (fun v2 h1v hf => ?_)
  refine y_callXVi (As := [.int p3]) (st := []) (pc := 2) X M Y hc (qc_run (ou := ouI) hc.2 (fun z x h => c_f_P_planned h) h1) rfl w_801 w_802 w_803 w_36 w_804 hdV_X10_planned (Rc.s rfl ce_0) (by decide) (Nat.le_of_ble_eq_true rfl) dL_isSwapped_2 rfl h1v (fun hc => ?_)
  refine r_istore (pc := 5) (lv' := [(0, .ref (B + 0)), (1, .ref (B + 41)), (3, .int p3), (4, .int p4), (5, .int v2)]) X dL_isSwapped_5 (by decide) [1, 2, 4, 5, 0] rfl ?_
  refine r_aload_n (x := some 0) (pc := 7) X dL_isSwapped_7 0 rfl ?_
  refine r_iload (pc := 8) X dL_isSwapped_8 3 rfl ?_
  refine bnd hf (fun x3 h3 hf => ?_)
  refine bnd hf (fun v4 h3v hf => ?_)
  refine y_callXVi (As := [.int p4]) (st := []) (pc := 10) X M Y hc (qc_run (ou := ouI) hc.2 (fun z x h => c_f_P_planned h) h3) rfl w_801 w_802 w_803 w_36 w_804 hdV_X10_planned (Rc.s rfl ce_0) (by decide) (Nat.le_of_ble_eq_true rfl) dL_isSwapped_10 rfl h3v (fun hc => ?_)
  refine r_istore (pc := 13) (lv' := [(0, .ref (B + 0)), (1, .ref (B + 41)), (3, .int p3), (4, .int p4), (5, .int v2), (6, .int v4)]) X dL_isSwapped_13 (by decide) [1, 2, 3, 4, 5, 0] rfl ?_
  refine r_iload (pc := 15) X dL_isSwapped_15 4 rfl ?_
  refine b_if_lt (tgt := 54) (pc := 17) X dL_isSwapped_17 (by decide) hf (fun hf => ?_) (fun hf => ?_)
  · refine r_iconst (v := 0) (pc := 54) X dL_isSwapped_54 (by decide) ?_
    refine r_forget (lv' := [(0, .ref (B + 0)), (3, .int p3), (4, .int p4), (5, .int v2), (6, .int v4)]) [0, 2, 3, 4, 5] rfl ?_
    exact c_f_L_isSwapped_b55 X M Y hr hc hf
  · refine r_iload (pc := 20) X dL_isSwapped_20 4 rfl ?_
    refine r_iload (pc := 22) X dL_isSwapped_22 5 rfl ?_
    refine b_icmp_eq (tgt := 54) (pc := 24) X dL_isSwapped_24 (by decide) hf (fun hf => ?_) (fun hf => ?_)
    · refine r_iconst (v := 0) (pc := 54) X dL_isSwapped_54 (by decide) ?_
      refine r_forget (lv' := [(0, .ref (B + 0)), (3, .int p3), (4, .int p4), (5, .int v2), (6, .int v4)]) [0, 2, 3, 4, 5] rfl ?_
      exact c_f_L_isSwapped_b55 X M Y hr hc hf
    · refine r_aload_n (x := some 41) (pc := 27) X dL_isSwapped_27 1 rfl ?_
      refine r_iload (pc := 28) X dL_isSwapped_28 3 rfl ?_
      refine b_iald (pc := 30) X ce_41 dL_isSwapped_30 hf (fun j12 hf => ?_)
      refine r_iload (pc := 31) X dL_isSwapped_31 4 rfl ?_
      refine r_ishr (pc := 33) X dL_isSwapped_33 ?_
      refine r_iconst (v := 1) (pc := 34) X dL_isSwapped_34 (by decide) ?_
      refine r_iand (pc := 35) X dL_isSwapped_35 ?_
      refine b_if_ne (tgt := 54) (pc := 36) X dL_isSwapped_36 (by decide) hf (fun hf => ?_) (fun hf => ?_)
      · refine r_aload_n (x := some 41) (pc := 39) X dL_isSwapped_39 1 rfl ?_
        refine r_iload_n (pc := 40) X dL_isSwapped_40 2 rfl ?_
        refine b_iald (pc := 41) X ce_41 dL_isSwapped_41 hf (fun j13 hf => ?_)
        refine r_iload (pc := 42) X dL_isSwapped_42 5 rfl ?_
        refine r_ishr (pc := 44) X dL_isSwapped_44 ?_
        refine r_iconst (v := 1) (pc := 45) X dL_isSwapped_45 (by decide) ?_
        refine r_iand (pc := 46) X dL_isSwapped_46 ?_
        refine b_if_ne (tgt := 54) (pc := 47) X dL_isSwapped_47 (by decide) hf (fun hf => ?_) (fun hf => ?_)
        · refine r_iconst (v := 1) (pc := 50) X dL_isSwapped_50 (by decide) ?_
          refine r_goto (tgt := 55) (pc := 51) X dL_isSwapped_51 (by decide) ?_
          refine r_forget (lv' := [(0, .ref (B + 0)), (3, .int p3), (4, .int p4), (5, .int v2), (6, .int v4)]) [0, 2, 3, 4, 5] rfl ?_
          exact c_f_L_isSwapped_b55 X M Y hr hc hf
        · refine r_iconst (v := 0) (pc := 54) X dL_isSwapped_54 (by decide) ?_
          refine r_forget (lv' := [(0, .ref (B + 0)), (3, .int p3), (4, .int p4), (5, .int v2), (6, .int v4)]) [0, 2, 3, 4, 5] rfl ?_
          exact c_f_L_isSwapped_b55 X M Y hr hc hf
      · refine r_iconst (v := 0) (pc := 54) X dL_isSwapped_54 (by decide) ?_
        refine r_forget (lv' := [(0, .ref (B + 0)), (3, .int p3), (4, .int p4), (5, .int v2), (6, .int v4)]) [0, 2, 3, 4, 5] rfl ?_
        exact c_f_L_isSwapped_b55 X M Y hr hc hf
/-! f_L_isHour -/
theorem dL_isHour_0 : decode cL_isHour 0 = .ok (.aload_n 0, 1) := by decide +kernel
theorem dL_isHour_1 : decode cL_isHour 1 = .ok (.invokevirtual 108, 3) := by decide +kernel
theorem dL_isHour_4 : decode cL_isHour 4 = .ok (.istore 5, 2) := by decide +kernel
theorem dL_isHour_6 : decode cL_isHour 6 = .ok (.aload_n 0, 1) := by decide +kernel
theorem dL_isHour_7 : decode cL_isHour 7 = .ok (.invokevirtual 113, 3) := by decide +kernel
theorem dL_isHour_10 : decode cL_isHour 10 = .ok (.istore 6, 2) := by decide +kernel
theorem dL_isHour_12 : decode cL_isHour 12 = .ok (.aload_n 0, 1) := by decide +kernel
theorem dL_isHour_13 : decode cL_isHour 13 = .ok (.invokevirtual 103, 3) := by decide +kernel
theorem dL_isHour_16 : decode cL_isHour 16 = .ok (.iconst 1, 1) := by decide +kernel
theorem dL_isHour_17 : decode cL_isHour 17 = .ok (.iadd, 1) := by decide +kernel
theorem dL_isHour_18 : decode cL_isHour 18 = .ok (.istore 7, 2) := by decide +kernel
theorem dL_isHour_20 : decode cL_isHour 20 = .ok (.iload 7, 2) := by decide +kernel
theorem dL_isHour_22 : decode cL_isHour 22 = .ok (.bipush 8, 2) := by decide +kernel
theorem dL_isHour_24 : decode cL_isHour 24 = .ok (.irem, 1) := by decide +kernel
theorem dL_isHour_25 : decode cL_isHour 25 = .ok (.ifCond .ne 10, 3) := by decide +kernel
theorem dL_isHour_28 : decode cL_isHour 28 = .ok (.aload_n 0, 1) := by decide +kernel
theorem dL_isHour_29 : decode cL_isHour 29 = .ok (.invokevirtual 123, 3) := by decide +kernel
theorem dL_isHour_32 : decode cL_isHour 32 = .ok (.goto 23, 3) := by decide +kernel
theorem dL_isHour_35 : decode cL_isHour 35 = .ok (.iload 7, 2) := by decide +kernel
theorem dL_isHour_37 : decode cL_isHour 37 = .ok (.bipush 8, 2) := by decide +kernel
theorem dL_isHour_39 : decode cL_isHour 39 = .ok (.if_icmp .ge 7, 3) := by decide +kernel
theorem dL_isHour_42 : decode cL_isHour 42 = .ok (.iconst (-1), 1) := by decide +kernel
theorem dL_isHour_43 : decode cL_isHour 43 = .ok (.goto 12, 3) := by decide +kernel
theorem dL_isHour_46 : decode cL_isHour 46 = .ok (.aload_n 0, 1) := by decide +kernel
theorem dL_isHour_47 : decode cL_isHour 47 = .ok (.iload 7, 2) := by decide +kernel
theorem dL_isHour_49 : decode cL_isHour 49 = .ok (.bipush 8, 2) := by decide +kernel
theorem dL_isHour_51 : decode cL_isHour 51 = .ok (.idiv, 1) := by decide +kernel
theorem dL_isHour_52 : decode cL_isHour 52 = .ok (.invokevirtual 69, 3) := by decide +kernel
theorem dL_isHour_55 : decode cL_isHour 55 = .ok (.istore 8, 2) := by decide +kernel
theorem dL_isHour_57 : decode cL_isHour 57 = .ok (.aload 4, 2) := by decide +kernel
theorem dL_isHour_59 : decode cL_isHour 59 = .ok (.iconst 0, 1) := by decide +kernel
theorem dL_isHour_60 : decode cL_isHour 60 = .ok (.iaload, 1) := by decide +kernel
theorem dL_isHour_61 : decode cL_isHour 61 = .ok (.ifCond .ne 7, 3) := by decide +kernel
theorem dL_isHour_64 : decode cL_isHour 64 = .ok (.iconst (-1), 1) := by decide +kernel
theorem dL_isHour_65 : decode cL_isHour 65 = .ok (.goto 24, 3) := by decide +kernel
theorem dL_isHour_68 : decode cL_isHour 68 = .ok (.iload 7, 2) := by decide +kernel
theorem dL_isHour_70 : decode cL_isHour 70 = .ok (.bipush 8, 2) := by decide +kernel
theorem dL_isHour_72 : decode cL_isHour 72 = .ok (.irem, 1) := by decide +kernel
theorem dL_isHour_73 : decode cL_isHour 73 = .ok (.ifCond .ne 15, 3) := by decide +kernel
theorem dL_isHour_76 : decode cL_isHour 76 = .ok (.aload_n 0, 1) := by decide +kernel
theorem dL_isHour_77 : decode cL_isHour 77 = .ok (.iload 7, 2) := by decide +kernel
theorem dL_isHour_79 : decode cL_isHour 79 = .ok (.bipush 8, 2) := by decide +kernel
theorem dL_isHour_81 : decode cL_isHour 81 = .ok (.idiv, 1) := by decide +kernel
theorem dL_isHour_82 : decode cL_isHour 82 = .ok (.invokevirtual 66, 3) := by decide +kernel
theorem dL_isHour_85 : decode cL_isHour 85 = .ok (.goto 4, 3) := by decide +kernel
theorem dL_isHour_88 : decode cL_isHour 88 = .ok (.iconst (-1), 1) := by decide +kernel
theorem dL_isHour_89 : decode cL_isHour 89 = .ok (.istore 9, 2) := by decide +kernel
theorem dL_isHour_91 : decode cL_isHour 91 = .ok (.iload 8, 2) := by decide +kernel
theorem dL_isHour_93 : decode cL_isHour 93 = .ok (.ifCond .lt 8, 3) := by decide +kernel
theorem dL_isHour_96 : decode cL_isHour 96 = .ok (.iload 9, 2) := by decide +kernel
theorem dL_isHour_98 : decode cL_isHour 98 = .ok (.ifCond .ge 7, 3) := by decide +kernel
theorem dL_isHour_101 : decode cL_isHour 101 = .ok (.iconst 0, 1) := by decide +kernel
theorem dL_isHour_102 : decode cL_isHour 102 = .ok (.goto 11, 3) := by decide +kernel
theorem dL_isHour_105 : decode cL_isHour 105 = .ok (.aload_n 0, 1) := by decide +kernel
theorem dL_isHour_106 : decode cL_isHour 106 = .ok (.iload 8, 2) := by decide +kernel
theorem dL_isHour_108 : decode cL_isHour 108 = .ok (.iload 9, 2) := by decide +kernel
theorem dL_isHour_110 : decode cL_isHour 110 = .ok (.invokevirtual 75, 3) := by decide +kernel
theorem dL_isHour_113 : decode cL_isHour 113 = .ok (.istore 10, 2) := by decide +kernel
theorem dL_isHour_115 : decode cL_isHour 115 = .ok (.aload_n 0, 1) := by decide +kernel
theorem dL_isHour_116 : decode cL_isHour 116 = .ok (.iconst 1, 1) := by decide +kernel
theorem dL_isHour_117 : decode cL_isHour 117 = .ok (.iconst 1, 1) := by decide +kernel
theorem dL_isHour_118 : decode cL_isHour 118 = .ok (.iconst 0, 1) := by decide +kernel
theorem dL_isHour_119 : decode cL_isHour 119 = .ok (.iconst 0, 1) := by decide +kernel
theorem dL_isHour_120 : decode cL_isHour 120 = .ok (.iconst 0, 1) := by decide +kernel
theorem dL_isHour_121 : decode cL_isHour 121 = .ok (.invokestatic 133, 3) := by decide +kernel
theorem dL_isHour_124 : decode cL_isHour 124 = .ok (.istore 11, 2) := by decide +kernel
theorem dL_isHour_126 : decode cL_isHour 126 = .ok (.iload 11, 2) := by decide +kernel
theorem dL_isHour_128 : decode cL_isHour 128 = .ok (.ifCond .lt 42, 3) := by decide +kernel
theorem dL_isHour_131 : decode cL_isHour 131 = .ok (.aload_n 0, 1) := by decide +kernel
theorem dL_isHour_132 : decode cL_isHour 132 = .ok (.invokevirtual 103, 3) := by decide +kernel
theorem dL_isHour_135 : decode cL_isHour 135 = .ok (.iload 7, 2) := by decide +kernel
theorem dL_isHour_137 : decode cL_isHour 137 = .ok (.if_icmp .ne 33, 3) := by decide +kernel
theorem dL_isHour_140 : decode cL_isHour 140 = .ok (.aload_n 0, 1) := by decide +kernel
theorem dL_isHour_141 : decode cL_isHour 141 = .ok (.invokevirtual 108, 3) := by decide +kernel
theorem dL_isHour_144 : decode cL_isHour 144 = .ok (.iload 5, 2) := by decide +kernel
theorem dL_isHour_146 : decode cL_isHour 146 = .ok (.iload 11, 2) := by decide +kernel
theorem dL_isHour_148 : decode cL_isHour 148 = .ok (.iadd, 1) := by decide +kernel
theorem dL_isHour_149 : decode cL_isHour 149 = .ok (.if_icmp .ne 21, 3) := by decide +kernel
theorem dL_isHour_152 : decode cL_isHour 152 = .ok (.aload_n 0, 1) := by decide +kernel
theorem dL_isHour_153 : decode cL_isHour 153 = .ok (.iload 7, 2) := by decide +kernel
theorem dL_isHour_155 : decode cL_isHour 155 = .ok (.bipush 8, 2) := by decide +kernel
theorem dL_isHour_157 : decode cL_isHour 157 = .ok (.idiv, 1) := by decide +kernel
theorem dL_isHour_158 : decode cL_isHour 158 = .ok (.invokevirtual 69, 3) := by decide +kernel
theorem dL_isHour_161 : decode cL_isHour 161 = .ok (.iload 8, 2) := by decide +kernel
theorem dL_isHour_163 : decode cL_isHour 163 = .ok (.if_icmp .ne 7, 3) := by decide +kernel
theorem dL_isHour_166 : decode cL_isHour 166 = .ok (.iconst 1, 1) := by decide +kernel
theorem dL_isHour_167 : decode cL_isHour 167 = .ok (.goto 4, 3) := by decide +kernel
theorem dL_isHour_170 : decode cL_isHour 170 = .ok (.iconst 0, 1) := by decide +kernel
theorem dL_isHour_171 : decode cL_isHour 171 = .ok (.istore 12, 2) := by decide +kernel
theorem dL_isHour_173 : decode cL_isHour 173 = .ok (.iload 12, 2) := by decide +kernel
theorem dL_isHour_175 : decode cL_isHour 175 = .ok (.ifCond .eq 75, 3) := by decide +kernel
theorem dL_isHour_178 : decode cL_isHour 178 = .ok (.iload 9, 2) := by decide +kernel
theorem dL_isHour_180 : decode cL_isHour 180 = .ok (.ifCond .lt 70, 3) := by decide +kernel
theorem dL_isHour_183 : decode cL_isHour 183 = .ok (.iload 8, 2) := by decide +kernel
theorem dL_isHour_185 : decode cL_isHour 185 = .ok (.iload 9, 2) := by decide +kernel
theorem dL_isHour_187 : decode cL_isHour 187 = .ok (.if_icmp .eq 63, 3) := by decide +kernel
theorem dL_isHour_190 : decode cL_isHour 190 = .ok (.aload_n 2, 1) := by decide +kernel
theorem dL_isHour_191 : decode cL_isHour 191 = .ok (.iload 7, 2) := by decide +kernel
theorem dL_isHour_193 : decode cL_isHour 193 = .ok (.bipush 8, 2) := by decide +kernel
theorem dL_isHour_195 : decode cL_isHour 195 = .ok (.idiv, 1) := by decide +kernel
theorem dL_isHour_196 : decode cL_isHour 196 = .ok (.iaload, 1) := by decide +kernel
theorem dL_isHour_197 : decode cL_isHour 197 = .ok (.iload 9, 2) := by decide +kernel
theorem dL_isHour_199 : decode cL_isHour 199 = .ok (.ishr, 1) := by decide +kernel
theorem dL_isHour_200 : decode cL_isHour 200 = .ok (.iconst 1, 1) := by decide +kernel
theorem dL_isHour_201 : decode cL_isHour 201 = .ok (.iand, 1) := by decide +kernel
theorem dL_isHour_202 : decode cL_isHour 202 = .ok (.ifCond .ne 48, 3) := by decide +kernel
theorem dL_isHour_205 : decode cL_isHour 205 = .ok (.iload 10, 2) := by decide +kernel
theorem dL_isHour_207 : decode cL_isHour 207 = .ok (.ifCond .le 32, 3) := by decide +kernel
theorem dL_isHour_210 : decode cL_isHour 210 = .ok (.iload 7, 2) := by decide +kernel
theorem dL_isHour_212 : decode cL_isHour 212 = .ok (.bipush 8, 2) := by decide +kernel
theorem dL_isHour_214 : decode cL_isHour 214 = .ok (.idiv, 1) := by decide +kernel
theorem dL_isHour_215 : decode cL_isHour 215 = .ok (.iconst 3, 1) := by decide +kernel
theorem dL_isHour_216 : decode cL_isHour 216 = .ok (.irem, 1) := by decide +kernel
theorem dL_isHour_217 : decode cL_isHour 217 = .ok (.ifCond .ne 22, 3) := by decide +kernel
theorem dL_isHour_220 : decode cL_isHour 220 = .ok (.aload_n 0, 1) := by decide +kernel
theorem dL_isHour_221 : decode cL_isHour 221 = .ok (.iload 8, 2) := by decide +kernel
theorem dL_isHour_223 : decode cL_isHour 223 = .ok (.iload 9, 2) := by decide +kernel
theorem dL_isHour_225 : decode cL_isHour 225 = .ok (.invokevirtual 75, 3) := by decide +kernel
theorem dL_isHour_228 : decode cL_isHour 228 = .ok (.iload 10, 2) := by decide +kernel
theorem dL_isHour_230 : decode cL_isHour 230 = .ok (.iconst 1, 1) := by decide +kernel
theorem dL_isHour_231 : decode cL_isHour 231 = .ok (.isub, 1) := by decide +kernel
theorem dL_isHour_232 : decode cL_isHour 232 = .ok (.if_icmp .ne 7, 3) := by decide +kernel
theorem dL_isHour_235 : decode cL_isHour 235 = .ok (.iconst 1, 1) := by decide +kernel
theorem dL_isHour_236 : decode cL_isHour 236 = .ok (.goto 4, 3) := by decide +kernel
theorem dL_isHour_239 : decode cL_isHour 239 = .ok (.iconst 0, 1) := by decide +kernel
theorem dL_isHour_240 : decode cL_isHour 240 = .ok (.istore 12, 2) := by decide +kernel
theorem dL_isHour_242 : decode cL_isHour 242 = .ok (.aload 4, 2) := by decide +kernel
theorem dL_isHour_244 : decode cL_isHour 244 = .ok (.iconst 3, 1) := by decide +kernel
theorem dL_isHour_245 : decode cL_isHour 245 = .ok (.dup2, 1) := by decide +kernel
theorem dL_isHour_246 : decode cL_isHour 246 = .ok (.iaload, 1) := by decide +kernel
theorem dL_isHour_247 : decode cL_isHour 247 = .ok (.iconst 1, 1) := by decide +kernel
theorem dL_isHour_248 : decode cL_isHour 248 = .ok (.isub, 1) := by decide +kernel
theorem dL_isHour_249 : decode cL_isHour 249 = .ok (.iastore, 1) := by decide +kernel
theorem dL_isHour_250 : decode cL_isHour 250 = .ok (.iload 12, 2) := by decide +kernel
theorem dL_isHour_252 : decode cL_isHour 252 = .ok (.ifCond .eq 46, 3) := by decide +kernel
theorem dL_isHour_255 : decode cL_isHour 255 = .ok (.aload_n 0, 1) := by decide +kernel
theorem dL_isHour_256 : decode cL_isHour 256 = .ok (.invokevirtual 113, 3) := by decide +kernel
theorem dL_isHour_259 : decode cL_isHour 259 = .ok (.iload 8, 2) := by decide +kernel
theorem dL_isHour_261 : decode cL_isHour 261 = .ok (.ifCond .lt 15, 3) := by decide +kernel
theorem dL_isHour_264 : decode cL_isHour 264 = .ok (.iload 7, 2) := by decide +kernel
theorem dL_isHour_266 : decode cL_isHour 266 = .ok (.bipush 8, 2) := by decide +kernel
theorem dL_isHour_268 : decode cL_isHour 268 = .ok (.irem, 1) := by decide +kernel
theorem dL_isHour_269 : decode cL_isHour 269 = .ok (.ifCond .ne 7, 3) := by decide +kernel
theorem dL_isHour_272 : decode cL_isHour 272 = .ok (.iconst 0, 1) := by decide +kernel
theorem dL_isHour_273 : decode cL_isHour 273 = .ok (.goto 18, 3) := by decide +kernel
theorem dL_isHour_276 : decode cL_isHour 276 = .ok (.iload 8, 2) := by decide +kernel
theorem dL_isHour_278 : decode cL_isHour 278 = .ok (.ifCond .ge 11, 3) := by decide +kernel
theorem dL_isHour_281 : decode cL_isHour 281 = .ok (.iload 6, 2) := by decide +kernel
theorem dL_isHour_283 : decode cL_isHour 283 = .ok (.iload 11, 2) := by decide +kernel
theorem dL_isHour_285 : decode cL_isHour 285 = .ok (.iadd, 1) := by decide +kernel
theorem dL_isHour_286 : decode cL_isHour 286 = .ok (.goto 5, 3) := by decide +kernel
theorem dL_isHour_289 : decode cL_isHour 289 = .ok (.iload 6, 2) := by decide +kernel
theorem dL_isHour_291 : decode cL_isHour 291 = .ok (.if_icmp .ne 7, 3) := by decide +kernel
theorem dL_isHour_294 : decode cL_isHour 294 = .ok (.iconst 1, 1) := by decide +kernel
theorem dL_isHour_295 : decode cL_isHour 295 = .ok (.goto 4, 3) := by decide +kernel
theorem dL_isHour_298 : decode cL_isHour 298 = .ok (.iconst 0, 1) := by decide +kernel
theorem dL_isHour_299 : decode cL_isHour 299 = .ok (.istore 12, 2) := by decide +kernel
theorem dL_isHour_301 : decode cL_isHour 301 = .ok (.iconst (-1), 1) := by decide +kernel
theorem dL_isHour_302 : decode cL_isHour 302 = .ok (.istore 13, 2) := by decide +kernel
theorem dL_isHour_304 : decode cL_isHour 304 = .ok (.iload 5, 2) := by decide +kernel
theorem dL_isHour_306 : decode cL_isHour 306 = .ok (.istore 14, 2) := by decide +kernel
theorem dL_isHour_308 : decode cL_isHour 308 = .ok (.iload 14, 2) := by decide +kernel
theorem dL_isHour_310 : decode cL_isHour 310 = .ok (.aload_n 0, 1) := by decide +kernel
theorem dL_isHour_311 : decode cL_isHour 311 = .ok (.invokevirtual 108, 3) := by decide +kernel
theorem dL_isHour_314 : decode cL_isHour 314 = .ok (.if_icmp .ge 195, 3) := by decide +kernel
theorem dL_isHour_317 : decode cL_isHour 317 = .ok (.iload 12, 2) := by decide +kernel
theorem dL_isHour_319 : decode cL_isHour 319 = .ok (.ifCond .eq 190, 3) := by decide +kernel
theorem dL_isHour_322 : decode cL_isHour 322 = .ok (.aload_n 0, 1) := by decide +kernel
theorem dL_isHour_323 : decode cL_isHour 323 = .ok (.iload 14, 2) := by decide +kernel
theorem dL_isHour_325 : decode cL_isHour 325 = .ok (.invokevirtual 88, 3) := by decide +kernel
theorem dL_isHour_328 : decode cL_isHour 328 = .ok (.sipush 10000, 3) := by decide +kernel
theorem dL_isHour_331 : decode cL_isHour 331 = .ok (.idiv, 1) := by decide +kernel
theorem dL_isHour_332 : decode cL_isHour 332 = .ok (.istore 15, 2) := by decide +kernel
theorem dL_isHour_334 : decode cL_isHour 334 = .ok (.aload_n 0, 1) := by decide +kernel
theorem dL_isHour_335 : decode cL_isHour 335 = .ok (.iload 14, 2) := by decide +kernel
theorem dL_isHour_337 : decode cL_isHour 337 = .ok (.invokevirtual 88, 3) := by decide +kernel
theorem dL_isHour_340 : decode cL_isHour 340 = .ok (.sipush 10000, 3) := by decide +kernel
theorem dL_isHour_343 : decode cL_isHour 343 = .ok (.irem, 1) := by decide +kernel
theorem dL_isHour_344 : decode cL_isHour 344 = .ok (.iload 7, 2) := by decide +kernel
theorem dL_isHour_346 : decode cL_isHour 346 = .ok (.if_icmp .ne 80, 3) := by decide +kernel
theorem dL_isHour_349 : decode cL_isHour 349 = .ok (.iload 15, 2) := by decide +kernel
theorem dL_isHour_351 : decode cL_isHour 351 = .ok (.iload 13, 2) := by decide +kernel
theorem dL_isHour_353 : decode cL_isHour 353 = .ok (.if_icmp .le 73, 3) := by decide +kernel
theorem dL_isHour_356 : decode cL_isHour 356 = .ok (.iload 15, 2) := by decide +kernel
theorem dL_isHour_358 : decode cL_isHour 358 = .ok (.aload 4, 2) := by decide +kernel
theorem dL_isHour_360 : decode cL_isHour 360 = .ok (.iconst 1, 1) := by decide +kernel
theorem dL_isHour_361 : decode cL_isHour 361 = .ok (.iaload, 1) := by decide +kernel
theorem dL_isHour_362 : decode cL_isHour 362 = .ok (.if_icmp .ge 64, 3) := by decide +kernel
theorem dL_isHour_365 : decode cL_isHour 365 = .ok (.aload_n 3, 1) := by decide +kernel
theorem dL_isHour_366 : decode cL_isHour 366 = .ok (.bipush 12, 2) := by decide +kernel
theorem dL_isHour_368 : decode cL_isHour 368 = .ok (.iload 15, 2) := by decide +kernel
theorem dL_isHour_370 : decode cL_isHour 370 = .ok (.imul, 1) := by decide +kernel
theorem dL_isHour_371 : decode cL_isHour 371 = .ok (.iconst 3, 1) := by decide +kernel
theorem dL_isHour_372 : decode cL_isHour 372 = .ok (.iadd, 1) := by decide +kernel
theorem dL_isHour_373 : decode cL_isHour 373 = .ok (.iaload, 1) := by decide +kernel
theorem dL_isHour_374 : decode cL_isHour 374 = .ok (.ifCond .ne 52, 3) := by decide +kernel
theorem dL_isHour_377 : decode cL_isHour 377 = .ok (.aload_n 0, 1) := by decide +kernel
theorem dL_isHour_378 : decode cL_isHour 378 = .ok (.iload 14, 2) := by decide +kernel
theorem dL_isHour_380 : decode cL_isHour 380 = .ok (.invokevirtual 91, 3) := by decide +kernel
theorem dL_isHour_383 : decode cL_isHour 383 = .ok (.iload 8, 2) := by decide +kernel
theorem dL_isHour_385 : decode cL_isHour 385 = .ok (.if_icmp .ne 41, 3) := by decide +kernel
theorem dL_isHour_388 : decode cL_isHour 388 = .ok (.aload_n 0, 1) := by decide +kernel
theorem dL_isHour_389 : decode cL_isHour 389 = .ok (.bipush 9, 2) := by decide +kernel
theorem dL_isHour_391 : decode cL_isHour 391 = .ok (.iload 14, 2) := by decide +kernel
theorem dL_isHour_393 : decode cL_isHour 393 = .ok (.iconst 0, 1) := by decide +kernel
theorem dL_isHour_394 : decode cL_isHour 394 = .ok (.invokestatic 168, 3) := by decide +kernel
theorem dL_isHour_397 : decode cL_isHour 397 = .ok (.iload 8, 2) := by decide +kernel
theorem dL_isHour_399 : decode cL_isHour 399 = .ok (.ifCond .ge 9, 3) := by decide +kernel
theorem dL_isHour_402 : decode cL_isHour 402 = .ok (.sipush (-1244), 3) := by decide +kernel
theorem dL_isHour_405 : decode cL_isHour 405 = .ok (.goto 5, 3) := by decide +kernel
theorem dL_isHour_408 : decode cL_isHour 408 = .ok (.iload 7, 2) := by decide +kernel
theorem dL_isHour_410 : decode cL_isHour 410 = .ok (.if_icmp .ne 16, 3) := by decide +kernel
theorem dL_isHour_413 : decode cL_isHour 413 = .ok (.aload_n 0, 1) := by decide +kernel
theorem dL_isHour_414 : decode cL_isHour 414 = .ok (.iload 14, 2) := by decide +kernel
theorem dL_isHour_416 : decode cL_isHour 416 = .ok (.invokevirtual 97, 3) := by decide +kernel
theorem dL_isHour_419 : decode cL_isHour 419 = .ok (.ifCond .eq 7, 3) := by decide +kernel
theorem dL_isHour_422 : decode cL_isHour 422 = .ok (.iconst 1, 1) := by decide +kernel
theorem dL_isHour_423 : decode cL_isHour 423 = .ok (.goto 4, 3) := by decide +kernel
theorem dL_isHour_426 : decode cL_isHour 426 = .ok (.iconst 0, 1) := by decide +kernel
theorem dL_isHour_427 : decode cL_isHour 427 = .ok (.istore 12, 2) := by decide +kernel
theorem dL_isHour_429 : decode cL_isHour 429 = .ok (.iconst 0, 1) := by decide +kernel
theorem dL_isHour_430 : decode cL_isHour 430 = .ok (.istore 16, 2) := by decide +kernel
theorem dL_isHour_432 : decode cL_isHour 432 = .ok (.iload 16, 2) := by decide +kernel
theorem dL_isHour_434 : decode cL_isHour 434 = .ok (.aload_n 3, 1) := by decide +kernel
theorem dL_isHour_435 : decode cL_isHour 435 = .ok (.bipush 12, 2) := by decide +kernel
theorem dL_isHour_437 : decode cL_isHour 437 = .ok (.iload 15, 2) := by decide +kernel
theorem dL_isHour_439 : decode cL_isHour 439 = .ok (.imul, 1) := by decide +kernel
theorem dL_isHour_440 : decode cL_isHour 440 = .ok (.iconst 4, 1) := by decide +kernel
theorem dL_isHour_441 : decode cL_isHour 441 = .ok (.iadd, 1) := by decide +kernel
theorem dL_isHour_442 : decode cL_isHour 442 = .ok (.iaload, 1) := by decide +kernel
theorem dL_isHour_443 : decode cL_isHour 443 = .ok (.if_icmp .ge 56, 3) := by decide +kernel
theorem dL_isHour_446 : decode cL_isHour 446 = .ok (.iload 12, 2) := by decide +kernel
theorem dL_isHour_448 : decode cL_isHour 448 = .ok (.ifCond .eq 51, 3) := by decide +kernel
theorem dL_isHour_451 : decode cL_isHour 451 = .ok (.aload_n 3, 1) := by decide +kernel
theorem dL_isHour_452 : decode cL_isHour 452 = .ok (.bipush 12, 2) := by decide +kernel
theorem dL_isHour_454 : decode cL_isHour 454 = .ok (.iload 15, 2) := by decide +kernel
theorem dL_isHour_456 : decode cL_isHour 456 = .ok (.imul, 1) := by decide +kernel
theorem dL_isHour_457 : decode cL_isHour 457 = .ok (.iconst 5, 1) := by decide +kernel
theorem dL_isHour_458 : decode cL_isHour 458 = .ok (.iadd, 1) := by decide +kernel
theorem dL_isHour_459 : decode cL_isHour 459 = .ok (.iload 16, 2) := by decide +kernel
theorem dL_isHour_461 : decode cL_isHour 461 = .ok (.iadd, 1) := by decide +kernel
theorem dL_isHour_462 : decode cL_isHour 462 = .ok (.iaload, 1) := by decide +kernel
theorem dL_isHour_463 : decode cL_isHour 463 = .ok (.istore 17, 2) := by decide +kernel
theorem dL_isHour_465 : decode cL_isHour 465 = .ok (.iload 7, 2) := by decide +kernel
theorem dL_isHour_467 : decode cL_isHour 467 = .ok (.iload 17, 2) := by decide +kernel
theorem dL_isHour_469 : decode cL_isHour 469 = .ok (.sipush 1023, 3) := by decide +kernel
theorem dL_isHour_472 : decode cL_isHour 472 = .ok (.iand, 1) := by decide +kernel
theorem dL_isHour_473 : decode cL_isHour 473 = .ok (.if_icmp .lt 13, 3) := by decide +kernel
theorem dL_isHour_476 : decode cL_isHour 476 = .ok (.iload 7, 2) := by decide +kernel
theorem dL_isHour_478 : decode cL_isHour 478 = .ok (.iload 17, 2) := by decide +kernel
theorem dL_isHour_480 : decode cL_isHour 480 = .ok (.bipush 10, 2) := by decide +kernel
theorem dL_isHour_482 : decode cL_isHour 482 = .ok (.ishr, 1) := by decide +kernel
theorem dL_isHour_483 : decode cL_isHour 483 = .ok (.if_icmp .le 7, 3) := by decide +kernel
theorem dL_isHour_486 : decode cL_isHour 486 = .ok (.iconst 1, 1) := by decide +kernel
theorem dL_isHour_487 : decode cL_isHour 487 = .ok (.goto 4, 3) := by decide +kernel
theorem dL_isHour_490 : decode cL_isHour 490 = .ok (.iconst 0, 1) := by decide +kernel
theorem dL_isHour_491 : decode cL_isHour 491 = .ok (.istore 12, 2) := by decide +kernel
theorem dL_isHour_493 : decode cL_isHour 493 = .ok (.iinc 16 1, 3) := by decide +kernel
theorem dL_isHour_496 : decode cL_isHour 496 = .ok (.goto (-64), 3) := by decide +kernel
theorem dL_isHour_499 : decode cL_isHour 499 = .ok (.iload 15, 2) := by decide +kernel
theorem dL_isHour_501 : decode cL_isHour 501 = .ok (.istore 13, 2) := by decide +kernel
theorem dL_isHour_503 : decode cL_isHour 503 = .ok (.iinc 14 1, 3) := by decide +kernel
theorem dL_isHour_506 : decode cL_isHour 506 = .ok (.goto (-198), 3) := by decide +kernel
theorem dL_isHour_509 : decode cL_isHour 509 = .ok (.iconst 0, 1) := by decide +kernel
theorem dL_isHour_510 : decode cL_isHour 510 = .ok (.istore 14, 2) := by decide +kernel
theorem dL_isHour_512 : decode cL_isHour 512 = .ok (.iload 14, 2) := by decide +kernel
theorem dL_isHour_514 : decode cL_isHour 514 = .ok (.aload 4, 2) := by decide +kernel
theorem dL_isHour_516 : decode cL_isHour 516 = .ok (.iconst 1, 1) := by decide +kernel
theorem dL_isHour_517 : decode cL_isHour 517 = .ok (.iaload, 1) := by decide +kernel
theorem dL_isHour_518 : decode cL_isHour 518 = .ok (.if_icmp .ge 82, 3) := by decide +kernel
theorem dL_isHour_521 : decode cL_isHour 521 = .ok (.iload 12, 2) := by decide +kernel
theorem dL_isHour_523 : decode cL_isHour 523 = .ok (.ifCond .eq 77, 3) := by decide +kernel
theorem dL_isHour_526 : decode cL_isHour 526 = .ok (.iconst 0, 1) := by decide +kernel
theorem dL_isHour_527 : decode cL_isHour 527 = .ok (.istore 15, 2) := by decide +kernel
theorem dL_isHour_529 : decode cL_isHour 529 = .ok (.iconst 0, 1) := by decide +kernel
theorem dL_isHour_530 : decode cL_isHour 530 = .ok (.istore 16, 2) := by decide +kernel
theorem dL_isHour_532 : decode cL_isHour 532 = .ok (.iload 16, 2) := by decide +kernel
theorem dL_isHour_534 : decode cL_isHour 534 = .ok (.aload 4, 2) := by decide +kernel
theorem dL_isHour_536 : decode cL_isHour 536 = .ok (.iconst 2, 1) := by decide +kernel
theorem dL_isHour_537 : decode cL_isHour 537 = .ok (.iaload, 1) := by decide +kernel
theorem dL_isHour_538 : decode cL_isHour 538 = .ok (.if_icmp .ge 38, 3) := by decide +kernel
theorem dL_isHour_541 : decode cL_isHour 541 = .ok (.iload 15, 2) := by decide +kernel
theorem dL_isHour_543 : decode cL_isHour 543 = .ok (.aload_n 1, 1) := by decide +kernel
theorem dL_isHour_544 : decode cL_isHour 544 = .ok (.iload 16, 2) := by decide +kernel
theorem dL_isHour_546 : decode cL_isHour 546 = .ok (.iaload, 1) := by decide +kernel
theorem dL_isHour_547 : decode cL_isHour 547 = .ok (.iload 7, 2) := by decide +kernel
theorem dL_isHour_549 : decode cL_isHour 549 = .ok (.aload_n 3, 1) := by decide +kernel
theorem dL_isHour_550 : decode cL_isHour 550 = .ok (.bipush 12, 2) := by decide +kernel
theorem dL_isHour_552 : decode cL_isHour 552 = .ok (.iload 14, 2) := by decide +kernel
theorem dL_isHour_554 : decode cL_isHour 554 = .ok (.imul, 1) := by decide +kernel
theorem dL_isHour_555 : decode cL_isHour 555 = .ok (.iconst 1, 1) := by decide +kernel
theorem dL_isHour_556 : decode cL_isHour 556 = .ok (.iadd, 1) := by decide +kernel
theorem dL_isHour_557 : decode cL_isHour 557 = .ok (.iaload, 1) := by decide +kernel
theorem dL_isHour_558 : decode cL_isHour 558 = .ok (.isub, 1) := by decide +kernel
theorem dL_isHour_559 : decode cL_isHour 559 = .ok (.if_icmp .le 7, 3) := by decide +kernel
theorem dL_isHour_562 : decode cL_isHour 562 = .ok (.iconst 1, 1) := by decide +kernel
theorem dL_isHour_563 : decode cL_isHour 563 = .ok (.goto 4, 3) := by decide +kernel
theorem dL_isHour_566 : decode cL_isHour 566 = .ok (.iconst 0, 1) := by decide +kernel
theorem dL_isHour_567 : decode cL_isHour 567 = .ok (.iadd, 1) := by decide +kernel
theorem dL_isHour_568 : decode cL_isHour 568 = .ok (.istore 15, 2) := by decide +kernel
theorem dL_isHour_570 : decode cL_isHour 570 = .ok (.iinc 16 1, 3) := by decide +kernel
theorem dL_isHour_573 : decode cL_isHour 573 = .ok (.goto (-41), 3) := by decide +kernel
theorem dL_isHour_576 : decode cL_isHour 576 = .ok (.aload_n 0, 1) := by decide +kernel
theorem dL_isHour_577 : decode cL_isHour 577 = .ok (.iload 14, 2) := by decide +kernel
theorem dL_isHour_579 : decode cL_isHour 579 = .ok (.invokevirtual 79, 3) := by decide +kernel
theorem dL_isHour_582 : decode cL_isHour 582 = .ok (.iload 15, 2) := by decide +kernel
theorem dL_isHour_584 : decode cL_isHour 584 = .ok (.if_icmp .ne 7, 3) := by decide +kernel
theorem dL_isHour_587 : decode cL_isHour 587 = .ok (.iconst 1, 1) := by decide +kernel
theorem dL_isHour_588 : decode cL_isHour 588 = .ok (.goto 4, 3) := by decide +kernel
theorem dL_isHour_591 : decode cL_isHour 591 = .ok (.iconst 0, 1) := by decide +kernel
theorem dL_isHour_592 : decode cL_isHour 592 = .ok (.istore 12, 2) := by decide +kernel
theorem dL_isHour_594 : decode cL_isHour 594 = .ok (.iinc 14 1, 3) := by decide +kernel
theorem dL_isHour_597 : decode cL_isHour 597 = .ok (.goto (-85), 3) := by decide +kernel
theorem dL_isHour_600 : decode cL_isHour 600 = .ok (.iload 12, 2) := by decide +kernel
theorem dL_isHour_602 : decode cL_isHour 602 = .ok (.ireturn, 1) := by decide +kernel
def f_L_isHour_b532 (F Z : Nat) (K512 : St → Int32 → Int32 → Int32 → Option (Int32 × St)) : Nat → St → Int32 → Int32 → Int32 → Int32 → Option (Int32 × St)
  | 0, _, _, _, _, _ => none
  | n + 1, s, l7, l14, l15, l16 =>
    (ix 4 2).bind fun j14 => (if (gA s 39 j14) ≤ l16 then
      ((qc Z s (fun z => f_P_inWindow F z s l14)).bind fun x15 => ((an x15.1).bind fun v16 => (if v16 = l15 then
        (K512 x15.2 l7 1 (l14 + 1))
      else
        (K512 x15.2 l7 0 (l14 + 1)))))
    else
      ((ix 60 l16).bind fun j17 => ((ix 48 (((12 : Int32) * l14) + 1)).bind fun j18 => (if (gA s 40 j17) ≤ (l7 - (gA s 42 j18)) then
        (f_L_isHour_b532 F Z K512 n s l7 l14 (l15 + 0) (l16 + 1))
      else
        (f_L_isHour_b532 F Z K512 n s l7 l14 (l15 + 1) (l16 + 1))))))
def f_L_isHour_b512 (F Z : Nat) : Nat → St → Int32 → Int32 → Int32 → Option (Int32 × St)
  | 0, _, _, _, _ => none
  | n + 1, s, l7, l12, l14 =>
    (ix 4 1).bind fun j13 => (if (gA s 39 j13) ≤ l14 then
      (if l12 = 0 ∨ l12 = 1 then (some (l12, s)) else none)
    else
      (if l12 = 0 then
        (if l12 = 0 ∨ l12 = 1 then (some (l12, s)) else none)
      else
        (f_L_isHour_b532 F Z (f_L_isHour_b512 F Z n) F s l7 l14 0 0)))
def f_L_isHour_b432 (F Z : Nat) (K308 : St → Int32 → Int32 → Int32 → Int32 → Int32 → Option (Int32 × St)) : Nat → St → Int32 → Int32 → Int32 → Int32 → Int32 → Int32 → Option (Int32 × St)
  | 0, _, _, _, _, _, _, _ => none
  | n + 1, s, l7, l8, l12, l14, l15, l16 =>
    (ix 48 (((12 : Int32) * l15) + 4)).bind fun j23 => (if (gA s 42 j23) ≤ l16 then
      (K308 s l7 l8 l12 l15 (l14 + 1))
    else
      (if l12 = 0 then
        (K308 s l7 l8 l12 l15 (l14 + 1))
      else
        ((ix 48 ((((12 : Int32) * l15) + 5) + l16)).bind fun j24 => (if l7 < ((gA s 42 j24) &&& 1023) then
          (f_L_isHour_b432 F Z K308 n s l7 l8 1 l14 l15 (l16 + 1))
        else
          (if l7 ≤ ((gA s 42 j24) >>> ((10 : Int32) &&& 31)) then
            (f_L_isHour_b432 F Z K308 n s l7 l8 0 l14 l15 (l16 + 1))
          else
            (f_L_isHour_b432 F Z K308 n s l7 l8 1 l14 l15 (l16 + 1)))))))
def f_L_isHour_b410 (F Z : Nat) (K308 : St → Int32 → Int32 → Int32 → Int32 → Int32 → Option (Int32 × St)) (s : St) (l7 : Int32) (l8 : Int32) (l14 : Int32) (l15 : Int32) (t0 : Int32) (t1 : Int32) : Option (Int32 × St) :=
  if t0 = t1 then
    ((qc Z s (fun z => f_P_wouldRise F z s l14)).bind fun x30 => ((an x30.1).bind fun v31 => (if v31 = 0 then
      (f_L_isHour_b432 F Z K308 F x30.2 l7 l8 0 l14 l15 0)
    else
      (f_L_isHour_b432 F Z K308 F x30.2 l7 l8 1 l14 l15 0))))
  else
    (f_L_isHour_b432 F Z K308 F s l7 l8 0 l14 l15 0)
def f_L_isHour_b308 (F Z : Nat) : Nat → St → Int32 → Int32 → Int32 → Int32 → Int32 → Option (Int32 × St)
  | 0, _, _, _, _, _, _ => none
  | n + 1, s, l7, l8, l12, l13, l14 =>
    (f_P_alarms F s).bind fun x11 => (lt (kb s x11.2 0) fun s12 => (if x11.1 ≤ l14 then
      (f_L_isHour_b512 F Z F s12 l7 l12 0)
    else
      (if l12 = 0 then
        (f_L_isHour_b512 F Z F s12 l7 l12 0)
      else
        ((qc Z s12 (fun z => f_P_alarm F z s12 l14)).bind fun x19 => ((an x19.1).bind fun v20 => ((qc Z x19.2 (fun z => f_P_alarm F z x19.2 l14)).bind fun x21 => ((an x21.1).bind fun v22 => (if (v22 - v22 / 10000 * 10000) = l7 then
          (if (v20 / 10000) ≤ l13 then
            (f_L_isHour_b432 F Z (f_L_isHour_b308 F Z n) F x21.2 l7 l8 0 l14 (v20 / 10000) 0)
          else
            ((ix 4 1).bind fun j25 => (if (gA x21.2 39 j25) ≤ (v20 / 10000) then
              (f_L_isHour_b432 F Z (f_L_isHour_b308 F Z n) F x21.2 l7 l8 0 l14 (v20 / 10000) 0)
            else
              ((ix 48 (((12 : Int32) * (v20 / 10000)) + 3)).bind fun j26 => (if (gA x21.2 42 j26) = 0 then
                ((qc Z x21.2 (fun z => f_P_woken F z x21.2 l14)).bind fun x27 => ((an x27.1).bind fun v28 => (if v28 = l8 then
                  ((f_L_of F Z x27.2 9 l14 0).bind fun x29 => (if ct x27.2 ≤ ct x29.2 ∧ ct x29.2 ≤ Z then (if 0 ≤ l8 then
                    (f_L_isHour_b410 F Z (f_L_isHour_b308 F Z n) x29.2 l7 l8 l14 (v20 / 10000) x29.1 l7)
                  else
                    (f_L_isHour_b410 F Z (f_L_isHour_b308 F Z n) x29.2 l7 l8 l14 (v20 / 10000) x29.1 (-1244))) else none))
                else
                  (f_L_isHour_b432 F Z (f_L_isHour_b308 F Z n) F x27.2 l7 l8 0 l14 (v20 / 10000) 0))))
              else
                (f_L_isHour_b432 F Z (f_L_isHour_b308 F Z n) F x21.2 l7 l8 0 l14 (v20 / 10000) 0))))))
        else
          (f_L_isHour_b432 F Z (f_L_isHour_b308 F Z n) F x21.2 l7 l8 0 l14 (v20 / 10000) 0)))))))))
def f_L_isHour_b291 (F Z : Nat) (s : St) (l5 : Int32) (l7 : Int32) (l8 : Int32) (t0 : Int32) (t1 : Int32) : Option (Int32 × St) :=
  if t0 = t1 then
    (f_L_isHour_b308 F Z F s l7 l8 1 (-1) l5)
  else
    (f_L_isHour_b308 F Z F s l7 l8 0 (-1) l5)
def f_L_isHour_b250 (F Z : Nat) (s : St) (l5 : Int32) (l6 : Int32) (l7 : Int32) (l8 : Int32) (l11 : Int32) (l12 : Int32) : Option (Int32 × St) :=
  if l12 = 0 then
    (f_L_isHour_b308 F Z F s l7 l8 0 (-1) l5)
  else
    ((f_P_waiting F s).bind fun x32 => (lt (kb s x32.2 0) fun s33 => (if l8 < 0 then
      (if 0 ≤ l8 then
        (f_L_isHour_b291 F Z s33 l5 l7 l8 x32.1 l6)
      else
        (f_L_isHour_b291 F Z s33 l5 l7 l8 x32.1 (l6 + l11)))
    else
      (if (l7 - l7 / 8 * 8) = 0 then
        (f_L_isHour_b291 F Z s33 l5 l7 l8 x32.1 0)
      else
        (if 0 ≤ l8 then
          (f_L_isHour_b291 F Z s33 l5 l7 l8 x32.1 l6)
        else
          (f_L_isHour_b291 F Z s33 l5 l7 l8 x32.1 (l6 + l11)))))))
def f_L_isHour_b171 (F Z : Nat) (s : St) (l5 : Int32) (l6 : Int32) (l7 : Int32) (l8 : Int32) (l9 : Int32) (l10 : Int32) (l11 : Int32) (t0 : Int32) : Option (Int32 × St) :=
  if t0 = 0 then
    (f_L_isHour_b250 F Z s l5 l6 l7 l8 l11 t0)
  else
    (if l9 < 0 then
      (f_L_isHour_b250 F Z s l5 l6 l7 l8 l11 t0)
    else
      (if l8 = l9 then
        (f_L_isHour_b250 F Z s l5 l6 l7 l8 l11 t0)
      else
        ((ix 64 (l7 / 8)).bind fun j34 => (if (((gA s 41 j34) >>> (l9 &&& 31)) &&& 1) = 0 then
          (if l10 ≤ 0 then
            ((ix 4 3).bind fun j35 => ((ix 4 3).bind fun j36 => (lt (sA s 39 j36 ((gA s 39 j35) - 1)) fun s37 => (f_L_isHour_b250 F Z s37 l5 l6 l7 l8 l11 0))))
          else
            (if ((l7 / 8) - (l7 / 8) / 3 * 3) = 0 then
              ((qc Z s (fun z => f_P_owes F z s l8 l9)).bind fun x38 => ((an x38.1).bind fun v39 => (if v39 = (l10 - 1) then
                ((ix 4 3).bind fun j40 => ((ix 4 3).bind fun j41 => (lt (sA x38.2 39 j41 ((gA x38.2 39 j40) - 1)) fun s42 => (f_L_isHour_b250 F Z s42 l5 l6 l7 l8 l11 1))))
              else
                ((ix 4 3).bind fun j43 => ((ix 4 3).bind fun j44 => (lt (sA x38.2 39 j44 ((gA x38.2 39 j43) - 1)) fun s45 => (f_L_isHour_b250 F Z s45 l5 l6 l7 l8 l11 0)))))))
            else
              ((ix 4 3).bind fun j46 => ((ix 4 3).bind fun j47 => (lt (sA s 39 j47 ((gA s 39 j46) - 1)) fun s48 => (f_L_isHour_b250 F Z s48 l5 l6 l7 l8 l11 0))))))
        else
          (f_L_isHour_b250 F Z s l5 l6 l7 l8 l11 t0)))))
def f_L_isHour_b113 (F Z : Nat) (s : St) (l5 : Int32) (l6 : Int32) (l7 : Int32) (l8 : Int32) (l9 : Int32) (t0 : Int32) : Option (Int32 × St) :=
  (f_L_act F Z s 1 1 0 0 0).bind fun x10 => (if ct s ≤ ct x10.2 ∧ ct x10.2 ≤ Z then (if x10.1 < 0 then
    (f_L_isHour_b171 F Z x10.2 l5 l6 l7 l8 l9 t0 x10.1 0)
  else
    ((f_P_now F x10.2).bind fun x49 => (lt (kb x10.2 x49.2 0) fun s50 => (if x49.1 = l7 then
      ((f_P_alarms F s50).bind fun x51 => (lt (kb s50 x51.2 0) fun s52 => (if x51.1 = (l5 + x10.1) then
        ((qc Z s52 (fun z => f_P_holder F z s52 (l7 / 8))).bind fun x53 => ((an x53.1).bind fun v54 => (if v54 = l8 then
          (f_L_isHour_b171 F Z x53.2 l5 l6 l7 l8 l9 t0 x10.1 1)
        else
          (f_L_isHour_b171 F Z x53.2 l5 l6 l7 l8 l9 t0 x10.1 0))))
      else
        (f_L_isHour_b171 F Z s52 l5 l6 l7 l8 l9 t0 x10.1 0))))
    else
      (f_L_isHour_b171 F Z s50 l5 l6 l7 l8 l9 t0 x10.1 0))))) else none)
def f_L_isHour_b89 (F Z : Nat) (s : St) (l5 : Int32) (l6 : Int32) (l7 : Int32) (l8 : Int32) (t0 : Int32) : Option (Int32 × St) :=
  if l8 < 0 then
    (f_L_isHour_b113 F Z s l5 l6 l7 l8 t0 0)
  else
    (if 0 ≤ t0 then
      ((qc Z s (fun z => f_P_owes F z s l8 t0)).bind fun x55 => ((an x55.1).bind fun v56 => (f_L_isHour_b113 F Z x55.2 l5 l6 l7 l8 t0 v56)))
    else
      (f_L_isHour_b113 F Z s l5 l6 l7 l8 t0 0))
def f_L_isHour_b55 (F Z : Nat) (s : St) (l5 : Int32) (l6 : Int32) (l7 : Int32) (t0 : Int32) : Option (Int32 × St) :=
  (ix 4 0).bind fun j9 => (if (gA s 39 j9) = 0 then
    (f_L_isHour_b89 F Z s l5 l6 l7 t0 (-1))
  else
    (if (l7 - l7 / 8 * 8) = 0 then
      ((qc Z s (fun z => f_P_planned F z s (l7 / 8))).bind fun x57 => ((an x57.1).bind fun v58 => (f_L_isHour_b89 F Z x57.2 l5 l6 l7 t0 v58)))
    else
      (f_L_isHour_b89 F Z s l5 l6 l7 t0 (-1))))
def f_L_isHour (F Z : Nat) (s : St)  : Option (Int32 × St) :=
  (f_P_alarms F s).bind fun x1 => (lt (kb s x1.2 0) fun s2 => ((f_P_waiting F s2).bind fun x3 => (lt (kb s2 x3.2 0) fun s4 => ((f_P_now F s4).bind fun x5 => (lt (kb s4 x5.2 0) fun s6 => (if ((x5.1 + 1) - (x5.1 + 1) / 8 * 8) = 0 then
    ((f_P_next F s6).bind fun x7 => (lt (kb s6 x7.2 0) fun s8 => (f_L_isHour_b55 F Z s8 x1.1 x3.1 (x5.1 + 1) x7.1)))
  else
    (if 8 ≤ (x5.1 + 1) then
      ((qc Z s6 (fun z => f_P_holder F z s6 ((x5.1 + 1) / 8))).bind fun x59 => ((an x59.1).bind fun v60 => (f_L_isHour_b55 F Z x59.2 x1.1 x3.1 (x5.1 + 1) v60)))
    else
      (f_L_isHour_b55 F Z s6 x1.1 x3.1 (x5.1 + 1) (-1)))))))))
set_option maxHeartbeats 1000000 in
theorem c_f_L_isHour_b532 {F Z : Nat} {c0 : Nat} {Γ : Ga} {D : DD} {B : Nat} {r : Int32} {s' : St} (X : Cx Γ RL cL_isHour 18 D B (RMg Z c0 804 16500)) (M : RLe (RMg Z c0 804 16500) Z 0 0 c0 804 16500) (Y : Xy Γ B) (hr : (Gme Γ).sig.returnType = (some .boolean)) {K512 : St → Int32 → Int32 → Int32 → Option (Int32 × St)} (hK512 : ∀ {s : St} {l7 : Int32} {l12 : Int32} {l14 : Int32}, Hc c0 Z s → K512 s l7 l12 l14 = some (r, s') → V Γ D B true 18 (QX Γ D B true s' (.inl (some (.int r))) (64 * (ct s' - c0)) (768 * (ct s' - c0))) (kg 0 c0 s) (ng 0 c0 s) s 512 [(0, .ref (B + 0)), (1, .ref (B + 40)), (3, .ref (B + 42)), (4, .ref (B + 39)), (7, .int l7), (12, .int l12), (14, .int l14)] []) : ∀ (n : Nat) {s : St} {l7 : Int32} {l14 : Int32} {l15 : Int32} {l16 : Int32}, Hc c0 Z s → f_L_isHour_b532 F Z K512 n s l7 l14 l15 l16 = some (r, s') → V Γ D B true 18 (QX Γ D B true s' (.inl (some (.int r))) (64 * (ct s' - c0)) (768 * (ct s' - c0))) (kg 0 c0 s) (ng 0 c0 s) s 532 [(0, .ref (B + 0)), (1, .ref (B + 40)), (3, .ref (B + 42)), (4, .ref (B + 39)), (7, .int l7), (14, .int l14), (15, .int l15), (16, .int l16)] [] := by
  intro n
  induction n with
  | zero => intro s l7 l14 l15 l16 hc hf; rw [f_L_isHour_b532] at hf; cases hf
  | succ n ih =>
    intro s l7 l14 l15 l16 hc hf
    rw [f_L_isHour_b532] at hf
    refine r_iload (pc := 532) X dL_isHour_532 7 rfl ?_
    refine r_aload (x := some 39) (pc := 534) X dL_isHour_534 3 rfl ?_
    refine r_iconst (v := 2) (pc := 536) X dL_isHour_536 (by decide) ?_
    refine b_iald (pc := 537) X ce_39 dL_isHour_537 hf (fun j14 hf => ?_)
    refine b_icmp_ge (tgt := 576) (pc := 538) X dL_isHour_538 (by decide) hf (fun hf => ?_) (fun hf => ?_)
    · refine r_aload_n (x := some 0) (pc := 576) X dL_isHour_576 0 rfl ?_
      refine r_iload (pc := 577) X dL_isHour_577 5 rfl ?_
      refine bnd hf (fun x15 h15 hf => ?_)
      refine bnd hf (fun v16 h15v hf => ?_)
      refine y_callXVi (As := [.int l14]) (st := []) (pc := 579) X M Y hc (qc_run (ou := ouI) hc.2 (fun z x h => c_f_P_inWindow h) h15) rfl w_826 w_827 w_828 w_36 w_829 hdV_X10_inWindow (Rc.s rfl ce_0) (by decide) (Nat.le_of_ble_eq_true rfl) dL_isHour_579 rfl h15v (fun hc => ?_)
      refine r_iload (pc := 582) X dL_isHour_582 6 rfl ?_
      refine b_icmp_ne (tgt := 591) (pc := 584) X dL_isHour_584 (by decide) hf (fun hf => ?_) (fun hf => ?_)
      · refine r_iconst (v := 1) (pc := 587) X dL_isHour_587 (by decide) ?_
        refine r_goto (tgt := 592) (pc := 588) X dL_isHour_588 (by decide) ?_
        refine r_istore (pc := 592) (lv' := [(0, .ref (B + 0)), (1, .ref (B + 40)), (3, .ref (B + 42)), (4, .ref (B + 39)), (7, .int l7), (12, .int 1), (14, .int l14)]) X dL_isHour_592 (by decide) [1, 2, 3, 4, 5, 0, 6] rfl ?_
        refine r_iinc (v := l14 + 1) (lv' := [(0, .ref (B + 0)), (1, .ref (B + 40)), (3, .ref (B + 42)), (4, .ref (B + 39)), (7, .int l7), (12, .int 1), (14, .int (l14 + 1))]) (pc := 594) X dL_isHour_594 6 rfl rfl (by decide) [1, 2, 3, 4, 5, 6, 0] rfl ?_
        refine r_goto (tgt := 512) (pc := 597) X dL_isHour_597 (by decide) ?_
        exact hK512 hc hf
      · refine r_iconst (v := 0) (pc := 591) X dL_isHour_591 (by decide) ?_
        refine r_istore (pc := 592) (lv' := [(0, .ref (B + 0)), (1, .ref (B + 40)), (3, .ref (B + 42)), (4, .ref (B + 39)), (7, .int l7), (12, .int 0), (14, .int l14)]) X dL_isHour_592 (by decide) [1, 2, 3, 4, 5, 0, 6] rfl ?_
        refine r_iinc (v := l14 + 1) (lv' := [(0, .ref (B + 0)), (1, .ref (B + 40)), (3, .ref (B + 42)), (4, .ref (B + 39)), (7, .int l7), (12, .int 0), (14, .int (l14 + 1))]) (pc := 594) X dL_isHour_594 6 rfl rfl (by decide) [1, 2, 3, 4, 5, 6, 0] rfl ?_
        refine r_goto (tgt := 512) (pc := 597) X dL_isHour_597 (by decide) ?_
        exact hK512 hc hf
    · refine r_iload (pc := 541) X dL_isHour_541 6 rfl ?_
      refine r_aload_n (x := some 40) (pc := 543) X dL_isHour_543 1 rfl ?_
      refine r_iload (pc := 544) X dL_isHour_544 7 rfl ?_
      refine b_iald (pc := 546) X ce_40 dL_isHour_546 hf (fun j17 hf => ?_)
      refine r_iload (pc := 547) X dL_isHour_547 4 rfl ?_
      refine r_aload_n (x := some 42) (pc := 549) X dL_isHour_549 2 rfl ?_
      refine r_bipush (v := 12) (pc := 550) X dL_isHour_550 (by decide) ?_
      refine r_iload (pc := 552) X dL_isHour_552 5 rfl ?_
      refine r_imul (pc := 554) X dL_isHour_554 ?_
      refine r_iconst (v := 1) (pc := 555) X dL_isHour_555 (by decide) ?_
      refine r_iadd (pc := 556) X dL_isHour_556 ?_
      refine b_iald (pc := 557) X ce_42 dL_isHour_557 hf (fun j18 hf => ?_)
      refine r_isub (pc := 558) X dL_isHour_558 ?_
      refine b_icmp_le (tgt := 566) (pc := 559) X dL_isHour_559 (by decide) hf (fun hf => ?_) (fun hf => ?_)
      · refine r_iconst (v := 0) (pc := 566) X dL_isHour_566 (by decide) ?_
        refine r_iadd (pc := 567) X dL_isHour_567 ?_
        refine r_istore (pc := 568) (lv' := [(0, .ref (B + 0)), (1, .ref (B + 40)), (3, .ref (B + 42)), (4, .ref (B + 39)), (7, .int l7), (14, .int l14), (15, .int (l15 + 0)), (16, .int l16)]) X dL_isHour_568 (by decide) [1, 2, 3, 4, 5, 6, 0, 7] rfl ?_
        refine r_iinc (v := l16 + 1) (lv' := [(0, .ref (B + 0)), (1, .ref (B + 40)), (3, .ref (B + 42)), (4, .ref (B + 39)), (7, .int l7), (14, .int l14), (15, .int (l15 + 0)), (16, .int (l16 + 1))]) (pc := 570) X dL_isHour_570 7 rfl rfl (by decide) [1, 2, 3, 4, 5, 6, 7, 0] rfl ?_
        refine r_goto (tgt := 532) (pc := 573) X dL_isHour_573 (by decide) ?_
        exact ih hc hf
      · refine r_iconst (v := 1) (pc := 562) X dL_isHour_562 (by decide) ?_
        refine r_goto (tgt := 567) (pc := 563) X dL_isHour_563 (by decide) ?_
        refine r_iadd (pc := 567) X dL_isHour_567 ?_
        refine r_istore (pc := 568) (lv' := [(0, .ref (B + 0)), (1, .ref (B + 40)), (3, .ref (B + 42)), (4, .ref (B + 39)), (7, .int l7), (14, .int l14), (15, .int (l15 + 1)), (16, .int l16)]) X dL_isHour_568 (by decide) [1, 2, 3, 4, 5, 6, 0, 7] rfl ?_
        refine r_iinc (v := l16 + 1) (lv' := [(0, .ref (B + 0)), (1, .ref (B + 40)), (3, .ref (B + 42)), (4, .ref (B + 39)), (7, .int l7), (14, .int l14), (15, .int (l15 + 1)), (16, .int (l16 + 1))]) (pc := 570) X dL_isHour_570 7 rfl rfl (by decide) [1, 2, 3, 4, 5, 6, 7, 0] rfl ?_
        refine r_goto (tgt := 532) (pc := 573) X dL_isHour_573 (by decide) ?_
        exact ih hc hf
set_option maxHeartbeats 1000000 in
theorem c_f_L_isHour_b512 {F Z : Nat} {c0 : Nat} {Γ : Ga} {D : DD} {B : Nat} {r : Int32} {s' : St} (X : Cx Γ RL cL_isHour 18 D B (RMg Z c0 804 16500)) (M : RLe (RMg Z c0 804 16500) Z 0 0 c0 804 16500) (Y : Xy Γ B) (hr : (Gme Γ).sig.returnType = (some .boolean)) : ∀ (n : Nat) {s : St} {l7 : Int32} {l12 : Int32} {l14 : Int32}, Hc c0 Z s → f_L_isHour_b512 F Z n s l7 l12 l14 = some (r, s') → V Γ D B true 18 (QX Γ D B true s' (.inl (some (.int r))) (64 * (ct s' - c0)) (768 * (ct s' - c0))) (kg 0 c0 s) (ng 0 c0 s) s 512 [(0, .ref (B + 0)), (1, .ref (B + 40)), (3, .ref (B + 42)), (4, .ref (B + 39)), (7, .int l7), (12, .int l12), (14, .int l14)] [] := by
  intro n
  induction n with
  | zero => intro s l7 l12 l14 hc hf; rw [f_L_isHour_b512] at hf; cases hf
  | succ n ih =>
    intro s l7 l12 l14 hc hf
    rw [f_L_isHour_b512] at hf
    refine r_iload (pc := 512) X dL_isHour_512 6 rfl ?_
    refine r_aload (x := some 39) (pc := 514) X dL_isHour_514 3 rfl ?_
    refine r_iconst (v := 1) (pc := 516) X dL_isHour_516 (by decide) ?_
    refine b_iald (pc := 517) X ce_39 dL_isHour_517 hf (fun j13 hf => ?_)
    refine b_icmp_ge (tgt := 600) (pc := 518) X dL_isHour_518 (by decide) hf (fun hf => ?_) (fun hf => ?_)
    · refine r_iload (pc := 600) X dL_isHour_600 5 rfl ?_
      refine ifo hf (fun hx hf => ?_)
      exact y_zret (pc := 602) X hr hx hf dL_isHour_602
    · refine r_iload (pc := 521) X dL_isHour_521 5 rfl ?_
      refine b_if_eq (tgt := 600) (pc := 523) X dL_isHour_523 (by decide) hf (fun hf => ?_) (fun hf => ?_)
      · refine r_iload (pc := 600) X dL_isHour_600 5 rfl ?_
        refine ifo hf (fun hx hf => ?_)
        exact y_zret (pc := 602) X hr hx hf dL_isHour_602
      · refine r_iconst (v := 0) (pc := 526) X dL_isHour_526 (by decide) ?_
        refine r_istore (pc := 527) (lv' := [(0, .ref (B + 0)), (1, .ref (B + 40)), (3, .ref (B + 42)), (4, .ref (B + 39)), (7, .int l7), (14, .int l14), (15, .int 0)]) X dL_isHour_527 (by decide) [1, 2, 3, 4, 5, 7, 0] rfl ?_
        refine r_iconst (v := 0) (pc := 529) X dL_isHour_529 (by decide) ?_
        refine r_istore (pc := 530) (lv' := [(0, .ref (B + 0)), (1, .ref (B + 40)), (3, .ref (B + 42)), (4, .ref (B + 39)), (7, .int l7), (14, .int l14), (15, .int 0), (16, .int 0)]) X dL_isHour_530 (by decide) [1, 2, 3, 4, 5, 6, 7, 0] rfl ?_
        exact c_f_L_isHour_b532 X M Y hr (fun hc hf => ih hc hf) _ hc hf
set_option maxHeartbeats 1000000 in
theorem c_f_L_isHour_b432 {F Z : Nat} {c0 : Nat} {Γ : Ga} {D : DD} {B : Nat} {r : Int32} {s' : St} (X : Cx Γ RL cL_isHour 18 D B (RMg Z c0 804 16500)) (M : RLe (RMg Z c0 804 16500) Z 0 0 c0 804 16500) (Y : Xy Γ B) (hr : (Gme Γ).sig.returnType = (some .boolean)) {K308 : St → Int32 → Int32 → Int32 → Int32 → Int32 → Option (Int32 × St)} (hK308 : ∀ {s : St} {l7 : Int32} {l8 : Int32} {l12 : Int32} {l13 : Int32} {l14 : Int32}, Hc c0 Z s → K308 s l7 l8 l12 l13 l14 = some (r, s') → V Γ D B true 18 (QX Γ D B true s' (.inl (some (.int r))) (64 * (ct s' - c0)) (768 * (ct s' - c0))) (kg 0 c0 s) (ng 0 c0 s) s 308 [(0, .ref (B + 0)), (1, .ref (B + 40)), (3, .ref (B + 42)), (4, .ref (B + 39)), (7, .int l7), (8, .int l8), (12, .int l12), (13, .int l13), (14, .int l14)] []) : ∀ (n : Nat) {s : St} {l7 : Int32} {l8 : Int32} {l12 : Int32} {l14 : Int32} {l15 : Int32} {l16 : Int32}, Hc c0 Z s → f_L_isHour_b432 F Z K308 n s l7 l8 l12 l14 l15 l16 = some (r, s') → V Γ D B true 18 (QX Γ D B true s' (.inl (some (.int r))) (64 * (ct s' - c0)) (768 * (ct s' - c0))) (kg 0 c0 s) (ng 0 c0 s) s 432 [(0, .ref (B + 0)), (1, .ref (B + 40)), (3, .ref (B + 42)), (4, .ref (B + 39)), (7, .int l7), (8, .int l8), (12, .int l12), (14, .int l14), (15, .int l15), (16, .int l16)] [] := by
  intro n
  induction n with
  | zero => intro s l7 l8 l12 l14 l15 l16 hc hf; rw [f_L_isHour_b432] at hf; cases hf
  | succ n ih =>
    intro s l7 l8 l12 l14 l15 l16 hc hf
    rw [f_L_isHour_b432] at hf
    refine r_iload (pc := 432) X dL_isHour_432 9 rfl ?_
    refine r_aload_n (x := some 42) (pc := 434) X dL_isHour_434 2 rfl ?_
    refine r_bipush (v := 12) (pc := 435) X dL_isHour_435 (by decide) ?_
    refine r_iload (pc := 437) X dL_isHour_437 8 rfl ?_
    refine r_imul (pc := 439) X dL_isHour_439 ?_
    refine r_iconst (v := 4) (pc := 440) X dL_isHour_440 (by decide) ?_
    refine r_iadd (pc := 441) X dL_isHour_441 ?_
    refine b_iald (pc := 442) X ce_42 dL_isHour_442 hf (fun j23 hf => ?_)
    refine b_icmp_ge (tgt := 499) (pc := 443) X dL_isHour_443 (by decide) hf (fun hf => ?_) (fun hf => ?_)
    · refine r_iload (pc := 499) X dL_isHour_499 8 rfl ?_
      refine r_istore (pc := 501) (lv' := [(0, .ref (B + 0)), (1, .ref (B + 40)), (3, .ref (B + 42)), (4, .ref (B + 39)), (7, .int l7), (8, .int l8), (12, .int l12), (13, .int l15), (14, .int l14)]) X dL_isHour_501 (by decide) [1, 2, 3, 4, 5, 6, 7, 0, 8] rfl ?_
      refine r_iinc (v := l14 + 1) (lv' := [(0, .ref (B + 0)), (1, .ref (B + 40)), (3, .ref (B + 42)), (4, .ref (B + 39)), (7, .int l7), (8, .int l8), (12, .int l12), (13, .int l15), (14, .int (l14 + 1))]) (pc := 503) X dL_isHour_503 8 rfl rfl (by decide) [1, 2, 3, 4, 5, 6, 7, 8, 0] rfl ?_
      refine r_goto (tgt := 308) (pc := 506) X dL_isHour_506 (by decide) ?_
      exact hK308 hc hf
    · refine r_iload (pc := 446) X dL_isHour_446 6 rfl ?_
      refine b_if_eq (tgt := 499) (pc := 448) X dL_isHour_448 (by decide) hf (fun hf => ?_) (fun hf => ?_)
      · refine r_iload (pc := 499) X dL_isHour_499 8 rfl ?_
        refine r_istore (pc := 501) (lv' := [(0, .ref (B + 0)), (1, .ref (B + 40)), (3, .ref (B + 42)), (4, .ref (B + 39)), (7, .int l7), (8, .int l8), (12, .int l12), (13, .int l15), (14, .int l14)]) X dL_isHour_501 (by decide) [1, 2, 3, 4, 5, 6, 7, 0, 8] rfl ?_
        refine r_iinc (v := l14 + 1) (lv' := [(0, .ref (B + 0)), (1, .ref (B + 40)), (3, .ref (B + 42)), (4, .ref (B + 39)), (7, .int l7), (8, .int l8), (12, .int l12), (13, .int l15), (14, .int (l14 + 1))]) (pc := 503) X dL_isHour_503 8 rfl rfl (by decide) [1, 2, 3, 4, 5, 6, 7, 8, 0] rfl ?_
        refine r_goto (tgt := 308) (pc := 506) X dL_isHour_506 (by decide) ?_
        exact hK308 hc hf
      · refine r_aload_n (x := some 42) (pc := 451) X dL_isHour_451 2 rfl ?_
        refine r_bipush (v := 12) (pc := 452) X dL_isHour_452 (by decide) ?_
        refine r_iload (pc := 454) X dL_isHour_454 8 rfl ?_
        refine r_imul (pc := 456) X dL_isHour_456 ?_
        refine r_iconst (v := 5) (pc := 457) X dL_isHour_457 (by decide) ?_
        refine r_iadd (pc := 458) X dL_isHour_458 ?_
        refine r_iload (pc := 459) X dL_isHour_459 9 rfl ?_
        refine r_iadd (pc := 461) X dL_isHour_461 ?_
        refine b_iald (pc := 462) X ce_42 dL_isHour_462 hf (fun j24 hf => ?_)
        refine r_istore (pc := 463) (lv' := [(0, .ref (B + 0)), (1, .ref (B + 40)), (3, .ref (B + 42)), (4, .ref (B + 39)), (7, .int l7), (8, .int l8), (14, .int l14), (15, .int l15), (16, .int l16), (17, .int (gA s 42 j24))]) X dL_isHour_463 (by decide) [1, 2, 3, 4, 5, 6, 8, 9, 10, 0] rfl ?_
        refine r_iload (pc := 465) X dL_isHour_465 4 rfl ?_
        refine r_iload (pc := 467) X dL_isHour_467 9 rfl ?_
        refine r_sipush (v := 1023) (pc := 469) X dL_isHour_469 (by decide) ?_
        refine r_iand (pc := 472) X dL_isHour_472 ?_
        refine b_icmp_lt (tgt := 486) (pc := 473) X dL_isHour_473 (by decide) hf (fun hf => ?_) (fun hf => ?_)
        · refine r_iconst (v := 1) (pc := 486) X dL_isHour_486 (by decide) ?_
          refine r_goto (tgt := 491) (pc := 487) X dL_isHour_487 (by decide) ?_
          refine r_istore (pc := 491) (lv' := [(0, .ref (B + 0)), (1, .ref (B + 40)), (3, .ref (B + 42)), (4, .ref (B + 39)), (7, .int l7), (8, .int l8), (12, .int 1), (14, .int l14), (15, .int l15), (16, .int l16)]) X dL_isHour_491 (by decide) [1, 2, 3, 4, 5, 6, 0, 7, 8, 9] rfl ?_
          refine r_iinc (v := l16 + 1) (lv' := [(0, .ref (B + 0)), (1, .ref (B + 40)), (3, .ref (B + 42)), (4, .ref (B + 39)), (7, .int l7), (8, .int l8), (12, .int 1), (14, .int l14), (15, .int l15), (16, .int (l16 + 1))]) (pc := 493) X dL_isHour_493 9 rfl rfl (by decide) [1, 2, 3, 4, 5, 6, 7, 8, 9, 0] rfl ?_
          refine r_goto (tgt := 432) (pc := 496) X dL_isHour_496 (by decide) ?_
          exact ih hc hf
        · refine r_iload (pc := 476) X dL_isHour_476 4 rfl ?_
          refine r_iload (pc := 478) X dL_isHour_478 9 rfl ?_
          refine r_bipush (v := 10) (pc := 480) X dL_isHour_480 (by decide) ?_
          refine r_ishr (pc := 482) X dL_isHour_482 ?_
          refine b_icmp_le (tgt := 490) (pc := 483) X dL_isHour_483 (by decide) hf (fun hf => ?_) (fun hf => ?_)
          · refine r_iconst (v := 0) (pc := 490) X dL_isHour_490 (by decide) ?_
            refine r_istore (pc := 491) (lv' := [(0, .ref (B + 0)), (1, .ref (B + 40)), (3, .ref (B + 42)), (4, .ref (B + 39)), (7, .int l7), (8, .int l8), (12, .int 0), (14, .int l14), (15, .int l15), (16, .int l16)]) X dL_isHour_491 (by decide) [1, 2, 3, 4, 5, 6, 0, 7, 8, 9] rfl ?_
            refine r_iinc (v := l16 + 1) (lv' := [(0, .ref (B + 0)), (1, .ref (B + 40)), (3, .ref (B + 42)), (4, .ref (B + 39)), (7, .int l7), (8, .int l8), (12, .int 0), (14, .int l14), (15, .int l15), (16, .int (l16 + 1))]) (pc := 493) X dL_isHour_493 9 rfl rfl (by decide) [1, 2, 3, 4, 5, 6, 7, 8, 9, 0] rfl ?_
            refine r_goto (tgt := 432) (pc := 496) X dL_isHour_496 (by decide) ?_
            exact ih hc hf
          · refine r_iconst (v := 1) (pc := 486) X dL_isHour_486 (by decide) ?_
            refine r_goto (tgt := 491) (pc := 487) X dL_isHour_487 (by decide) ?_
            refine r_istore (pc := 491) (lv' := [(0, .ref (B + 0)), (1, .ref (B + 40)), (3, .ref (B + 42)), (4, .ref (B + 39)), (7, .int l7), (8, .int l8), (12, .int 1), (14, .int l14), (15, .int l15), (16, .int l16)]) X dL_isHour_491 (by decide) [1, 2, 3, 4, 5, 6, 0, 7, 8, 9] rfl ?_
            refine r_iinc (v := l16 + 1) (lv' := [(0, .ref (B + 0)), (1, .ref (B + 40)), (3, .ref (B + 42)), (4, .ref (B + 39)), (7, .int l7), (8, .int l8), (12, .int 1), (14, .int l14), (15, .int l15), (16, .int (l16 + 1))]) (pc := 493) X dL_isHour_493 9 rfl rfl (by decide) [1, 2, 3, 4, 5, 6, 7, 8, 9, 0] rfl ?_
            refine r_goto (tgt := 432) (pc := 496) X dL_isHour_496 (by decide) ?_
            exact ih hc hf
set_option maxHeartbeats 1000000 in
theorem c_f_L_isHour_b410 {F Z : Nat} {c0 : Nat} {Γ : Ga} {D : DD} {B : Nat} {r : Int32} {s' : St} (X : Cx Γ RL cL_isHour 18 D B (RMg Z c0 804 16500)) (M : RLe (RMg Z c0 804 16500) Z 0 0 c0 804 16500) (Y : Xy Γ B) (hr : (Gme Γ).sig.returnType = (some .boolean)) {K308 : St → Int32 → Int32 → Int32 → Int32 → Int32 → Option (Int32 × St)} (hK308 : ∀ {s : St} {l7 : Int32} {l8 : Int32} {l12 : Int32} {l13 : Int32} {l14 : Int32}, Hc c0 Z s → K308 s l7 l8 l12 l13 l14 = some (r, s') → V Γ D B true 18 (QX Γ D B true s' (.inl (some (.int r))) (64 * (ct s' - c0)) (768 * (ct s' - c0))) (kg 0 c0 s) (ng 0 c0 s) s 308 [(0, .ref (B + 0)), (1, .ref (B + 40)), (3, .ref (B + 42)), (4, .ref (B + 39)), (7, .int l7), (8, .int l8), (12, .int l12), (13, .int l13), (14, .int l14)] []) {s : St} {l7 : Int32} {l8 : Int32} {l14 : Int32} {l15 : Int32} {t0 : Int32} {t1 : Int32} (hc : Hc c0 Z s) (hf : f_L_isHour_b410 F Z K308 s l7 l8 l14 l15 t0 t1 = some (r, s')) : V Γ D B true 18 (QX Γ D B true s' (.inl (some (.int r))) (64 * (ct s' - c0)) (768 * (ct s' - c0))) (kg 0 c0 s) (ng 0 c0 s) s 410 [(0, .ref (B + 0)), (1, .ref (B + 40)), (3, .ref (B + 42)), (4, .ref (B + 39)), (7, .int l7), (8, .int l8), (14, .int l14), (15, .int l15)] [.int t1, .int t0] := by
  unfold f_L_isHour_b410 at hf
  refine b_icmp_ne (tgt := 426) (pc := 410) X dL_isHour_410 (by decide) hf (fun hf => ?_) (fun hf => ?_)
  · refine r_aload_n (x := some 0) (pc := 413) X dL_isHour_413 0 rfl ?_
    refine r_iload (pc := 414) X dL_isHour_414 6 rfl ?_
    refine bnd hf (fun x30 h30 hf => ?_)
    refine bnd hf (fun v31 h30v hf => ?_)
    refine y_callXVi (As := [.int l14]) (st := []) (pc := 416) X M Y hc (qc_run (ou := ouI) hc.2 (fun z x h => c_f_P_wouldRise h) h30) rfl w_862 w_863 w_864 w_36 w_865 hdV_X10_wouldRise (Rc.s rfl ce_0) (by decide) (Nat.le_of_ble_eq_true rfl) dL_isHour_416 rfl h30v (fun hc => ?_)
    refine b_if_eq (tgt := 426) (pc := 419) X dL_isHour_419 (by decide) hf (fun hf => ?_) (fun hf => ?_)
    · refine r_iconst (v := 0) (pc := 426) X dL_isHour_426 (by decide) ?_
      refine r_istore (pc := 427) (lv' := [(0, .ref (B + 0)), (1, .ref (B + 40)), (3, .ref (B + 42)), (4, .ref (B + 39)), (7, .int l7), (8, .int l8), (12, .int 0), (14, .int l14), (15, .int l15)]) X dL_isHour_427 (by decide) [1, 2, 3, 4, 5, 6, 0, 7, 8] rfl ?_
      refine r_iconst (v := 0) (pc := 429) X dL_isHour_429 (by decide) ?_
      refine r_istore (pc := 430) (lv' := [(0, .ref (B + 0)), (1, .ref (B + 40)), (3, .ref (B + 42)), (4, .ref (B + 39)), (7, .int l7), (8, .int l8), (12, .int 0), (14, .int l14), (15, .int l15), (16, .int 0)]) X dL_isHour_430 (by decide) [1, 2, 3, 4, 5, 6, 7, 8, 9, 0] rfl ?_
      exact c_f_L_isHour_b432 X M Y hr hK308 _ hc hf
    · refine r_iconst (v := 1) (pc := 422) X dL_isHour_422 (by decide) ?_
      refine r_goto (tgt := 427) (pc := 423) X dL_isHour_423 (by decide) ?_
      refine r_istore (pc := 427) (lv' := [(0, .ref (B + 0)), (1, .ref (B + 40)), (3, .ref (B + 42)), (4, .ref (B + 39)), (7, .int l7), (8, .int l8), (12, .int 1), (14, .int l14), (15, .int l15)]) X dL_isHour_427 (by decide) [1, 2, 3, 4, 5, 6, 0, 7, 8] rfl ?_
      refine r_iconst (v := 0) (pc := 429) X dL_isHour_429 (by decide) ?_
      refine r_istore (pc := 430) (lv' := [(0, .ref (B + 0)), (1, .ref (B + 40)), (3, .ref (B + 42)), (4, .ref (B + 39)), (7, .int l7), (8, .int l8), (12, .int 1), (14, .int l14), (15, .int l15), (16, .int 0)]) X dL_isHour_430 (by decide) [1, 2, 3, 4, 5, 6, 7, 8, 9, 0] rfl ?_
      exact c_f_L_isHour_b432 X M Y hr hK308 _ hc hf
  · refine r_iconst (v := 0) (pc := 426) X dL_isHour_426 (by decide) ?_
    refine r_istore (pc := 427) (lv' := [(0, .ref (B + 0)), (1, .ref (B + 40)), (3, .ref (B + 42)), (4, .ref (B + 39)), (7, .int l7), (8, .int l8), (12, .int 0), (14, .int l14), (15, .int l15)]) X dL_isHour_427 (by decide) [1, 2, 3, 4, 5, 6, 0, 7, 8] rfl ?_
    refine r_iconst (v := 0) (pc := 429) X dL_isHour_429 (by decide) ?_
    refine r_istore (pc := 430) (lv' := [(0, .ref (B + 0)), (1, .ref (B + 40)), (3, .ref (B + 42)), (4, .ref (B + 39)), (7, .int l7), (8, .int l8), (12, .int 0), (14, .int l14), (15, .int l15), (16, .int 0)]) X dL_isHour_430 (by decide) [1, 2, 3, 4, 5, 6, 7, 8, 9, 0] rfl ?_
    exact c_f_L_isHour_b432 X M Y hr hK308 _ hc hf
set_option maxHeartbeats 1000000 in
theorem c_f_L_isHour_b308 {F Z : Nat} {c0 : Nat} {Γ : Ga} {D : DD} {B : Nat} {r : Int32} {s' : St} (X : Cx Γ RL cL_isHour 18 D B (RMg Z c0 804 16500)) (M : RLe (RMg Z c0 804 16500) Z 0 0 c0 804 16500) (Y : Xy Γ B) (hr : (Gme Γ).sig.returnType = (some .boolean)) : ∀ (n : Nat) {s : St} {l7 : Int32} {l8 : Int32} {l12 : Int32} {l13 : Int32} {l14 : Int32}, Hc c0 Z s → f_L_isHour_b308 F Z n s l7 l8 l12 l13 l14 = some (r, s') → V Γ D B true 18 (QX Γ D B true s' (.inl (some (.int r))) (64 * (ct s' - c0)) (768 * (ct s' - c0))) (kg 0 c0 s) (ng 0 c0 s) s 308 [(0, .ref (B + 0)), (1, .ref (B + 40)), (3, .ref (B + 42)), (4, .ref (B + 39)), (7, .int l7), (8, .int l8), (12, .int l12), (13, .int l13), (14, .int l14)] [] := by
  intro n
  induction n with
  | zero => intro s l7 l8 l12 l13 l14 hc hf; rw [f_L_isHour_b308] at hf; cases hf
  | succ n ih =>
    intro s l7 l8 l12 l13 l14 hc hf
    rw [f_L_isHour_b308] at hf
    refine r_iload (pc := 308) X dL_isHour_308 8 rfl ?_
    refine r_aload_n (x := some 0) (pc := 310) X dL_isHour_310 0 rfl ?_
    refine bnd hf (fun x11 h11 hf => ?_)
    refine y_callVi (As := []) (st := [.int l14]) (pc := 311) X M hc (c_f_P_alarms h11) rfl w_428 w_429 w_430 w_36 w_431 hdV_X10_alarms (Rc.s rfl ce_0) (by decide) (Nat.le_of_ble_eq_true rfl) dL_isHour_311 rfl hf (fun s12 hc hf => ?_)
    refine b_icmp_ge (tgt := 509) (pc := 314) X dL_isHour_314 (by decide) hf (fun hf => ?_) (fun hf => ?_)
    · refine r_iconst (v := 0) (pc := 509) X dL_isHour_509 (by decide) ?_
      refine r_istore (pc := 510) (lv' := [(0, .ref (B + 0)), (1, .ref (B + 40)), (3, .ref (B + 42)), (4, .ref (B + 39)), (7, .int l7), (12, .int l12), (14, .int 0)]) X dL_isHour_510 (by decide) [1, 2, 3, 4, 5, 7, 0] rfl ?_
      exact c_f_L_isHour_b512 X M Y hr _ hc hf
    · refine r_iload (pc := 317) X dL_isHour_317 6 rfl ?_
      refine b_if_eq (tgt := 509) (pc := 319) X dL_isHour_319 (by decide) hf (fun hf => ?_) (fun hf => ?_)
      · refine r_iconst (v := 0) (pc := 509) X dL_isHour_509 (by decide) ?_
        refine r_istore (pc := 510) (lv' := [(0, .ref (B + 0)), (1, .ref (B + 40)), (3, .ref (B + 42)), (4, .ref (B + 39)), (7, .int l7), (12, .int l12), (14, .int 0)]) X dL_isHour_510 (by decide) [1, 2, 3, 4, 5, 7, 0] rfl ?_
        exact c_f_L_isHour_b512 X M Y hr _ hc hf
      · refine r_aload_n (x := some 0) (pc := 322) X dL_isHour_322 0 rfl ?_
        refine r_iload (pc := 323) X dL_isHour_323 8 rfl ?_
        refine bnd hf (fun x19 h19 hf => ?_)
        refine bnd hf (fun v20 h19v hf => ?_)
        refine y_callXVi (As := [.int l14]) (st := []) (pc := 325) X M Y hc (qc_run (ou := ouI) hc.2 (fun z x h => c_f_P_alarm h) h19) rfl w_834 w_835 w_836 w_36 w_837 hdV_X10_alarm (Rc.s rfl ce_0) (by decide) (Nat.le_of_ble_eq_true rfl) dL_isHour_325 rfl h19v (fun hc => ?_)
        refine r_sipush (v := 10000) (pc := 328) X dL_isHour_328 (by decide) ?_
        refine r_idiv (pc := 331) X dL_isHour_331 (by decide) ?_
        refine r_istore (pc := 332) (lv' := [(0, .ref (B + 0)), (1, .ref (B + 40)), (3, .ref (B + 42)), (4, .ref (B + 39)), (7, .int l7), (8, .int l8), (13, .int l13), (14, .int l14), (15, .int (v20 / 10000))]) X dL_isHour_332 (by decide) [1, 2, 3, 4, 5, 6, 8, 9, 0] rfl ?_
        refine r_aload_n (x := some 0) (pc := 334) X dL_isHour_334 0 rfl ?_
        refine r_iload (pc := 335) X dL_isHour_335 7 rfl ?_
        refine bnd hf (fun x21 h21 hf => ?_)
        refine bnd hf (fun v22 h21v hf => ?_)
        refine y_callXVi (As := [.int l14]) (st := []) (pc := 337) X M Y hc (qc_run (ou := ouI) hc.2 (fun z x h => c_f_P_alarm h) h21) rfl w_834 w_835 w_836 w_36 w_837 hdV_X10_alarm (Rc.s rfl ce_0) (by decide) (Nat.le_of_ble_eq_true rfl) dL_isHour_337 rfl h21v (fun hc => ?_)
        refine r_sipush (v := 10000) (pc := 340) X dL_isHour_340 (by decide) ?_
        refine r_irem (pc := 343) X dL_isHour_343 (by decide) ?_
        refine r_iload (pc := 344) X dL_isHour_344 4 rfl ?_
        refine b_icmp_ne (tgt := 426) (pc := 346) X dL_isHour_346 (by decide) hf (fun hf => ?_) (fun hf => ?_)
        · refine r_iload (pc := 349) X dL_isHour_349 8 rfl ?_
          refine r_iload (pc := 351) X dL_isHour_351 6 rfl ?_
          refine b_icmp_le (tgt := 426) (pc := 353) X dL_isHour_353 (by decide) hf (fun hf => ?_) (fun hf => ?_)
          · refine r_iconst (v := 0) (pc := 426) X dL_isHour_426 (by decide) ?_
            refine r_istore (pc := 427) (lv' := [(0, .ref (B + 0)), (1, .ref (B + 40)), (3, .ref (B + 42)), (4, .ref (B + 39)), (7, .int l7), (8, .int l8), (12, .int 0), (14, .int l14), (15, .int (v20 / 10000))]) X dL_isHour_427 (by decide) [1, 2, 3, 4, 5, 6, 0, 8, 9] rfl ?_
            refine r_iconst (v := 0) (pc := 429) X dL_isHour_429 (by decide) ?_
            refine r_istore (pc := 430) (lv' := [(0, .ref (B + 0)), (1, .ref (B + 40)), (3, .ref (B + 42)), (4, .ref (B + 39)), (7, .int l7), (8, .int l8), (12, .int 0), (14, .int l14), (15, .int (v20 / 10000)), (16, .int 0)]) X dL_isHour_430 (by decide) [1, 2, 3, 4, 5, 6, 7, 8, 9, 0] rfl ?_
            exact c_f_L_isHour_b432 X M Y hr (fun hc hf => ih hc hf) _ hc hf
          · refine r_iload (pc := 356) X dL_isHour_356 8 rfl ?_
            refine r_aload (x := some 39) (pc := 358) X dL_isHour_358 3 rfl ?_
            refine r_iconst (v := 1) (pc := 360) X dL_isHour_360 (by decide) ?_
            refine b_iald (pc := 361) X ce_39 dL_isHour_361 hf (fun j25 hf => ?_)
            refine b_icmp_ge (tgt := 426) (pc := 362) X dL_isHour_362 (by decide) hf (fun hf => ?_) (fun hf => ?_)
            · refine r_iconst (v := 0) (pc := 426) X dL_isHour_426 (by decide) ?_
              refine r_istore (pc := 427) (lv' := [(0, .ref (B + 0)), (1, .ref (B + 40)), (3, .ref (B + 42)), (4, .ref (B + 39)), (7, .int l7), (8, .int l8), (12, .int 0), (14, .int l14), (15, .int (v20 / 10000))]) X dL_isHour_427 (by decide) [1, 2, 3, 4, 5, 6, 0, 8, 9] rfl ?_
              refine r_iconst (v := 0) (pc := 429) X dL_isHour_429 (by decide) ?_
              refine r_istore (pc := 430) (lv' := [(0, .ref (B + 0)), (1, .ref (B + 40)), (3, .ref (B + 42)), (4, .ref (B + 39)), (7, .int l7), (8, .int l8), (12, .int 0), (14, .int l14), (15, .int (v20 / 10000)), (16, .int 0)]) X dL_isHour_430 (by decide) [1, 2, 3, 4, 5, 6, 7, 8, 9, 0] rfl ?_
              exact c_f_L_isHour_b432 X M Y hr (fun hc hf => ih hc hf) _ hc hf
            · refine r_aload_n (x := some 42) (pc := 365) X dL_isHour_365 2 rfl ?_
              refine r_bipush (v := 12) (pc := 366) X dL_isHour_366 (by decide) ?_
              refine r_iload (pc := 368) X dL_isHour_368 8 rfl ?_
              refine r_imul (pc := 370) X dL_isHour_370 ?_
              refine r_iconst (v := 3) (pc := 371) X dL_isHour_371 (by decide) ?_
              refine r_iadd (pc := 372) X dL_isHour_372 ?_
              refine b_iald (pc := 373) X ce_42 dL_isHour_373 hf (fun j26 hf => ?_)
              refine b_if_ne (tgt := 426) (pc := 374) X dL_isHour_374 (by decide) hf (fun hf => ?_) (fun hf => ?_)
              · refine r_aload_n (x := some 0) (pc := 377) X dL_isHour_377 0 rfl ?_
                refine r_iload (pc := 378) X dL_isHour_378 7 rfl ?_
                refine bnd hf (fun x27 h27 hf => ?_)
                refine bnd hf (fun v28 h27v hf => ?_)
                refine y_callXVi (As := [.int l14]) (st := []) (pc := 380) X M Y hc (qc_run (ou := ouI) hc.2 (fun z x h => c_f_P_woken h) h27) rfl w_838 w_839 w_840 w_36 w_841 hdV_X10_woken (Rc.s rfl ce_0) (by decide) (Nat.le_of_ble_eq_true rfl) dL_isHour_380 rfl h27v (fun hc => ?_)
                refine r_iload (pc := 383) X dL_isHour_383 5 rfl ?_
                refine b_icmp_ne (tgt := 426) (pc := 385) X dL_isHour_385 (by decide) hf (fun hf => ?_) (fun hf => ?_)
                · refine r_aload_n (x := some 0) (pc := 388) X dL_isHour_388 0 rfl ?_
                  refine r_bipush (v := 9) (pc := 389) X dL_isHour_389 (by decide) ?_
                  refine r_iload (pc := 391) X dL_isHour_391 7 rfl ?_
                  refine r_iconst (v := 0) (pc := 393) X dL_isHour_393 (by decide) ?_
                  refine bnd hf (fun x29 h29 hf => ?_)
                  refine ifo hf (fun hz hf => ?_)
                  refine y_callWSi (As := [.ref (B + 0), .int 9, .int l14, .int 0]) (st := []) (pc := 394) X M Y hc (c_f_L_of h29 hc.2) rfl w_797 w_798 w_35 w_799 hdS_L_of (by decide) hz (Nat.le_of_ble_eq_true rfl) dL_isHour_394 rfl (fun hc => ?_)
                  refine r_iload (pc := 397) X dL_isHour_397 5 rfl ?_
                  refine b_if_ge (tgt := 408) (pc := 399) X dL_isHour_399 (by decide) hf (fun hf => ?_) (fun hf => ?_)
                  · refine r_iload (pc := 408) X dL_isHour_408 4 rfl ?_
                    refine r_forget (lv' := [(0, .ref (B + 0)), (1, .ref (B + 40)), (3, .ref (B + 42)), (4, .ref (B + 39)), (7, .int l7), (8, .int l8), (14, .int l14), (15, .int (v20 / 10000))]) [0, 1, 2, 3, 4, 5, 7, 8] rfl ?_
                    exact c_f_L_isHour_b410 X M Y hr (fun hc hf => ih hc hf) hc hf
                  · refine r_sipush (v := -1244) (pc := 402) X dL_isHour_402 (by decide) ?_
                    refine r_goto (tgt := 410) (pc := 405) X dL_isHour_405 (by decide) ?_
                    refine r_forget (lv' := [(0, .ref (B + 0)), (1, .ref (B + 40)), (3, .ref (B + 42)), (4, .ref (B + 39)), (7, .int l7), (8, .int l8), (14, .int l14), (15, .int (v20 / 10000))]) [0, 1, 2, 3, 4, 5, 7, 8] rfl ?_
                    exact c_f_L_isHour_b410 X M Y hr (fun hc hf => ih hc hf) hc hf
                · refine r_iconst (v := 0) (pc := 426) X dL_isHour_426 (by decide) ?_
                  refine r_istore (pc := 427) (lv' := [(0, .ref (B + 0)), (1, .ref (B + 40)), (3, .ref (B + 42)), (4, .ref (B + 39)), (7, .int l7), (8, .int l8), (12, .int 0), (14, .int l14), (15, .int (v20 / 10000))]) X dL_isHour_427 (by decide) [1, 2, 3, 4, 5, 6, 0, 8, 9] rfl ?_
                  refine r_iconst (v := 0) (pc := 429) X dL_isHour_429 (by decide) ?_
                  refine r_istore (pc := 430) (lv' := [(0, .ref (B + 0)), (1, .ref (B + 40)), (3, .ref (B + 42)), (4, .ref (B + 39)), (7, .int l7), (8, .int l8), (12, .int 0), (14, .int l14), (15, .int (v20 / 10000)), (16, .int 0)]) X dL_isHour_430 (by decide) [1, 2, 3, 4, 5, 6, 7, 8, 9, 0] rfl ?_
                  exact c_f_L_isHour_b432 X M Y hr (fun hc hf => ih hc hf) _ hc hf
              · refine r_iconst (v := 0) (pc := 426) X dL_isHour_426 (by decide) ?_
                refine r_istore (pc := 427) (lv' := [(0, .ref (B + 0)), (1, .ref (B + 40)), (3, .ref (B + 42)), (4, .ref (B + 39)), (7, .int l7), (8, .int l8), (12, .int 0), (14, .int l14), (15, .int (v20 / 10000))]) X dL_isHour_427 (by decide) [1, 2, 3, 4, 5, 6, 0, 8, 9] rfl ?_
                refine r_iconst (v := 0) (pc := 429) X dL_isHour_429 (by decide) ?_
                refine r_istore (pc := 430) (lv' := [(0, .ref (B + 0)), (1, .ref (B + 40)), (3, .ref (B + 42)), (4, .ref (B + 39)), (7, .int l7), (8, .int l8), (12, .int 0), (14, .int l14), (15, .int (v20 / 10000)), (16, .int 0)]) X dL_isHour_430 (by decide) [1, 2, 3, 4, 5, 6, 7, 8, 9, 0] rfl ?_
                exact c_f_L_isHour_b432 X M Y hr (fun hc hf => ih hc hf) _ hc hf
        · refine r_iconst (v := 0) (pc := 426) X dL_isHour_426 (by decide) ?_
          refine r_istore (pc := 427) (lv' := [(0, .ref (B + 0)), (1, .ref (B + 40)), (3, .ref (B + 42)), (4, .ref (B + 39)), (7, .int l7), (8, .int l8), (12, .int 0), (14, .int l14), (15, .int (v20 / 10000))]) X dL_isHour_427 (by decide) [1, 2, 3, 4, 5, 6, 0, 8, 9] rfl ?_
          refine r_iconst (v := 0) (pc := 429) X dL_isHour_429 (by decide) ?_
          refine r_istore (pc := 430) (lv' := [(0, .ref (B + 0)), (1, .ref (B + 40)), (3, .ref (B + 42)), (4, .ref (B + 39)), (7, .int l7), (8, .int l8), (12, .int 0), (14, .int l14), (15, .int (v20 / 10000)), (16, .int 0)]) X dL_isHour_430 (by decide) [1, 2, 3, 4, 5, 6, 7, 8, 9, 0] rfl ?_
          exact c_f_L_isHour_b432 X M Y hr (fun hc hf => ih hc hf) _ hc hf
set_option maxHeartbeats 1000000 in
theorem c_f_L_isHour_b291 {F Z : Nat} {c0 : Nat} {Γ : Ga} {D : DD} {B : Nat} {r : Int32} {s' : St} (X : Cx Γ RL cL_isHour 18 D B (RMg Z c0 804 16500)) (M : RLe (RMg Z c0 804 16500) Z 0 0 c0 804 16500) (Y : Xy Γ B) (hr : (Gme Γ).sig.returnType = (some .boolean)) {s : St} {l5 : Int32} {l7 : Int32} {l8 : Int32} {t0 : Int32} {t1 : Int32} (hc : Hc c0 Z s) (hf : f_L_isHour_b291 F Z s l5 l7 l8 t0 t1 = some (r, s')) : V Γ D B true 18 (QX Γ D B true s' (.inl (some (.int r))) (64 * (ct s' - c0)) (768 * (ct s' - c0))) (kg 0 c0 s) (ng 0 c0 s) s 291 [(0, .ref (B + 0)), (1, .ref (B + 40)), (3, .ref (B + 42)), (4, .ref (B + 39)), (5, .int l5), (7, .int l7), (8, .int l8)] [.int t1, .int t0] := by
  unfold f_L_isHour_b291 at hf
  refine b_icmp_ne (tgt := 298) (pc := 291) X dL_isHour_291 (by decide) hf (fun hf => ?_) (fun hf => ?_)
  · refine r_iconst (v := 1) (pc := 294) X dL_isHour_294 (by decide) ?_
    refine r_goto (tgt := 299) (pc := 295) X dL_isHour_295 (by decide) ?_
    refine r_istore (pc := 299) (lv' := [(0, .ref (B + 0)), (1, .ref (B + 40)), (3, .ref (B + 42)), (4, .ref (B + 39)), (5, .int l5), (7, .int l7), (8, .int l8), (12, .int 1)]) X dL_isHour_299 (by decide) [1, 2, 3, 4, 5, 6, 7, 0] rfl ?_
    refine r_iconst (v := -1) (pc := 301) X dL_isHour_301 (by decide) ?_
    refine r_istore (pc := 302) (lv' := [(0, .ref (B + 0)), (1, .ref (B + 40)), (3, .ref (B + 42)), (4, .ref (B + 39)), (5, .int l5), (7, .int l7), (8, .int l8), (12, .int 1), (13, .int (-1))]) X dL_isHour_302 (by decide) [1, 2, 3, 4, 5, 6, 7, 8, 0] rfl ?_
    refine r_iload (pc := 304) X dL_isHour_304 4 rfl ?_
    refine r_istore (pc := 306) (lv' := [(0, .ref (B + 0)), (1, .ref (B + 40)), (3, .ref (B + 42)), (4, .ref (B + 39)), (7, .int l7), (8, .int l8), (12, .int 1), (13, .int (-1)), (14, .int l5)]) X dL_isHour_306 (by decide) [1, 2, 3, 4, 6, 7, 8, 9, 0] rfl ?_
    exact c_f_L_isHour_b308 X M Y hr _ hc hf
  · refine r_iconst (v := 0) (pc := 298) X dL_isHour_298 (by decide) ?_
    refine r_istore (pc := 299) (lv' := [(0, .ref (B + 0)), (1, .ref (B + 40)), (3, .ref (B + 42)), (4, .ref (B + 39)), (5, .int l5), (7, .int l7), (8, .int l8), (12, .int 0)]) X dL_isHour_299 (by decide) [1, 2, 3, 4, 5, 6, 7, 0] rfl ?_
    refine r_iconst (v := -1) (pc := 301) X dL_isHour_301 (by decide) ?_
    refine r_istore (pc := 302) (lv' := [(0, .ref (B + 0)), (1, .ref (B + 40)), (3, .ref (B + 42)), (4, .ref (B + 39)), (5, .int l5), (7, .int l7), (8, .int l8), (12, .int 0), (13, .int (-1))]) X dL_isHour_302 (by decide) [1, 2, 3, 4, 5, 6, 7, 8, 0] rfl ?_
    refine r_iload (pc := 304) X dL_isHour_304 4 rfl ?_
    refine r_istore (pc := 306) (lv' := [(0, .ref (B + 0)), (1, .ref (B + 40)), (3, .ref (B + 42)), (4, .ref (B + 39)), (7, .int l7), (8, .int l8), (12, .int 0), (13, .int (-1)), (14, .int l5)]) X dL_isHour_306 (by decide) [1, 2, 3, 4, 6, 7, 8, 9, 0] rfl ?_
    exact c_f_L_isHour_b308 X M Y hr _ hc hf
set_option maxHeartbeats 1000000 in
theorem c_f_L_isHour_b250 {F Z : Nat} {c0 : Nat} {Γ : Ga} {D : DD} {B : Nat} {r : Int32} {s' : St} (X : Cx Γ RL cL_isHour 18 D B (RMg Z c0 804 16500)) (M : RLe (RMg Z c0 804 16500) Z 0 0 c0 804 16500) (Y : Xy Γ B) (hr : (Gme Γ).sig.returnType = (some .boolean)) {s : St} {l5 : Int32} {l6 : Int32} {l7 : Int32} {l8 : Int32} {l11 : Int32} {l12 : Int32} (hc : Hc c0 Z s) (hf : f_L_isHour_b250 F Z s l5 l6 l7 l8 l11 l12 = some (r, s')) : V Γ D B true 18 (QX Γ D B true s' (.inl (some (.int r))) (64 * (ct s' - c0)) (768 * (ct s' - c0))) (kg 0 c0 s) (ng 0 c0 s) s 250 [(0, .ref (B + 0)), (1, .ref (B + 40)), (3, .ref (B + 42)), (4, .ref (B + 39)), (5, .int l5), (6, .int l6), (7, .int l7), (8, .int l8), (11, .int l11), (12, .int l12)] [] := by
  unfold f_L_isHour_b250 at hf
  refine r_iload (pc := 250) X dL_isHour_250 9 rfl ?_
  refine b_if_eq (tgt := 298) (pc := 252) X dL_isHour_252 (by decide) hf (fun hf => ?_) (fun hf => ?_)
  · refine r_iconst (v := 0) (pc := 298) X dL_isHour_298 (by decide) ?_
    refine r_istore (pc := 299) (lv' := [(0, .ref (B + 0)), (1, .ref (B + 40)), (3, .ref (B + 42)), (4, .ref (B + 39)), (5, .int l5), (7, .int l7), (8, .int l8), (12, .int 0)]) X dL_isHour_299 (by decide) [1, 2, 3, 4, 5, 7, 8, 0] rfl ?_
    refine r_iconst (v := -1) (pc := 301) X dL_isHour_301 (by decide) ?_
    refine r_istore (pc := 302) (lv' := [(0, .ref (B + 0)), (1, .ref (B + 40)), (3, .ref (B + 42)), (4, .ref (B + 39)), (5, .int l5), (7, .int l7), (8, .int l8), (12, .int 0), (13, .int (-1))]) X dL_isHour_302 (by decide) [1, 2, 3, 4, 5, 6, 7, 8, 0] rfl ?_
    refine r_iload (pc := 304) X dL_isHour_304 4 rfl ?_
    refine r_istore (pc := 306) (lv' := [(0, .ref (B + 0)), (1, .ref (B + 40)), (3, .ref (B + 42)), (4, .ref (B + 39)), (7, .int l7), (8, .int l8), (12, .int 0), (13, .int (-1)), (14, .int l5)]) X dL_isHour_306 (by decide) [1, 2, 3, 4, 6, 7, 8, 9, 0] rfl ?_
    exact c_f_L_isHour_b308 X M Y hr _ hc hf
  · refine r_aload_n (x := some 0) (pc := 255) X dL_isHour_255 0 rfl ?_
    refine bnd hf (fun x32 h32 hf => ?_)
    refine y_callVi (As := []) (st := []) (pc := 256) X M hc (c_f_P_waiting h32) rfl w_1009 w_1010 w_1011 w_36 w_1012 hdV_X10_waiting (Rc.s rfl ce_0) (by decide) (Nat.le_of_ble_eq_true rfl) dL_isHour_256 rfl hf (fun s33 hc hf => ?_)
    refine r_iload (pc := 259) X dL_isHour_259 7 rfl ?_
    refine b_if_lt (tgt := 276) (pc := 261) X dL_isHour_261 (by decide) hf (fun hf => ?_) (fun hf => ?_)
    · refine r_iload (pc := 276) X dL_isHour_276 7 rfl ?_
      refine b_if_ge (tgt := 289) (pc := 278) X dL_isHour_278 (by decide) hf (fun hf => ?_) (fun hf => ?_)
      · refine r_iload (pc := 289) X dL_isHour_289 5 rfl ?_
        refine r_forget (lv' := [(0, .ref (B + 0)), (1, .ref (B + 40)), (3, .ref (B + 42)), (4, .ref (B + 39)), (5, .int l5), (7, .int l7), (8, .int l8)]) [0, 1, 2, 3, 4, 6, 7] rfl ?_
        exact c_f_L_isHour_b291 X M Y hr hc hf
      · refine r_iload (pc := 281) X dL_isHour_281 5 rfl ?_
        refine r_iload (pc := 283) X dL_isHour_283 8 rfl ?_
        refine r_iadd (pc := 285) X dL_isHour_285 ?_
        refine r_goto (tgt := 291) (pc := 286) X dL_isHour_286 (by decide) ?_
        refine r_forget (lv' := [(0, .ref (B + 0)), (1, .ref (B + 40)), (3, .ref (B + 42)), (4, .ref (B + 39)), (5, .int l5), (7, .int l7), (8, .int l8)]) [0, 1, 2, 3, 4, 6, 7] rfl ?_
        exact c_f_L_isHour_b291 X M Y hr hc hf
    · refine r_iload (pc := 264) X dL_isHour_264 6 rfl ?_
      refine r_bipush (v := 8) (pc := 266) X dL_isHour_266 (by decide) ?_
      refine r_irem (pc := 268) X dL_isHour_268 (by decide) ?_
      refine b_if_ne (tgt := 276) (pc := 269) X dL_isHour_269 (by decide) hf (fun hf => ?_) (fun hf => ?_)
      · refine r_iconst (v := 0) (pc := 272) X dL_isHour_272 (by decide) ?_
        refine r_goto (tgt := 291) (pc := 273) X dL_isHour_273 (by decide) ?_
        refine r_forget (lv' := [(0, .ref (B + 0)), (1, .ref (B + 40)), (3, .ref (B + 42)), (4, .ref (B + 39)), (5, .int l5), (7, .int l7), (8, .int l8)]) [0, 1, 2, 3, 4, 6, 7] rfl ?_
        exact c_f_L_isHour_b291 X M Y hr hc hf
      · refine r_iload (pc := 276) X dL_isHour_276 7 rfl ?_
        refine b_if_ge (tgt := 289) (pc := 278) X dL_isHour_278 (by decide) hf (fun hf => ?_) (fun hf => ?_)
        · refine r_iload (pc := 289) X dL_isHour_289 5 rfl ?_
          refine r_forget (lv' := [(0, .ref (B + 0)), (1, .ref (B + 40)), (3, .ref (B + 42)), (4, .ref (B + 39)), (5, .int l5), (7, .int l7), (8, .int l8)]) [0, 1, 2, 3, 4, 6, 7] rfl ?_
          exact c_f_L_isHour_b291 X M Y hr hc hf
        · refine r_iload (pc := 281) X dL_isHour_281 5 rfl ?_
          refine r_iload (pc := 283) X dL_isHour_283 8 rfl ?_
          refine r_iadd (pc := 285) X dL_isHour_285 ?_
          refine r_goto (tgt := 291) (pc := 286) X dL_isHour_286 (by decide) ?_
          refine r_forget (lv' := [(0, .ref (B + 0)), (1, .ref (B + 40)), (3, .ref (B + 42)), (4, .ref (B + 39)), (5, .int l5), (7, .int l7), (8, .int l8)]) [0, 1, 2, 3, 4, 6, 7] rfl ?_
          exact c_f_L_isHour_b291 X M Y hr hc hf
set_option maxHeartbeats 1000000 in
theorem c_f_L_isHour_b171 {F Z : Nat} {c0 : Nat} {Γ : Ga} {D : DD} {B : Nat} {r : Int32} {s' : St} (X : Cx Γ RL cL_isHour 18 D B (RMg Z c0 804 16500)) (M : RLe (RMg Z c0 804 16500) Z 0 0 c0 804 16500) (Y : Xy Γ B) (hr : (Gme Γ).sig.returnType = (some .boolean)) {s : St} {l5 : Int32} {l6 : Int32} {l7 : Int32} {l8 : Int32} {l9 : Int32} {l10 : Int32} {l11 : Int32} {t0 : Int32} (hc : Hc c0 Z s) (hf : f_L_isHour_b171 F Z s l5 l6 l7 l8 l9 l10 l11 t0 = some (r, s')) : V Γ D B true 18 (QX Γ D B true s' (.inl (some (.int r))) (64 * (ct s' - c0)) (768 * (ct s' - c0))) (kg 0 c0 s) (ng 0 c0 s) s 171 [(0, .ref (B + 0)), (1, .ref (B + 40)), (2, .ref (B + 41)), (3, .ref (B + 42)), (4, .ref (B + 39)), (5, .int l5), (6, .int l6), (7, .int l7), (8, .int l8), (9, .int l9), (10, .int l10), (11, .int l11)] [.int t0] := by
  unfold f_L_isHour_b171 at hf
  refine r_istore (pc := 171) (lv' := [(0, .ref (B + 0)), (1, .ref (B + 40)), (2, .ref (B + 41)), (3, .ref (B + 42)), (4, .ref (B + 39)), (5, .int l5), (6, .int l6), (7, .int l7), (8, .int l8), (9, .int l9), (10, .int l10), (11, .int l11), (12, .int t0)]) X dL_isHour_171 (by decide) [1, 2, 3, 4, 5, 6, 7, 8, 9, 10, 11, 12, 0] rfl ?_
  refine r_iload (pc := 173) X dL_isHour_173 12 rfl ?_
  refine b_if_eq (tgt := 250) (pc := 175) X dL_isHour_175 (by decide) hf (fun hf => ?_) (fun hf => ?_)
  · refine r_forget (lv' := [(0, .ref (B + 0)), (1, .ref (B + 40)), (3, .ref (B + 42)), (4, .ref (B + 39)), (5, .int l5), (6, .int l6), (7, .int l7), (8, .int l8), (11, .int l11), (12, .int t0)]) [0, 1, 3, 4, 5, 6, 7, 8, 11, 12] rfl ?_
    exact c_f_L_isHour_b250 X M Y hr hc hf
  · refine r_iload (pc := 178) X dL_isHour_178 9 rfl ?_
    refine b_if_lt (tgt := 250) (pc := 180) X dL_isHour_180 (by decide) hf (fun hf => ?_) (fun hf => ?_)
    · refine r_forget (lv' := [(0, .ref (B + 0)), (1, .ref (B + 40)), (3, .ref (B + 42)), (4, .ref (B + 39)), (5, .int l5), (6, .int l6), (7, .int l7), (8, .int l8), (11, .int l11), (12, .int t0)]) [0, 1, 3, 4, 5, 6, 7, 8, 11, 12] rfl ?_
      exact c_f_L_isHour_b250 X M Y hr hc hf
    · refine r_iload (pc := 183) X dL_isHour_183 8 rfl ?_
      refine r_iload (pc := 185) X dL_isHour_185 9 rfl ?_
      refine b_icmp_eq (tgt := 250) (pc := 187) X dL_isHour_187 (by decide) hf (fun hf => ?_) (fun hf => ?_)
      · refine r_forget (lv' := [(0, .ref (B + 0)), (1, .ref (B + 40)), (3, .ref (B + 42)), (4, .ref (B + 39)), (5, .int l5), (6, .int l6), (7, .int l7), (8, .int l8), (11, .int l11), (12, .int t0)]) [0, 1, 3, 4, 5, 6, 7, 8, 11, 12] rfl ?_
        exact c_f_L_isHour_b250 X M Y hr hc hf
      · refine r_aload_n (x := some 41) (pc := 190) X dL_isHour_190 2 rfl ?_
        refine r_iload (pc := 191) X dL_isHour_191 7 rfl ?_
        refine r_bipush (v := 8) (pc := 193) X dL_isHour_193 (by decide) ?_
        refine r_idiv (pc := 195) X dL_isHour_195 (by decide) ?_
        refine b_iald (pc := 196) X ce_41 dL_isHour_196 hf (fun j34 hf => ?_)
        refine r_iload (pc := 197) X dL_isHour_197 9 rfl ?_
        refine r_ishr (pc := 199) X dL_isHour_199 ?_
        refine r_iconst (v := 1) (pc := 200) X dL_isHour_200 (by decide) ?_
        refine r_iand (pc := 201) X dL_isHour_201 ?_
        refine b_if_ne (tgt := 250) (pc := 202) X dL_isHour_202 (by decide) hf (fun hf => ?_) (fun hf => ?_)
        · refine r_iload (pc := 205) X dL_isHour_205 10 rfl ?_
          refine b_if_le (tgt := 239) (pc := 207) X dL_isHour_207 (by decide) hf (fun hf => ?_) (fun hf => ?_)
          · refine r_iconst (v := 0) (pc := 239) X dL_isHour_239 (by decide) ?_
            refine r_istore (pc := 240) (lv' := [(0, .ref (B + 0)), (1, .ref (B + 40)), (3, .ref (B + 42)), (4, .ref (B + 39)), (5, .int l5), (6, .int l6), (7, .int l7), (8, .int l8), (11, .int l11), (12, .int 0)]) X dL_isHour_240 (by decide) [1, 2, 4, 5, 6, 7, 8, 9, 12, 0] rfl ?_
            refine r_aload (x := some 39) (pc := 242) X dL_isHour_242 3 rfl ?_
            refine r_iconst (v := 3) (pc := 244) X dL_isHour_244 (by decide) ?_
            refine r_dup2 (pc := 245) X dL_isHour_245 rfl rfl ?_
            refine b_iald (pc := 246) X ce_39 dL_isHour_246 hf (fun j35 hf => ?_)
            refine r_iconst (v := 1) (pc := 247) X dL_isHour_247 (by decide) ?_
            refine r_isub (pc := 248) X dL_isHour_248 ?_
            refine y_iast (pc := 249) X ce_39 (fun _ => ca_39 _ _) dL_isHour_249 hf (fun j36 s37 e9 hf => ?_)
            have hc := hc.eq e9
            exact c_f_L_isHour_b250 X M Y hr hc hf
          · refine r_iload (pc := 210) X dL_isHour_210 7 rfl ?_
            refine r_bipush (v := 8) (pc := 212) X dL_isHour_212 (by decide) ?_
            refine r_idiv (pc := 214) X dL_isHour_214 (by decide) ?_
            refine r_iconst (v := 3) (pc := 215) X dL_isHour_215 (by decide) ?_
            refine r_irem (pc := 216) X dL_isHour_216 (by decide) ?_
            refine b_if_ne (tgt := 239) (pc := 217) X dL_isHour_217 (by decide) hf (fun hf => ?_) (fun hf => ?_)
            · refine r_aload_n (x := some 0) (pc := 220) X dL_isHour_220 0 rfl ?_
              refine r_iload (pc := 221) X dL_isHour_221 8 rfl ?_
              refine r_iload (pc := 223) X dL_isHour_223 9 rfl ?_
              refine bnd hf (fun x38 h38 hf => ?_)
              refine bnd hf (fun v39 h38v hf => ?_)
              refine y_callXVi (As := [.int l8, .int l9]) (st := []) (pc := 225) X M Y hc (qc_run (ou := ouI) hc.2 (fun z x h => c_f_P_owes h) h38) rfl w_818 w_819 w_820 w_36 w_821 hdV_X10_owes (Rc.s rfl ce_0) (by decide) (Nat.le_of_ble_eq_true rfl) dL_isHour_225 rfl h38v (fun hc => ?_)
              refine r_iload (pc := 228) X dL_isHour_228 10 rfl ?_
              refine r_iconst (v := 1) (pc := 230) X dL_isHour_230 (by decide) ?_
              refine r_isub (pc := 231) X dL_isHour_231 ?_
              refine b_icmp_ne (tgt := 239) (pc := 232) X dL_isHour_232 (by decide) hf (fun hf => ?_) (fun hf => ?_)
              · refine r_iconst (v := 1) (pc := 235) X dL_isHour_235 (by decide) ?_
                refine r_goto (tgt := 240) (pc := 236) X dL_isHour_236 (by decide) ?_
                refine r_istore (pc := 240) (lv' := [(0, .ref (B + 0)), (1, .ref (B + 40)), (3, .ref (B + 42)), (4, .ref (B + 39)), (5, .int l5), (6, .int l6), (7, .int l7), (8, .int l8), (11, .int l11), (12, .int 1)]) X dL_isHour_240 (by decide) [1, 2, 4, 5, 6, 7, 8, 9, 12, 0] rfl ?_
                refine r_aload (x := some 39) (pc := 242) X dL_isHour_242 3 rfl ?_
                refine r_iconst (v := 3) (pc := 244) X dL_isHour_244 (by decide) ?_
                refine r_dup2 (pc := 245) X dL_isHour_245 rfl rfl ?_
                refine b_iald (pc := 246) X ce_39 dL_isHour_246 hf (fun j40 hf => ?_)
                refine r_iconst (v := 1) (pc := 247) X dL_isHour_247 (by decide) ?_
                refine r_isub (pc := 248) X dL_isHour_248 ?_
                refine y_iast (pc := 249) X ce_39 (fun _ => ca_39 _ _) dL_isHour_249 hf (fun j41 s42 e9 hf => ?_)
                have hc := hc.eq e9
                exact c_f_L_isHour_b250 X M Y hr hc hf
              · refine r_iconst (v := 0) (pc := 239) X dL_isHour_239 (by decide) ?_
                refine r_istore (pc := 240) (lv' := [(0, .ref (B + 0)), (1, .ref (B + 40)), (3, .ref (B + 42)), (4, .ref (B + 39)), (5, .int l5), (6, .int l6), (7, .int l7), (8, .int l8), (11, .int l11), (12, .int 0)]) X dL_isHour_240 (by decide) [1, 2, 4, 5, 6, 7, 8, 9, 12, 0] rfl ?_
                refine r_aload (x := some 39) (pc := 242) X dL_isHour_242 3 rfl ?_
                refine r_iconst (v := 3) (pc := 244) X dL_isHour_244 (by decide) ?_
                refine r_dup2 (pc := 245) X dL_isHour_245 rfl rfl ?_
                refine b_iald (pc := 246) X ce_39 dL_isHour_246 hf (fun j43 hf => ?_)
                refine r_iconst (v := 1) (pc := 247) X dL_isHour_247 (by decide) ?_
                refine r_isub (pc := 248) X dL_isHour_248 ?_
                refine y_iast (pc := 249) X ce_39 (fun _ => ca_39 _ _) dL_isHour_249 hf (fun j44 s45 e9 hf => ?_)
                have hc := hc.eq e9
                exact c_f_L_isHour_b250 X M Y hr hc hf
            · refine r_iconst (v := 0) (pc := 239) X dL_isHour_239 (by decide) ?_
              refine r_istore (pc := 240) (lv' := [(0, .ref (B + 0)), (1, .ref (B + 40)), (3, .ref (B + 42)), (4, .ref (B + 39)), (5, .int l5), (6, .int l6), (7, .int l7), (8, .int l8), (11, .int l11), (12, .int 0)]) X dL_isHour_240 (by decide) [1, 2, 4, 5, 6, 7, 8, 9, 12, 0] rfl ?_
              refine r_aload (x := some 39) (pc := 242) X dL_isHour_242 3 rfl ?_
              refine r_iconst (v := 3) (pc := 244) X dL_isHour_244 (by decide) ?_
              refine r_dup2 (pc := 245) X dL_isHour_245 rfl rfl ?_
              refine b_iald (pc := 246) X ce_39 dL_isHour_246 hf (fun j46 hf => ?_)
              refine r_iconst (v := 1) (pc := 247) X dL_isHour_247 (by decide) ?_
              refine r_isub (pc := 248) X dL_isHour_248 ?_
              refine y_iast (pc := 249) X ce_39 (fun _ => ca_39 _ _) dL_isHour_249 hf (fun j47 s48 e9 hf => ?_)
              have hc := hc.eq e9
              exact c_f_L_isHour_b250 X M Y hr hc hf
        · refine r_forget (lv' := [(0, .ref (B + 0)), (1, .ref (B + 40)), (3, .ref (B + 42)), (4, .ref (B + 39)), (5, .int l5), (6, .int l6), (7, .int l7), (8, .int l8), (11, .int l11), (12, .int t0)]) [0, 1, 3, 4, 5, 6, 7, 8, 11, 12] rfl ?_
          exact c_f_L_isHour_b250 X M Y hr hc hf
set_option maxHeartbeats 1000000 in
theorem c_f_L_isHour_b113 {F Z : Nat} {c0 : Nat} {Γ : Ga} {D : DD} {B : Nat} {r : Int32} {s' : St} (X : Cx Γ RL cL_isHour 18 D B (RMg Z c0 804 16500)) (M : RLe (RMg Z c0 804 16500) Z 0 0 c0 804 16500) (Y : Xy Γ B) (hr : (Gme Γ).sig.returnType = (some .boolean)) {s : St} {l5 : Int32} {l6 : Int32} {l7 : Int32} {l8 : Int32} {l9 : Int32} {t0 : Int32} (hc : Hc c0 Z s) (hf : f_L_isHour_b113 F Z s l5 l6 l7 l8 l9 t0 = some (r, s')) : V Γ D B true 18 (QX Γ D B true s' (.inl (some (.int r))) (64 * (ct s' - c0)) (768 * (ct s' - c0))) (kg 0 c0 s) (ng 0 c0 s) s 113 [(0, .ref (B + 0)), (1, .ref (B + 40)), (2, .ref (B + 41)), (3, .ref (B + 42)), (4, .ref (B + 39)), (5, .int l5), (6, .int l6), (7, .int l7), (8, .int l8), (9, .int l9)] [.int t0] := by
  unfold f_L_isHour_b113 at hf
  refine r_istore (pc := 113) (lv' := [(0, .ref (B + 0)), (1, .ref (B + 40)), (2, .ref (B + 41)), (3, .ref (B + 42)), (4, .ref (B + 39)), (5, .int l5), (6, .int l6), (7, .int l7), (8, .int l8), (9, .int l9), (10, .int t0)]) X dL_isHour_113 (by decide) [1, 2, 3, 4, 5, 6, 7, 8, 9, 10, 0] rfl ?_
  refine r_aload_n (x := some 0) (pc := 115) X dL_isHour_115 0 rfl ?_
  refine r_iconst (v := 1) (pc := 116) X dL_isHour_116 (by decide) ?_
  refine r_iconst (v := 1) (pc := 117) X dL_isHour_117 (by decide) ?_
  refine r_iconst (v := 0) (pc := 118) X dL_isHour_118 (by decide) ?_
  refine r_iconst (v := 0) (pc := 119) X dL_isHour_119 (by decide) ?_
  refine r_iconst (v := 0) (pc := 120) X dL_isHour_120 (by decide) ?_
  refine bnd hf (fun x10 h10 hf => ?_)
  refine ifo hf (fun hz hf => ?_)
  refine y_callWSi (As := [.ref (B + 0), .int 1, .int 1, .int 0, .int 0, .int 0]) (st := []) (pc := 121) X M Y hc (c_f_L_act h10 hc.2) rfl w_437 w_438 w_35 w_439 hdS_L_act (by decide) hz (Nat.le_of_ble_eq_true rfl) dL_isHour_121 rfl (fun hc => ?_)
  refine r_istore (pc := 124) (lv' := [(0, .ref (B + 0)), (1, .ref (B + 40)), (2, .ref (B + 41)), (3, .ref (B + 42)), (4, .ref (B + 39)), (5, .int l5), (6, .int l6), (7, .int l7), (8, .int l8), (9, .int l9), (10, .int t0), (11, .int x10.1)]) X dL_isHour_124 (by decide) [1, 2, 3, 4, 5, 6, 7, 8, 9, 10, 11, 0] rfl ?_
  refine r_iload (pc := 126) X dL_isHour_126 11 rfl ?_
  refine b_if_lt (tgt := 170) (pc := 128) X dL_isHour_128 (by decide) hf (fun hf => ?_) (fun hf => ?_)
  · refine r_iconst (v := 0) (pc := 170) X dL_isHour_170 (by decide) ?_
    exact c_f_L_isHour_b171 X M Y hr hc hf
  · refine r_aload_n (x := some 0) (pc := 131) X dL_isHour_131 0 rfl ?_
    refine bnd hf (fun x49 h49 hf => ?_)
    refine y_callVi (As := []) (st := []) (pc := 132) X M hc (c_f_P_now h49) rfl w_317 w_318 w_319 w_36 w_320 hdV_X10_now (Rc.s rfl ce_0) (by decide) (Nat.le_of_ble_eq_true rfl) dL_isHour_132 rfl hf (fun s50 hc hf => ?_)
    refine r_iload (pc := 135) X dL_isHour_135 7 rfl ?_
    refine b_icmp_ne (tgt := 170) (pc := 137) X dL_isHour_137 (by decide) hf (fun hf => ?_) (fun hf => ?_)
    · refine r_aload_n (x := some 0) (pc := 140) X dL_isHour_140 0 rfl ?_
      refine bnd hf (fun x51 h51 hf => ?_)
      refine y_callVi (As := []) (st := []) (pc := 141) X M hc (c_f_P_alarms h51) rfl w_428 w_429 w_430 w_36 w_431 hdV_X10_alarms (Rc.s rfl ce_0) (by decide) (Nat.le_of_ble_eq_true rfl) dL_isHour_141 rfl hf (fun s52 hc hf => ?_)
      refine r_iload (pc := 144) X dL_isHour_144 5 rfl ?_
      refine r_iload (pc := 146) X dL_isHour_146 11 rfl ?_
      refine r_iadd (pc := 148) X dL_isHour_148 ?_
      refine b_icmp_ne (tgt := 170) (pc := 149) X dL_isHour_149 (by decide) hf (fun hf => ?_) (fun hf => ?_)
      · refine r_aload_n (x := some 0) (pc := 152) X dL_isHour_152 0 rfl ?_
        refine r_iload (pc := 153) X dL_isHour_153 7 rfl ?_
        refine r_bipush (v := 8) (pc := 155) X dL_isHour_155 (by decide) ?_
        refine r_idiv (pc := 157) X dL_isHour_157 (by decide) ?_
        refine bnd hf (fun x53 h53 hf => ?_)
        refine bnd hf (fun v54 h53v hf => ?_)
        refine y_callXVi (As := [.int (l7 / 8)]) (st := []) (pc := 158) X M Y hc (qc_run (ou := ouI) hc.2 (fun z x h => c_f_P_holder h) h53) rfl w_806 w_807 w_808 w_36 w_809 hdV_X10_holder (Rc.s rfl ce_0) (by decide) (Nat.le_of_ble_eq_true rfl) dL_isHour_158 rfl h53v (fun hc => ?_)
        refine r_iload (pc := 161) X dL_isHour_161 8 rfl ?_
        refine b_icmp_ne (tgt := 170) (pc := 163) X dL_isHour_163 (by decide) hf (fun hf => ?_) (fun hf => ?_)
        · refine r_iconst (v := 1) (pc := 166) X dL_isHour_166 (by decide) ?_
          refine r_goto (tgt := 171) (pc := 167) X dL_isHour_167 (by decide) ?_
          exact c_f_L_isHour_b171 X M Y hr hc hf
        · refine r_iconst (v := 0) (pc := 170) X dL_isHour_170 (by decide) ?_
          exact c_f_L_isHour_b171 X M Y hr hc hf
      · refine r_iconst (v := 0) (pc := 170) X dL_isHour_170 (by decide) ?_
        exact c_f_L_isHour_b171 X M Y hr hc hf
    · refine r_iconst (v := 0) (pc := 170) X dL_isHour_170 (by decide) ?_
      exact c_f_L_isHour_b171 X M Y hr hc hf
set_option maxHeartbeats 1000000 in
theorem c_f_L_isHour_b89 {F Z : Nat} {c0 : Nat} {Γ : Ga} {D : DD} {B : Nat} {r : Int32} {s' : St} (X : Cx Γ RL cL_isHour 18 D B (RMg Z c0 804 16500)) (M : RLe (RMg Z c0 804 16500) Z 0 0 c0 804 16500) (Y : Xy Γ B) (hr : (Gme Γ).sig.returnType = (some .boolean)) {s : St} {l5 : Int32} {l6 : Int32} {l7 : Int32} {l8 : Int32} {t0 : Int32} (hc : Hc c0 Z s) (hf : f_L_isHour_b89 F Z s l5 l6 l7 l8 t0 = some (r, s')) : V Γ D B true 18 (QX Γ D B true s' (.inl (some (.int r))) (64 * (ct s' - c0)) (768 * (ct s' - c0))) (kg 0 c0 s) (ng 0 c0 s) s 89 [(0, .ref (B + 0)), (1, .ref (B + 40)), (2, .ref (B + 41)), (3, .ref (B + 42)), (4, .ref (B + 39)), (5, .int l5), (6, .int l6), (7, .int l7), (8, .int l8)] [.int t0] := by
  unfold f_L_isHour_b89 at hf
  refine r_istore (pc := 89) (lv' := [(0, .ref (B + 0)), (1, .ref (B + 40)), (2, .ref (B + 41)), (3, .ref (B + 42)), (4, .ref (B + 39)), (5, .int l5), (6, .int l6), (7, .int l7), (8, .int l8), (9, .int t0)]) X dL_isHour_89 (by decide) [1, 2, 3, 4, 5, 6, 7, 8, 9, 0] rfl ?_
  refine r_iload (pc := 91) X dL_isHour_91 8 rfl ?_
  refine b_if_lt (tgt := 101) (pc := 93) X dL_isHour_93 (by decide) hf (fun hf => ?_) (fun hf => ?_)
  · refine r_iconst (v := 0) (pc := 101) X dL_isHour_101 (by decide) ?_
    refine r_goto (tgt := 113) (pc := 102) X dL_isHour_102 (by decide) ?_
    exact c_f_L_isHour_b113 X M Y hr hc hf
  · refine r_iload (pc := 96) X dL_isHour_96 9 rfl ?_
    refine b_if_ge (tgt := 105) (pc := 98) X dL_isHour_98 (by decide) hf (fun hf => ?_) (fun hf => ?_)
    · refine r_aload_n (x := some 0) (pc := 105) X dL_isHour_105 0 rfl ?_
      refine r_iload (pc := 106) X dL_isHour_106 8 rfl ?_
      refine r_iload (pc := 108) X dL_isHour_108 9 rfl ?_
      refine bnd hf (fun x55 h55 hf => ?_)
      refine bnd hf (fun v56 h55v hf => ?_)
      refine y_callXVi (As := [.int l8, .int t0]) (st := []) (pc := 110) X M Y hc (qc_run (ou := ouI) hc.2 (fun z x h => c_f_P_owes h) h55) rfl w_818 w_819 w_820 w_36 w_821 hdV_X10_owes (Rc.s rfl ce_0) (by decide) (Nat.le_of_ble_eq_true rfl) dL_isHour_110 rfl h55v (fun hc => ?_)
      exact c_f_L_isHour_b113 X M Y hr hc hf
    · refine r_iconst (v := 0) (pc := 101) X dL_isHour_101 (by decide) ?_
      refine r_goto (tgt := 113) (pc := 102) X dL_isHour_102 (by decide) ?_
      exact c_f_L_isHour_b113 X M Y hr hc hf
set_option maxHeartbeats 1000000 in
theorem c_f_L_isHour_b55 {F Z : Nat} {c0 : Nat} {Γ : Ga} {D : DD} {B : Nat} {r : Int32} {s' : St} (X : Cx Γ RL cL_isHour 18 D B (RMg Z c0 804 16500)) (M : RLe (RMg Z c0 804 16500) Z 0 0 c0 804 16500) (Y : Xy Γ B) (hr : (Gme Γ).sig.returnType = (some .boolean)) {s : St} {l5 : Int32} {l6 : Int32} {l7 : Int32} {t0 : Int32} (hc : Hc c0 Z s) (hf : f_L_isHour_b55 F Z s l5 l6 l7 t0 = some (r, s')) : V Γ D B true 18 (QX Γ D B true s' (.inl (some (.int r))) (64 * (ct s' - c0)) (768 * (ct s' - c0))) (kg 0 c0 s) (ng 0 c0 s) s 55 [(0, .ref (B + 0)), (1, .ref (B + 40)), (2, .ref (B + 41)), (3, .ref (B + 42)), (4, .ref (B + 39)), (5, .int l5), (6, .int l6), (7, .int l7)] [.int t0] := by
  unfold f_L_isHour_b55 at hf
  refine r_istore (pc := 55) (lv' := [(0, .ref (B + 0)), (1, .ref (B + 40)), (2, .ref (B + 41)), (3, .ref (B + 42)), (4, .ref (B + 39)), (5, .int l5), (6, .int l6), (7, .int l7), (8, .int t0)]) X dL_isHour_55 (by decide) [1, 2, 3, 4, 5, 6, 7, 8, 0] rfl ?_
  refine r_aload (x := some 39) (pc := 57) X dL_isHour_57 4 rfl ?_
  refine r_iconst (v := 0) (pc := 59) X dL_isHour_59 (by decide) ?_
  refine b_iald (pc := 60) X ce_39 dL_isHour_60 hf (fun j9 hf => ?_)
  refine b_if_ne (tgt := 68) (pc := 61) X dL_isHour_61 (by decide) hf (fun hf => ?_) (fun hf => ?_)
  · refine r_iconst (v := -1) (pc := 64) X dL_isHour_64 (by decide) ?_
    refine r_goto (tgt := 89) (pc := 65) X dL_isHour_65 (by decide) ?_
    exact c_f_L_isHour_b89 X M Y hr hc hf
  · refine r_iload (pc := 68) X dL_isHour_68 7 rfl ?_
    refine r_bipush (v := 8) (pc := 70) X dL_isHour_70 (by decide) ?_
    refine r_irem (pc := 72) X dL_isHour_72 (by decide) ?_
    refine b_if_ne (tgt := 88) (pc := 73) X dL_isHour_73 (by decide) hf (fun hf => ?_) (fun hf => ?_)
    · refine r_aload_n (x := some 0) (pc := 76) X dL_isHour_76 0 rfl ?_
      refine r_iload (pc := 77) X dL_isHour_77 7 rfl ?_
      refine r_bipush (v := 8) (pc := 79) X dL_isHour_79 (by decide) ?_
      refine r_idiv (pc := 81) X dL_isHour_81 (by decide) ?_
      refine bnd hf (fun x57 h57 hf => ?_)
      refine bnd hf (fun v58 h57v hf => ?_)
      refine y_callXVi (As := [.int (l7 / 8)]) (st := []) (pc := 82) X M Y hc (qc_run (ou := ouI) hc.2 (fun z x h => c_f_P_planned h) h57) rfl w_801 w_802 w_803 w_36 w_804 hdV_X10_planned (Rc.s rfl ce_0) (by decide) (Nat.le_of_ble_eq_true rfl) dL_isHour_82 rfl h57v (fun hc => ?_)
      refine r_goto (tgt := 89) (pc := 85) X dL_isHour_85 (by decide) ?_
      exact c_f_L_isHour_b89 X M Y hr hc hf
    · refine r_iconst (v := -1) (pc := 88) X dL_isHour_88 (by decide) ?_
      exact c_f_L_isHour_b89 X M Y hr hc hf
set_option maxHeartbeats 1000000 in
theorem c_f_L_isHour {F Z : Nat} {s : St}  {r : Int32} {s' : St} (hf : f_L_isHour F Z s  = some (r, s')) (hz : ct s ≤ Z) : CX true yL_isHour (Cond.code yL_isHour cL_isHour 18 (some .boolean)) 804 16500 (64 * (Z - ct s)) (768 * (Z - ct s)) (fun B => [.ref (B + 0), .ref (B + 40), .ref (B + 41), .ref (B + 42), .ref (B + 39)]) s (fun B => .inl (some (.int r))) s' (64 * (ct s' - ct s)) (768 * (ct s' - ct s)) := by
  refine CX.ofL (fun B => [(0, .ref (B + 0)), (1, .ref (B + 40)), (2, .ref (B + 41)), (3, .ref (B + 42)), (4, .ref (B + 39))]) (by decide +kernel) (fun _ => rfl) (fun _ => (by simp [lg_sl, rfB_cat, catI, catL, catR])) (fun Γ D B X Y hr => ?_)
  have X : Cx Γ RL cL_isHour 18 D B (RMg Z (ct s) 804 16500) := X
  have M : RLe (RMg Z (ct s) 804 16500) Z 0 0 (ct s) 804 16500 := RLe.rf
  have hc : Hc (ct s) Z s := ⟨Nat.le_refl _, hz⟩
  unfold f_L_isHour at hf
  refine r_aload_n (x := some 0) (pc := 0) X dL_isHour_0 0 rfl ?_
  refine bnd hf (fun x1 h1 hf => ?_)
  refine y_callVi (As := []) (st := []) (pc := 1) X M hc (c_f_P_alarms h1) rfl w_428 w_429 w_430 w_36 w_431 hdV_X10_alarms (Rc.s rfl ce_0) (by decide) (Nat.le_of_ble_eq_true rfl) dL_isHour_1 rfl hf (fun s2 hc hf => ?_)
  refine r_istore (pc := 4) (lv' := [(0, .ref (B + 0)), (1, .ref (B + 40)), (2, .ref (B + 41)), (3, .ref (B + 42)), (4, .ref (B + 39)), (5, .int x1.1)]) X dL_isHour_4 (by decide) [1, 2, 3, 4, 5, 0] rfl ?_
  refine r_aload_n (x := some 0) (pc := 6) X dL_isHour_6 0 rfl ?_
  refine bnd hf (fun x3 h3 hf => ?_)
  refine y_callVi (As := []) (st := []) (pc := 7) X M hc (c_f_P_waiting h3) rfl w_1009 w_1010 w_1011 w_36 w_1012 hdV_X10_waiting (Rc.s rfl ce_0) (by decide) (Nat.le_of_ble_eq_true rfl) dL_isHour_7 rfl hf (fun s4 hc hf => ?_)
  refine r_istore (pc := 10) (lv' := [(0, .ref (B + 0)), (1, .ref (B + 40)), (2, .ref (B + 41)), (3, .ref (B + 42)), (4, .ref (B + 39)), (5, .int x1.1), (6, .int x3.1)]) X dL_isHour_10 (by decide) [1, 2, 3, 4, 5, 6, 0] rfl ?_
  refine r_aload_n (x := some 0) (pc := 12) X dL_isHour_12 0 rfl ?_
  refine bnd hf (fun x5 h5 hf => ?_)
  refine y_callVi (As := []) (st := []) (pc := 13) X M hc (c_f_P_now h5) rfl w_317 w_318 w_319 w_36 w_320 hdV_X10_now (Rc.s rfl ce_0) (by decide) (Nat.le_of_ble_eq_true rfl) dL_isHour_13 rfl hf (fun s6 hc hf => ?_)
  refine r_iconst (v := 1) (pc := 16) X dL_isHour_16 (by decide) ?_
  refine r_iadd (pc := 17) X dL_isHour_17 ?_
  refine r_istore (pc := 18) (lv' := [(0, .ref (B + 0)), (1, .ref (B + 40)), (2, .ref (B + 41)), (3, .ref (B + 42)), (4, .ref (B + 39)), (5, .int x1.1), (6, .int x3.1), (7, .int (x5.1 + 1))]) X dL_isHour_18 (by decide) [1, 2, 3, 4, 5, 6, 7, 0] rfl ?_
  refine r_iload (pc := 20) X dL_isHour_20 7 rfl ?_
  refine r_bipush (v := 8) (pc := 22) X dL_isHour_22 (by decide) ?_
  refine r_irem (pc := 24) X dL_isHour_24 (by decide) ?_
  refine b_if_ne (tgt := 35) (pc := 25) X dL_isHour_25 (by decide) hf (fun hf => ?_) (fun hf => ?_)
  · refine r_aload_n (x := some 0) (pc := 28) X dL_isHour_28 0 rfl ?_
    refine bnd hf (fun x7 h7 hf => ?_)
    refine y_callVi (As := []) (st := []) (pc := 29) X M hc (c_f_P_next h7) rfl w_321 w_322 w_323 w_36 w_324 hdV_X10_next (Rc.s rfl ce_0) (by decide) (Nat.le_of_ble_eq_true rfl) dL_isHour_29 rfl hf (fun s8 hc hf => ?_)
    refine r_goto (tgt := 55) (pc := 32) X dL_isHour_32 (by decide) ?_
    exact c_f_L_isHour_b55 X M Y hr hc hf
  · refine r_iload (pc := 35) X dL_isHour_35 7 rfl ?_
    refine r_bipush (v := 8) (pc := 37) X dL_isHour_37 (by decide) ?_
    refine b_icmp_ge (tgt := 46) (pc := 39) X dL_isHour_39 (by decide) hf (fun hf => ?_) (fun hf => ?_)
    · refine r_aload_n (x := some 0) (pc := 46) X dL_isHour_46 0 rfl ?_
      refine r_iload (pc := 47) X dL_isHour_47 7 rfl ?_
      refine r_bipush (v := 8) (pc := 49) X dL_isHour_49 (by decide) ?_
      refine r_idiv (pc := 51) X dL_isHour_51 (by decide) ?_
      refine bnd hf (fun x59 h59 hf => ?_)
      refine bnd hf (fun v60 h59v hf => ?_)
      refine y_callXVi (As := [.int ((x5.1 + 1) / 8)]) (st := []) (pc := 52) X M Y hc (qc_run (ou := ouI) hc.2 (fun z x h => c_f_P_holder h) h59) rfl w_806 w_807 w_808 w_36 w_809 hdV_X10_holder (Rc.s rfl ce_0) (by decide) (Nat.le_of_ble_eq_true rfl) dL_isHour_52 rfl h59v (fun hc => ?_)
      exact c_f_L_isHour_b55 X M Y hr hc hf
    · refine r_iconst (v := -1) (pc := 42) X dL_isHour_42 (by decide) ?_
      refine r_goto (tgt := 55) (pc := 43) X dL_isHour_43 (by decide) ?_
      exact c_f_L_isHour_b55 X M Y hr hc hf
