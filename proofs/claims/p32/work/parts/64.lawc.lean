/-! f_L_says -/
theorem dL_says_0 : decode cL_says 0 = .ok (.aload_n 0, 1) := by decide +kernel
theorem dL_says_1 : decode cL_says 1 = .ok (.iconst 0, 1) := by decide +kernel
theorem dL_says_2 : decode cL_says 2 = .ok (.iload_n 1, 1) := by decide +kernel
theorem dL_says_3 : decode cL_says 3 = .ok (.iconst 0, 1) := by decide +kernel
theorem dL_says_4 : decode cL_says 4 = .ok (.iconst 0, 1) := by decide +kernel
theorem dL_says_5 : decode cL_says 5 = .ok (.iconst 0, 1) := by decide +kernel
theorem dL_says_6 : decode cL_says 6 = .ok (.invokestatic 133, 3) := by decide +kernel
theorem dL_says_9 : decode cL_says 9 = .ok (.ifCond .le 7, 3) := by decide +kernel
theorem dL_says_12 : decode cL_says 12 = .ok (.iconst 1, 1) := by decide +kernel
theorem dL_says_13 : decode cL_says 13 = .ok (.goto 4, 3) := by decide +kernel
theorem dL_says_16 : decode cL_says 16 = .ok (.iconst 0, 1) := by decide +kernel
theorem dL_says_17 : decode cL_says 17 = .ok (.ireturn, 1) := by decide +kernel
def f_L_says (F Z : Nat) (s : St) (p1 : Int32) : Option (Int32 × St) :=
  (f_L_act F Z s 0 p1 0 0 0).bind fun x1 => (if ct s ≤ ct x1.2 ∧ ct x1.2 ≤ Z then (if x1.1 ≤ 0 then
    (some (0, x1.2))
  else
    (some (1, x1.2))) else none)
set_option maxHeartbeats 1000000 in
theorem c_f_L_says {F Z : Nat} {s : St} {p1 : Int32} {r : Int32} {s' : St} (hf : f_L_says F Z s p1 = some (r, s')) (hz : ct s ≤ Z) : CX true yL_says (Cond.code yL_says cL_says 2 (some .boolean)) 804 16500 (64 * (Z - ct s)) (768 * (Z - ct s)) (fun B => [.ref (B + 0), .int p1]) s (fun B => .inl (some (.int r))) s' (64 * (ct s' - ct s)) (768 * (ct s' - ct s)) := by
  refine CX.ofL (fun B => [(0, .ref (B + 0)), (1, .int p1)]) (by decide +kernel) (fun _ => rfl) (fun _ => (by simp [lg_sl, rfB_cat, catI, catL, catR])) (fun Γ D B X Y hr => ?_)
  have X : Cx Γ RL cL_says 2 D B (RMg Z (ct s) 804 16500) := X
  have M : RLe (RMg Z (ct s) 804 16500) Z 0 0 (ct s) 804 16500 := RLe.rf
  have hc : Hc (ct s) Z s := ⟨Nat.le_refl _, hz⟩
  unfold f_L_says at hf
  refine r_aload_n (x := some 0) (pc := 0) X dL_says_0 0 rfl ?_
  refine r_iconst (v := 0) (pc := 1) X dL_says_1 (by decide) ?_
  refine r_iload_n (pc := 2) X dL_says_2 1 rfl ?_
  refine r_iconst (v := 0) (pc := 3) X dL_says_3 (by decide) ?_
  refine r_iconst (v := 0) (pc := 4) X dL_says_4 (by decide) ?_
  refine r_iconst (v := 0) (pc := 5) X dL_says_5 (by decide) ?_
  refine bnd hf (fun x1 h1 hf => ?_)
  refine ifo hf (fun hz hf => ?_)
  refine y_callWSi (As := [.ref (B + 0), .int 0, .int p1, .int 0, .int 0, .int 0]) (st := []) (pc := 6) X M Y hc (c_f_L_act h1 hc.2) rfl w_437 w_438 w_35 w_439 hdS_L_act (by decide) hz (Nat.le_of_ble_eq_true rfl) dL_says_6 rfl (fun hc => ?_)
  refine b_if_le (tgt := 16) (pc := 9) X dL_says_9 (by decide) hf (fun hf => ?_) (fun hf => ?_)
  · refine r_iconst (v := 0) (pc := 16) X dL_says_16 (by decide) ?_
    exact y_zret (pc := 17) X hr (by decide) hf dL_says_17
  · refine r_iconst (v := 1) (pc := 12) X dL_says_12 (by decide) ?_
    refine r_goto (tgt := 17) (pc := 13) X dL_says_13 (by decide) ?_
    exact y_zret (pc := 17) X hr (by decide) hf dL_says_17
/-! f_L_value -/
theorem dL_value_0 : decode cL_value 0 = .ok (.aload_n 0, 1) := by decide +kernel
theorem dL_value_1 : decode cL_value 1 = .ok (.invokevirtual 130, 3) := by decide +kernel
theorem dL_value_4 : decode cL_value 4 = .ok (.ifCond .lt 74, 3) := by decide +kernel
theorem dL_value_7 : decode cL_value 7 = .ok (.aload_n 0, 1) := by decide +kernel
theorem dL_value_8 : decode cL_value 8 = .ok (.iload_n 1, 1) := by decide +kernel
theorem dL_value_9 : decode cL_value 9 = .ok (.ifCond .ne 8, 3) := by decide +kernel
theorem dL_value_12 : decode cL_value 12 = .ok (.bipush 110, 2) := by decide +kernel
theorem dL_value_14 : decode cL_value 14 = .ok (.goto 45, 3) := by decide +kernel
theorem dL_value_17 : decode cL_value 17 = .ok (.iload_n 1, 1) := by decide +kernel
theorem dL_value_18 : decode cL_value 18 = .ok (.iconst 1, 1) := by decide +kernel
theorem dL_value_19 : decode cL_value 19 = .ok (.if_icmp .ne 8, 3) := by decide +kernel
theorem dL_value_22 : decode cL_value 22 = .ok (.bipush 115, 2) := by decide +kernel
theorem dL_value_24 : decode cL_value 24 = .ok (.goto 35, 3) := by decide +kernel
theorem dL_value_27 : decode cL_value 27 = .ok (.iload_n 1, 1) := by decide +kernel
theorem dL_value_28 : decode cL_value 28 = .ok (.iconst 2, 1) := by decide +kernel
theorem dL_value_29 : decode cL_value 29 = .ok (.if_icmp .ne 8, 3) := by decide +kernel
theorem dL_value_32 : decode cL_value 32 = .ok (.bipush 109, 2) := by decide +kernel
theorem dL_value_34 : decode cL_value 34 = .ok (.goto 25, 3) := by decide +kernel
theorem dL_value_37 : decode cL_value 37 = .ok (.iload_n 1, 1) := by decide +kernel
theorem dL_value_38 : decode cL_value 38 = .ok (.iconst 3, 1) := by decide +kernel
theorem dL_value_39 : decode cL_value 39 = .ok (.if_icmp .ne 8, 3) := by decide +kernel
theorem dL_value_42 : decode cL_value 42 = .ok (.bipush 120, 2) := by decide +kernel
theorem dL_value_44 : decode cL_value 44 = .ok (.goto 15, 3) := by decide +kernel
theorem dL_value_47 : decode cL_value 47 = .ok (.iload_n 1, 1) := by decide +kernel
theorem dL_value_48 : decode cL_value 48 = .ok (.iconst 4, 1) := by decide +kernel
theorem dL_value_49 : decode cL_value 49 = .ok (.if_icmp .ne 8, 3) := by decide +kernel
theorem dL_value_52 : decode cL_value 52 = .ok (.bipush 100, 2) := by decide +kernel
theorem dL_value_54 : decode cL_value 54 = .ok (.goto 5, 3) := by decide +kernel
theorem dL_value_57 : decode cL_value 57 = .ok (.bipush 116, 2) := by decide +kernel
theorem dL_value_59 : decode cL_value 59 = .ok (.invokestatic 154, 3) := by decide +kernel
theorem dL_value_62 : decode cL_value 62 = .ok (.ifCond .eq 16, 3) := by decide +kernel
theorem dL_value_65 : decode cL_value 65 = .ok (.aload_n 0, 1) := by decide +kernel
theorem dL_value_66 : decode cL_value 66 = .ok (.bipush 40, 2) := by decide +kernel
theorem dL_value_68 : decode cL_value 68 = .ok (.invokestatic 154, 3) := by decide +kernel
theorem dL_value_71 : decode cL_value 71 = .ok (.ifCond .eq 7, 3) := by decide +kernel
theorem dL_value_74 : decode cL_value 74 = .ok (.iconst 1, 1) := by decide +kernel
theorem dL_value_75 : decode cL_value 75 = .ok (.goto 4, 3) := by decide +kernel
theorem dL_value_78 : decode cL_value 78 = .ok (.iconst 0, 1) := by decide +kernel
theorem dL_value_79 : decode cL_value 79 = .ok (.istore 7, 2) := by decide +kernel
theorem dL_value_81 : decode cL_value 81 = .ok (.iload 7, 2) := by decide +kernel
theorem dL_value_83 : decode cL_value 83 = .ok (.ifCond .eq 49, 3) := by decide +kernel
theorem dL_value_86 : decode cL_value 86 = .ok (.iload_n 1, 1) := by decide +kernel
theorem dL_value_87 : decode cL_value 87 = .ok (.ifCond .eq 41, 3) := by decide +kernel
theorem dL_value_90 : decode cL_value 90 = .ok (.aload_n 0, 1) := by decide +kernel
theorem dL_value_91 : decode cL_value 91 = .ok (.iload_n 2, 1) := by decide +kernel
theorem dL_value_92 : decode cL_value 92 = .ok (.ifCond .ne 8, 3) := by decide +kernel
theorem dL_value_95 : decode cL_value 95 = .ok (.bipush 112, 2) := by decide +kernel
theorem dL_value_97 : decode cL_value 97 = .ok (.goto 25, 3) := by decide +kernel
theorem dL_value_100 : decode cL_value 100 = .ok (.iload_n 2, 1) := by decide +kernel
theorem dL_value_101 : decode cL_value 101 = .ok (.iconst 1, 1) := by decide +kernel
theorem dL_value_102 : decode cL_value 102 = .ok (.if_icmp .ne 8, 3) := by decide +kernel
theorem dL_value_105 : decode cL_value 105 = .ok (.bipush 108, 2) := by decide +kernel
theorem dL_value_107 : decode cL_value 107 = .ok (.goto 15, 3) := by decide +kernel
theorem dL_value_110 : decode cL_value 110 = .ok (.iload_n 2, 1) := by decide +kernel
theorem dL_value_111 : decode cL_value 111 = .ok (.iconst 2, 1) := by decide +kernel
theorem dL_value_112 : decode cL_value 112 = .ok (.if_icmp .ne 8, 3) := by decide +kernel
theorem dL_value_115 : decode cL_value 115 = .ok (.bipush 118, 2) := by decide +kernel
theorem dL_value_117 : decode cL_value 117 = .ok (.goto 5, 3) := by decide +kernel
theorem dL_value_120 : decode cL_value 120 = .ok (.bipush 104, 2) := by decide +kernel
theorem dL_value_122 : decode cL_value 122 = .ok (.invokestatic 154, 3) := by decide +kernel
theorem dL_value_125 : decode cL_value 125 = .ok (.ifCond .eq 7, 3) := by decide +kernel
theorem dL_value_128 : decode cL_value 128 = .ok (.iconst 1, 1) := by decide +kernel
theorem dL_value_129 : decode cL_value 129 = .ok (.goto 4, 3) := by decide +kernel
theorem dL_value_132 : decode cL_value 132 = .ok (.iconst 0, 1) := by decide +kernel
theorem dL_value_133 : decode cL_value 133 = .ok (.istore 7, 2) := by decide +kernel
theorem dL_value_135 : decode cL_value 135 = .ok (.iload 4, 2) := by decide +kernel
theorem dL_value_137 : decode cL_value 137 = .ok (.ifCond .le 280, 3) := by decide +kernel
theorem dL_value_140 : decode cL_value 140 = .ok (.iload 7, 2) := by decide +kernel
theorem dL_value_142 : decode cL_value 142 = .ok (.ifCond .eq 40, 3) := by decide +kernel
theorem dL_value_145 : decode cL_value 145 = .ok (.aload_n 0, 1) := by decide +kernel
theorem dL_value_146 : decode cL_value 146 = .ok (.bipush 58, 2) := by decide +kernel
theorem dL_value_148 : decode cL_value 148 = .ok (.invokestatic 154, 3) := by decide +kernel
theorem dL_value_151 : decode cL_value 151 = .ok (.ifCond .eq 31, 3) := by decide +kernel
theorem dL_value_154 : decode cL_value 154 = .ok (.iload 4, 2) := by decide +kernel
theorem dL_value_156 : decode cL_value 156 = .ok (.iconst 2, 1) := by decide +kernel
theorem dL_value_157 : decode cL_value 157 = .ok (.if_icmp .lt 21, 3) := by decide +kernel
theorem dL_value_160 : decode cL_value 160 = .ok (.aload_n 0, 1) := by decide +kernel
theorem dL_value_161 : decode cL_value 161 = .ok (.bipush 33, 2) := by decide +kernel
theorem dL_value_163 : decode cL_value 163 = .ok (.invokestatic 154, 3) := by decide +kernel
theorem dL_value_166 : decode cL_value 166 = .ok (.ifCond .eq 16, 3) := by decide +kernel
theorem dL_value_169 : decode cL_value 169 = .ok (.aload_n 0, 1) := by decide +kernel
theorem dL_value_170 : decode cL_value 170 = .ok (.bipush 40, 2) := by decide +kernel
theorem dL_value_172 : decode cL_value 172 = .ok (.invokestatic 154, 3) := by decide +kernel
theorem dL_value_175 : decode cL_value 175 = .ok (.ifCond .eq 7, 3) := by decide +kernel
theorem dL_value_178 : decode cL_value 178 = .ok (.iconst 1, 1) := by decide +kernel
theorem dL_value_179 : decode cL_value 179 = .ok (.goto 4, 3) := by decide +kernel
theorem dL_value_182 : decode cL_value 182 = .ok (.iconst 0, 1) := by decide +kernel
theorem dL_value_183 : decode cL_value 183 = .ok (.istore 7, 2) := by decide +kernel
theorem dL_value_185 : decode cL_value 185 = .ok (.iload 7, 2) := by decide +kernel
theorem dL_value_187 : decode cL_value 187 = .ok (.ifCond .eq 104, 3) := by decide +kernel
theorem dL_value_190 : decode cL_value 190 = .ok (.aload_n 0, 1) := by decide +kernel
theorem dL_value_191 : decode cL_value 191 = .ok (.iload_n 3, 1) := by decide +kernel
theorem dL_value_192 : decode cL_value 192 = .ok (.iconst 4, 1) := by decide +kernel
theorem dL_value_193 : decode cL_value 193 = .ok (.irem, 1) := by decide +kernel
theorem dL_value_194 : decode cL_value 194 = .ok (.ifCond .ne 8, 3) := by decide +kernel
theorem dL_value_197 : decode cL_value 197 = .ok (.bipush 112, 2) := by decide +kernel
theorem dL_value_199 : decode cL_value 199 = .ok (.goto 29, 3) := by decide +kernel
theorem dL_value_202 : decode cL_value 202 = .ok (.iload_n 3, 1) := by decide +kernel
theorem dL_value_203 : decode cL_value 203 = .ok (.iconst 4, 1) := by decide +kernel
theorem dL_value_204 : decode cL_value 204 = .ok (.irem, 1) := by decide +kernel
theorem dL_value_205 : decode cL_value 205 = .ok (.iconst 1, 1) := by decide +kernel
theorem dL_value_206 : decode cL_value 206 = .ok (.if_icmp .ne 8, 3) := by decide +kernel
theorem dL_value_209 : decode cL_value 209 = .ok (.bipush 108, 2) := by decide +kernel
theorem dL_value_211 : decode cL_value 211 = .ok (.goto 17, 3) := by decide +kernel
theorem dL_value_214 : decode cL_value 214 = .ok (.iload_n 3, 1) := by decide +kernel
theorem dL_value_215 : decode cL_value 215 = .ok (.iconst 4, 1) := by decide +kernel
theorem dL_value_216 : decode cL_value 216 = .ok (.irem, 1) := by decide +kernel
theorem dL_value_217 : decode cL_value 217 = .ok (.iconst 2, 1) := by decide +kernel
theorem dL_value_218 : decode cL_value 218 = .ok (.if_icmp .ne 8, 3) := by decide +kernel
theorem dL_value_221 : decode cL_value 221 = .ok (.bipush 118, 2) := by decide +kernel
theorem dL_value_223 : decode cL_value 223 = .ok (.goto 5, 3) := by decide +kernel
theorem dL_value_226 : decode cL_value 226 = .ok (.bipush 104, 2) := by decide +kernel
theorem dL_value_228 : decode cL_value 228 = .ok (.invokestatic 154, 3) := by decide +kernel
theorem dL_value_231 : decode cL_value 231 = .ok (.ifCond .eq 60, 3) := by decide +kernel
theorem dL_value_234 : decode cL_value 234 = .ok (.aload_n 0, 1) := by decide +kernel
theorem dL_value_235 : decode cL_value 235 = .ok (.iload_n 3, 1) := by decide +kernel
theorem dL_value_236 : decode cL_value 236 = .ok (.iconst 4, 1) := by decide +kernel
theorem dL_value_237 : decode cL_value 237 = .ok (.idiv, 1) := by decide +kernel
theorem dL_value_238 : decode cL_value 238 = .ok (.iconst 3, 1) := by decide +kernel
theorem dL_value_239 : decode cL_value 239 = .ok (.irem, 1) := by decide +kernel
theorem dL_value_240 : decode cL_value 240 = .ok (.ifCond .ne 8, 3) := by decide +kernel
theorem dL_value_243 : decode cL_value 243 = .ok (.bipush 60, 2) := by decide +kernel
theorem dL_value_245 : decode cL_value 245 = .ok (.goto 19, 3) := by decide +kernel
theorem dL_value_248 : decode cL_value 248 = .ok (.iload_n 3, 1) := by decide +kernel
theorem dL_value_249 : decode cL_value 249 = .ok (.iconst 4, 1) := by decide +kernel
theorem dL_value_250 : decode cL_value 250 = .ok (.idiv, 1) := by decide +kernel
theorem dL_value_251 : decode cL_value 251 = .ok (.iconst 3, 1) := by decide +kernel
theorem dL_value_252 : decode cL_value 252 = .ok (.irem, 1) := by decide +kernel
theorem dL_value_253 : decode cL_value 253 = .ok (.iconst 1, 1) := by decide +kernel
theorem dL_value_254 : decode cL_value 254 = .ok (.if_icmp .ne 8, 3) := by decide +kernel
theorem dL_value_257 : decode cL_value 257 = .ok (.bipush 62, 2) := by decide +kernel
theorem dL_value_259 : decode cL_value 259 = .ok (.goto 5, 3) := by decide +kernel
theorem dL_value_262 : decode cL_value 262 = .ok (.bipush 61, 2) := by decide +kernel
theorem dL_value_264 : decode cL_value 264 = .ok (.invokestatic 154, 3) := by decide +kernel
theorem dL_value_267 : decode cL_value 267 = .ok (.ifCond .eq 24, 3) := by decide +kernel
theorem dL_value_270 : decode cL_value 270 = .ok (.aload_n 0, 1) := by decide +kernel
theorem dL_value_271 : decode cL_value 271 = .ok (.bipush 48, 2) := by decide +kernel
theorem dL_value_273 : decode cL_value 273 = .ok (.iload_n 3, 1) := by decide +kernel
theorem dL_value_274 : decode cL_value 274 = .ok (.bipush 12, 2) := by decide +kernel
theorem dL_value_276 : decode cL_value 276 = .ok (.idiv, 1) := by decide +kernel
theorem dL_value_277 : decode cL_value 277 = .ok (.bipush 10, 2) := by decide +kernel
theorem dL_value_279 : decode cL_value 279 = .ok (.irem, 1) := by decide +kernel
theorem dL_value_280 : decode cL_value 280 = .ok (.iadd, 1) := by decide +kernel
theorem dL_value_281 : decode cL_value 281 = .ok (.invokestatic 154, 3) := by decide +kernel
theorem dL_value_284 : decode cL_value 284 = .ok (.ifCond .eq 7, 3) := by decide +kernel
theorem dL_value_287 : decode cL_value 287 = .ok (.iconst 1, 1) := by decide +kernel
theorem dL_value_288 : decode cL_value 288 = .ok (.goto 4, 3) := by decide +kernel
theorem dL_value_291 : decode cL_value 291 = .ok (.iconst 0, 1) := by decide +kernel
theorem dL_value_292 : decode cL_value 292 = .ok (.istore 7, 2) := by decide +kernel
theorem dL_value_294 : decode cL_value 294 = .ok (.iload 7, 2) := by decide +kernel
theorem dL_value_296 : decode cL_value 296 = .ok (.ifCond .eq 91, 3) := by decide +kernel
theorem dL_value_299 : decode cL_value 299 = .ok (.iload_n 3, 1) := by decide +kernel
theorem dL_value_300 : decode cL_value 300 = .ok (.bipush 120, 2) := by decide +kernel
theorem dL_value_302 : decode cL_value 302 = .ok (.idiv, 1) := by decide +kernel
theorem dL_value_303 : decode cL_value 303 = .ok (.iconst 3, 1) := by decide +kernel
theorem dL_value_304 : decode cL_value 304 = .ok (.irem, 1) := by decide +kernel
theorem dL_value_305 : decode cL_value 305 = .ok (.ifCond .eq 78, 3) := by decide +kernel
theorem dL_value_308 : decode cL_value 308 = .ok (.aload_n 0, 1) := by decide +kernel
theorem dL_value_309 : decode cL_value 309 = .ok (.iload_n 3, 1) := by decide +kernel
theorem dL_value_310 : decode cL_value 310 = .ok (.bipush 120, 2) := by decide +kernel
theorem dL_value_312 : decode cL_value 312 = .ok (.idiv, 1) := by decide +kernel
theorem dL_value_313 : decode cL_value 313 = .ok (.iconst 3, 1) := by decide +kernel
theorem dL_value_314 : decode cL_value 314 = .ok (.irem, 1) := by decide +kernel
theorem dL_value_315 : decode cL_value 315 = .ok (.iconst 1, 1) := by decide +kernel
theorem dL_value_316 : decode cL_value 316 = .ok (.if_icmp .ne 8, 3) := by decide +kernel
theorem dL_value_319 : decode cL_value 319 = .ok (.bipush 38, 2) := by decide +kernel
theorem dL_value_321 : decode cL_value 321 = .ok (.goto 5, 3) := by decide +kernel
theorem dL_value_324 : decode cL_value 324 = .ok (.bipush 124, 2) := by decide +kernel
theorem dL_value_326 : decode cL_value 326 = .ok (.invokestatic 154, 3) := by decide +kernel
theorem dL_value_329 : decode cL_value 329 = .ok (.ifCond .eq 58, 3) := by decide +kernel
theorem dL_value_332 : decode cL_value 332 = .ok (.aload_n 0, 1) := by decide +kernel
theorem dL_value_333 : decode cL_value 333 = .ok (.iload_n 3, 1) := by decide +kernel
theorem dL_value_334 : decode cL_value 334 = .ok (.sipush 360, 3) := by decide +kernel
theorem dL_value_337 : decode cL_value 337 = .ok (.idiv, 1) := by decide +kernel
theorem dL_value_338 : decode cL_value 338 = .ok (.iconst 2, 1) := by decide +kernel
theorem dL_value_339 : decode cL_value 339 = .ok (.irem, 1) := by decide +kernel
theorem dL_value_340 : decode cL_value 340 = .ok (.ifCond .ne 8, 3) := by decide +kernel
theorem dL_value_343 : decode cL_value 343 = .ok (.bipush 112, 2) := by decide +kernel
theorem dL_value_345 : decode cL_value 345 = .ok (.goto 5, 3) := by decide +kernel
theorem dL_value_348 : decode cL_value 348 = .ok (.bipush 108, 2) := by decide +kernel
theorem dL_value_350 : decode cL_value 350 = .ok (.invokestatic 154, 3) := by decide +kernel
theorem dL_value_353 : decode cL_value 353 = .ok (.ifCond .eq 34, 3) := by decide +kernel
theorem dL_value_356 : decode cL_value 356 = .ok (.aload_n 0, 1) := by decide +kernel
theorem dL_value_357 : decode cL_value 357 = .ok (.bipush 62, 2) := by decide +kernel
theorem dL_value_359 : decode cL_value 359 = .ok (.invokestatic 154, 3) := by decide +kernel
theorem dL_value_362 : decode cL_value 362 = .ok (.ifCond .eq 25, 3) := by decide +kernel
theorem dL_value_365 : decode cL_value 365 = .ok (.aload_n 0, 1) := by decide +kernel
theorem dL_value_366 : decode cL_value 366 = .ok (.bipush 48, 2) := by decide +kernel
theorem dL_value_368 : decode cL_value 368 = .ok (.iload_n 3, 1) := by decide +kernel
theorem dL_value_369 : decode cL_value 369 = .ok (.sipush 720, 3) := by decide +kernel
theorem dL_value_372 : decode cL_value 372 = .ok (.idiv, 1) := by decide +kernel
theorem dL_value_373 : decode cL_value 373 = .ok (.bipush 6, 2) := by decide +kernel
theorem dL_value_375 : decode cL_value 375 = .ok (.irem, 1) := by decide +kernel
theorem dL_value_376 : decode cL_value 376 = .ok (.iadd, 1) := by decide +kernel
theorem dL_value_377 : decode cL_value 377 = .ok (.invokestatic 154, 3) := by decide +kernel
theorem dL_value_380 : decode cL_value 380 = .ok (.ifCond .eq 7, 3) := by decide +kernel
theorem dL_value_383 : decode cL_value 383 = .ok (.iconst 1, 1) := by decide +kernel
theorem dL_value_384 : decode cL_value 384 = .ok (.goto 4, 3) := by decide +kernel
theorem dL_value_387 : decode cL_value 387 = .ok (.iconst 0, 1) := by decide +kernel
theorem dL_value_388 : decode cL_value 388 = .ok (.istore 7, 2) := by decide +kernel
theorem dL_value_390 : decode cL_value 390 = .ok (.iload 7, 2) := by decide +kernel
theorem dL_value_392 : decode cL_value 392 = .ok (.ifCond .eq 22, 3) := by decide +kernel
theorem dL_value_395 : decode cL_value 395 = .ok (.iload 4, 2) := by decide +kernel
theorem dL_value_397 : decode cL_value 397 = .ok (.iconst 2, 1) := by decide +kernel
theorem dL_value_398 : decode cL_value 398 = .ok (.if_icmp .lt 12, 3) := by decide +kernel
theorem dL_value_401 : decode cL_value 401 = .ok (.aload_n 0, 1) := by decide +kernel
theorem dL_value_402 : decode cL_value 402 = .ok (.bipush 41, 2) := by decide +kernel
theorem dL_value_404 : decode cL_value 404 = .ok (.invokestatic 154, 3) := by decide +kernel
theorem dL_value_407 : decode cL_value 407 = .ok (.ifCond .eq 7, 3) := by decide +kernel
theorem dL_value_410 : decode cL_value 410 = .ok (.iconst 1, 1) := by decide +kernel
theorem dL_value_411 : decode cL_value 411 = .ok (.goto 4, 3) := by decide +kernel
theorem dL_value_414 : decode cL_value 414 = .ok (.iconst 0, 1) := by decide +kernel
theorem dL_value_415 : decode cL_value 415 = .ok (.istore 7, 2) := by decide +kernel
theorem dL_value_417 : decode cL_value 417 = .ok (.iload 7, 2) := by decide +kernel
theorem dL_value_419 : decode cL_value 419 = .ok (.ifCond .eq 16, 3) := by decide +kernel
theorem dL_value_422 : decode cL_value 422 = .ok (.aload_n 0, 1) := by decide +kernel
theorem dL_value_423 : decode cL_value 423 = .ok (.bipush 41, 2) := by decide +kernel
theorem dL_value_425 : decode cL_value 425 = .ok (.invokestatic 154, 3) := by decide +kernel
theorem dL_value_428 : decode cL_value 428 = .ok (.ifCond .eq 7, 3) := by decide +kernel
theorem dL_value_431 : decode cL_value 431 = .ok (.iconst 1, 1) := by decide +kernel
theorem dL_value_432 : decode cL_value 432 = .ok (.goto 4, 3) := by decide +kernel
theorem dL_value_435 : decode cL_value 435 = .ok (.iconst 0, 1) := by decide +kernel
theorem dL_value_436 : decode cL_value 436 = .ok (.istore 7, 2) := by decide +kernel
theorem dL_value_438 : decode cL_value 438 = .ok (.aload_n 0, 1) := by decide +kernel
theorem dL_value_439 : decode cL_value 439 = .ok (.iload_n 3, 1) := by decide +kernel
theorem dL_value_440 : decode cL_value 440 = .ok (.iconst 2, 1) := by decide +kernel
theorem dL_value_441 : decode cL_value 441 = .ok (.irem, 1) := by decide +kernel
theorem dL_value_442 : decode cL_value 442 = .ok (.ifCond .ne 7, 3) := by decide +kernel
theorem dL_value_445 : decode cL_value 445 = .ok (.iconst 1, 1) := by decide +kernel
theorem dL_value_446 : decode cL_value 446 = .ok (.goto 4, 3) := by decide +kernel
theorem dL_value_449 : decode cL_value 449 = .ok (.iconst 0, 1) := by decide +kernel
theorem dL_value_450 : decode cL_value 450 = .ok (.iload 5, 2) := by decide +kernel
theorem dL_value_452 : decode cL_value 452 = .ok (.iload 6, 2) := by decide +kernel
theorem dL_value_454 : decode cL_value 454 = .ok (.invokestatic 150, 3) := by decide +kernel
theorem dL_value_457 : decode cL_value 457 = .ok (.lstore 8, 2) := by decide +kernel
theorem dL_value_459 : decode cL_value 459 = .ok (.iload 7, 2) := by decide +kernel
theorem dL_value_461 : decode cL_value 461 = .ok (.ifCond .eq 16, 3) := by decide +kernel
theorem dL_value_464 : decode cL_value 464 = .ok (.aload_n 0, 1) := by decide +kernel
theorem dL_value_465 : decode cL_value 465 = .ok (.invokevirtual 118, 3) := by decide +kernel
theorem dL_value_468 : decode cL_value 468 = .ok (.iconst (-1), 1) := by decide +kernel
theorem dL_value_469 : decode cL_value 469 = .ok (.if_icmp .ne 8, 3) := by decide +kernel
theorem dL_value_472 : decode cL_value 472 = .ok (.lload 8, 2) := by decide +kernel
theorem dL_value_474 : decode cL_value 474 = .ok (.goto 6, 3) := by decide +kernel
theorem dL_value_477 : decode cL_value 477 = .ok (.ldc2_w 158, 3) := by decide +kernel
theorem dL_value_480 : decode cL_value 480 = .ok (.lreturn, 1) := by decide +kernel
def f_L_value_b450 (F Z : Nat) (s : St) (l5 : Int32) (l6 : Int32) (l7 : Int32) (t1 : Int32) : Option (Int64 × St) :=
  (f_L_told F Z s t1 l5 l6).bind fun x3 => (if ct s ≤ ct x3.2 ∧ ct x3.2 ≤ Z then (if l7 = 0 then
    (some ((-77777), x3.2))
  else
    ((qd Z x3.2 (fun z => f_P_errorAt F z x3.2)).bind fun x4 => ((an x4.1).bind fun v5 => (if v5 = (-1) then
      (some (x3.1, x4.2))
    else
      (some ((-77777), x4.2)))))) else none)
def f_L_value_b417 (F Z : Nat) (s : St) (l3 : Int32) (l5 : Int32) (l6 : Int32) (l7 : Int32) : Option (Int64 × St) :=
  if l7 = 0 then
    (if (l3 - l3 / 2 * 2) = 0 then
      (f_L_value_b450 F Z s l5 l6 0 1)
    else
      (f_L_value_b450 F Z s l5 l6 0 0))
  else
    ((f_L_says F Z s 41).bind fun x6 => (if ct s ≤ ct x6.2 ∧ ct x6.2 ≤ Z then (if x6.1 = 0 then
      (if (l3 - l3 / 2 * 2) = 0 then
        (f_L_value_b450 F Z x6.2 l5 l6 0 1)
      else
        (f_L_value_b450 F Z x6.2 l5 l6 0 0))
    else
      (if (l3 - l3 / 2 * 2) = 0 then
        (f_L_value_b450 F Z x6.2 l5 l6 1 1)
      else
        (f_L_value_b450 F Z x6.2 l5 l6 1 0))) else none))
def f_L_value_b388 (F Z : Nat) (s : St) (l3 : Int32) (l4 : Int32) (l5 : Int32) (l6 : Int32) (t0 : Int32) : Option (Int64 × St) :=
  if t0 = 0 then
    (f_L_value_b417 F Z s l3 l5 l6 0)
  else
    (if l4 < 2 then
      (f_L_value_b417 F Z s l3 l5 l6 1)
    else
      ((f_L_says F Z s 41).bind fun x7 => (if ct s ≤ ct x7.2 ∧ ct x7.2 ≤ Z then (if x7.1 = 0 then
        (f_L_value_b417 F Z x7.2 l3 l5 l6 0)
      else
        (f_L_value_b417 F Z x7.2 l3 l5 l6 1)) else none)))
def f_L_value_b350 (F Z : Nat) (s : St) (l3 : Int32) (l4 : Int32) (l5 : Int32) (l6 : Int32) (t1 : Int32) : Option (Int64 × St) :=
  (f_L_says F Z s t1).bind fun x9 => (if ct s ≤ ct x9.2 ∧ ct x9.2 ≤ Z then (if x9.1 = 0 then
    (f_L_value_b388 F Z x9.2 l3 l4 l5 l6 0)
  else
    ((f_L_says F Z x9.2 62).bind fun x10 => (if ct x9.2 ≤ ct x10.2 ∧ ct x10.2 ≤ Z then (if x10.1 = 0 then
      (f_L_value_b388 F Z x10.2 l3 l4 l5 l6 0)
    else
      ((f_L_says F Z x10.2 ((48 : Int32) + ((l3 / 720) - (l3 / 720) / 6 * 6))).bind fun x11 => (if ct x10.2 ≤ ct x11.2 ∧ ct x11.2 ≤ Z then (if x11.1 = 0 then
        (f_L_value_b388 F Z x11.2 l3 l4 l5 l6 0)
      else
        (f_L_value_b388 F Z x11.2 l3 l4 l5 l6 1)) else none))) else none))) else none)
def f_L_value_b326 (F Z : Nat) (s : St) (l3 : Int32) (l4 : Int32) (l5 : Int32) (l6 : Int32) (t1 : Int32) : Option (Int64 × St) :=
  (f_L_says F Z s t1).bind fun x8 => (if ct s ≤ ct x8.2 ∧ ct x8.2 ≤ Z then (if x8.1 = 0 then
    (f_L_value_b388 F Z x8.2 l3 l4 l5 l6 0)
  else
    (if ((l3 / 360) - (l3 / 360) / 2 * 2) = 0 then
      (f_L_value_b350 F Z x8.2 l3 l4 l5 l6 112)
    else
      (f_L_value_b350 F Z x8.2 l3 l4 l5 l6 108))) else none)
def f_L_value_b292 (F Z : Nat) (s : St) (l3 : Int32) (l4 : Int32) (l5 : Int32) (l6 : Int32) (t0 : Int32) : Option (Int64 × St) :=
  if t0 = 0 then
    (f_L_value_b388 F Z s l3 l4 l5 l6 0)
  else
    (if ((l3 / 120) - (l3 / 120) / 3 * 3) = 0 then
      (f_L_value_b388 F Z s l3 l4 l5 l6 1)
    else
      (if ((l3 / 120) - (l3 / 120) / 3 * 3) = 1 then
        (f_L_value_b326 F Z s l3 l4 l5 l6 38)
      else
        (f_L_value_b326 F Z s l3 l4 l5 l6 124)))
def f_L_value_b264 (F Z : Nat) (s : St) (l3 : Int32) (l4 : Int32) (l5 : Int32) (l6 : Int32) (t1 : Int32) : Option (Int64 × St) :=
  (f_L_says F Z s t1).bind fun x13 => (if ct s ≤ ct x13.2 ∧ ct x13.2 ≤ Z then (if x13.1 = 0 then
    (f_L_value_b292 F Z x13.2 l3 l4 l5 l6 0)
  else
    ((f_L_says F Z x13.2 ((48 : Int32) + ((l3 / 12) - (l3 / 12) / 10 * 10))).bind fun x14 => (if ct x13.2 ≤ ct x14.2 ∧ ct x14.2 ≤ Z then (if x14.1 = 0 then
      (f_L_value_b292 F Z x14.2 l3 l4 l5 l6 0)
    else
      (f_L_value_b292 F Z x14.2 l3 l4 l5 l6 1)) else none))) else none)
def f_L_value_b228 (F Z : Nat) (s : St) (l3 : Int32) (l4 : Int32) (l5 : Int32) (l6 : Int32) (t1 : Int32) : Option (Int64 × St) :=
  (f_L_says F Z s t1).bind fun x12 => (if ct s ≤ ct x12.2 ∧ ct x12.2 ≤ Z then (if x12.1 = 0 then
    (f_L_value_b292 F Z x12.2 l3 l4 l5 l6 0)
  else
    (if ((l3 / 4) - (l3 / 4) / 3 * 3) = 0 then
      (f_L_value_b264 F Z x12.2 l3 l4 l5 l6 60)
    else
      (if ((l3 / 4) - (l3 / 4) / 3 * 3) = 1 then
        (f_L_value_b264 F Z x12.2 l3 l4 l5 l6 62)
      else
        (f_L_value_b264 F Z x12.2 l3 l4 l5 l6 61)))) else none)
def f_L_value_b183 (F Z : Nat) (s : St) (l3 : Int32) (l4 : Int32) (l5 : Int32) (l6 : Int32) (t0 : Int32) : Option (Int64 × St) :=
  if t0 = 0 then
    (f_L_value_b292 F Z s l3 l4 l5 l6 0)
  else
    (if (l3 - l3 / 4 * 4) = 0 then
      (f_L_value_b228 F Z s l3 l4 l5 l6 112)
    else
      (if (l3 - l3 / 4 * 4) = 1 then
        (f_L_value_b228 F Z s l3 l4 l5 l6 108)
      else
        (if (l3 - l3 / 4 * 4) = 2 then
          (f_L_value_b228 F Z s l3 l4 l5 l6 118)
        else
          (f_L_value_b228 F Z s l3 l4 l5 l6 104))))
def f_L_value_b133 (F Z : Nat) (s : St) (l3 : Int32) (l4 : Int32) (l5 : Int32) (l6 : Int32) (t0 : Int32) : Option (Int64 × St) :=
  if l4 ≤ 0 then
    (f_L_value_b417 F Z s l3 l5 l6 t0)
  else
    (if t0 = 0 then
      (f_L_value_b183 F Z s l3 l4 l5 l6 0)
    else
      ((f_L_says F Z s 58).bind fun x15 => (if ct s ≤ ct x15.2 ∧ ct x15.2 ≤ Z then (if x15.1 = 0 then
        (f_L_value_b183 F Z x15.2 l3 l4 l5 l6 0)
      else
        (if l4 < 2 then
          (f_L_value_b183 F Z x15.2 l3 l4 l5 l6 1)
        else
          ((f_L_says F Z x15.2 33).bind fun x16 => (if ct x15.2 ≤ ct x16.2 ∧ ct x16.2 ≤ Z then (if x16.1 = 0 then
            (f_L_value_b183 F Z x16.2 l3 l4 l5 l6 0)
          else
            ((f_L_says F Z x16.2 40).bind fun x17 => (if ct x16.2 ≤ ct x17.2 ∧ ct x17.2 ≤ Z then (if x17.1 = 0 then
              (f_L_value_b183 F Z x17.2 l3 l4 l5 l6 0)
            else
              (f_L_value_b183 F Z x17.2 l3 l4 l5 l6 1)) else none))) else none)))) else none)))
def f_L_value_b79 (F Z : Nat) (s : St) (l1 : Int32) (l2 : Int32) (l3 : Int32) (l4 : Int32) (l5 : Int32) (l6 : Int32) (t0 : Int32) : Option (Int64 × St) :=
  if t0 = 0 then
    (f_L_value_b133 F Z s l3 l4 l5 l6 0)
  else
    (if l1 = 0 then
      (f_L_value_b133 F Z s l3 l4 l5 l6 1)
    else
      (if l2 = 0 then
        ((f_L_says F Z s 112).bind fun x18 => (if ct s ≤ ct x18.2 ∧ ct x18.2 ≤ Z then (if x18.1 = 0 then
          (f_L_value_b133 F Z x18.2 l3 l4 l5 l6 0)
        else
          (f_L_value_b133 F Z x18.2 l3 l4 l5 l6 1)) else none))
      else
        (if l2 = 1 then
          ((f_L_says F Z s 108).bind fun x19 => (if ct s ≤ ct x19.2 ∧ ct x19.2 ≤ Z then (if x19.1 = 0 then
            (f_L_value_b133 F Z x19.2 l3 l4 l5 l6 0)
          else
            (f_L_value_b133 F Z x19.2 l3 l4 l5 l6 1)) else none))
        else
          (if l2 = 2 then
            ((f_L_says F Z s 118).bind fun x20 => (if ct s ≤ ct x20.2 ∧ ct x20.2 ≤ Z then (if x20.1 = 0 then
              (f_L_value_b133 F Z x20.2 l3 l4 l5 l6 0)
            else
              (f_L_value_b133 F Z x20.2 l3 l4 l5 l6 1)) else none))
          else
            ((f_L_says F Z s 104).bind fun x21 => (if ct s ≤ ct x21.2 ∧ ct x21.2 ≤ Z then (if x21.1 = 0 then
              (f_L_value_b133 F Z x21.2 l3 l4 l5 l6 0)
            else
              (f_L_value_b133 F Z x21.2 l3 l4 l5 l6 1)) else none))))))
def f_L_value (F Z : Nat) (s : St) (p1 : Int32) (p2 : Int32) (p3 : Int32) (p4 : Int32) (p5 : Int32) (p6 : Int32) : Option (Int64 × St) :=
  (f_P_clearText F s).bind fun x1 => (lt (kb s x1.2 0) fun s2 => (if x1.1 < 0 then
    (f_L_value_b79 F Z s2 p1 p2 p3 p4 p5 p6 0)
  else
    (if p1 = 0 then
      ((f_L_says F Z s2 110).bind fun x22 => (if ct s2 ≤ ct x22.2 ∧ ct x22.2 ≤ Z then (if x22.1 = 0 then
        (f_L_value_b79 F Z x22.2 p1 p2 p3 p4 p5 p6 0)
      else
        ((f_L_says F Z x22.2 40).bind fun x23 => (if ct x22.2 ≤ ct x23.2 ∧ ct x23.2 ≤ Z then (if x23.1 = 0 then
          (f_L_value_b79 F Z x23.2 p1 p2 p3 p4 p5 p6 0)
        else
          (f_L_value_b79 F Z x23.2 p1 p2 p3 p4 p5 p6 1)) else none))) else none))
    else
      (if p1 = 1 then
        ((f_L_says F Z s2 115).bind fun x24 => (if ct s2 ≤ ct x24.2 ∧ ct x24.2 ≤ Z then (if x24.1 = 0 then
          (f_L_value_b79 F Z x24.2 p1 p2 p3 p4 p5 p6 0)
        else
          ((f_L_says F Z x24.2 40).bind fun x25 => (if ct x24.2 ≤ ct x25.2 ∧ ct x25.2 ≤ Z then (if x25.1 = 0 then
            (f_L_value_b79 F Z x25.2 p1 p2 p3 p4 p5 p6 0)
          else
            (f_L_value_b79 F Z x25.2 p1 p2 p3 p4 p5 p6 1)) else none))) else none))
      else
        (if p1 = 2 then
          ((f_L_says F Z s2 109).bind fun x26 => (if ct s2 ≤ ct x26.2 ∧ ct x26.2 ≤ Z then (if x26.1 = 0 then
            (f_L_value_b79 F Z x26.2 p1 p2 p3 p4 p5 p6 0)
          else
            ((f_L_says F Z x26.2 40).bind fun x27 => (if ct x26.2 ≤ ct x27.2 ∧ ct x27.2 ≤ Z then (if x27.1 = 0 then
              (f_L_value_b79 F Z x27.2 p1 p2 p3 p4 p5 p6 0)
            else
              (f_L_value_b79 F Z x27.2 p1 p2 p3 p4 p5 p6 1)) else none))) else none))
        else
          (if p1 = 3 then
            ((f_L_says F Z s2 120).bind fun x28 => (if ct s2 ≤ ct x28.2 ∧ ct x28.2 ≤ Z then (if x28.1 = 0 then
              (f_L_value_b79 F Z x28.2 p1 p2 p3 p4 p5 p6 0)
            else
              ((f_L_says F Z x28.2 40).bind fun x29 => (if ct x28.2 ≤ ct x29.2 ∧ ct x29.2 ≤ Z then (if x29.1 = 0 then
                (f_L_value_b79 F Z x29.2 p1 p2 p3 p4 p5 p6 0)
              else
                (f_L_value_b79 F Z x29.2 p1 p2 p3 p4 p5 p6 1)) else none))) else none))
          else
            (if p1 = 4 then
              ((f_L_says F Z s2 100).bind fun x30 => (if ct s2 ≤ ct x30.2 ∧ ct x30.2 ≤ Z then (if x30.1 = 0 then
                (f_L_value_b79 F Z x30.2 p1 p2 p3 p4 p5 p6 0)
              else
                ((f_L_says F Z x30.2 40).bind fun x31 => (if ct x30.2 ≤ ct x31.2 ∧ ct x31.2 ≤ Z then (if x31.1 = 0 then
                  (f_L_value_b79 F Z x31.2 p1 p2 p3 p4 p5 p6 0)
                else
                  (f_L_value_b79 F Z x31.2 p1 p2 p3 p4 p5 p6 1)) else none))) else none))
            else
              ((f_L_says F Z s2 116).bind fun x32 => (if ct s2 ≤ ct x32.2 ∧ ct x32.2 ≤ Z then (if x32.1 = 0 then
                (f_L_value_b79 F Z x32.2 p1 p2 p3 p4 p5 p6 0)
              else
                ((f_L_says F Z x32.2 40).bind fun x33 => (if ct x32.2 ≤ ct x33.2 ∧ ct x33.2 ≤ Z then (if x33.1 = 0 then
                  (f_L_value_b79 F Z x33.2 p1 p2 p3 p4 p5 p6 0)
                else
                  (f_L_value_b79 F Z x33.2 p1 p2 p3 p4 p5 p6 1)) else none))) else none)))))))))
set_option maxHeartbeats 1000000 in
theorem c_f_L_value_b450 {F Z : Nat} {c0 : Nat} {Γ : Ga} {D : DD} {B : Nat} {r : Int64} {s' : St} (X : Cx Γ RL cL_value 10 D B (RMg Z c0 805 16521)) (M : RLe (RMg Z c0 805 16521) Z 0 0 c0 805 16521) (Y : Xy Γ B) (hr : (Gme Γ).sig.returnType = (some .long)) {s : St} {l5 : Int32} {l6 : Int32} {l7 : Int32} {t1 : Int32} (hc : Hc c0 Z s) (hf : f_L_value_b450 F Z s l5 l6 l7 t1 = some (r, s')) : V Γ D B true 10 (QX Γ D B true s' (.inl (some (.long r))) (64 * (ct s' - c0)) (768 * (ct s' - c0))) (kg 0 c0 s) (ng 0 c0 s) s 450 [(0, .ref (B + 0)), (5, .int l5), (6, .int l6), (7, .int l7)] [.int t1, .ref (B + 0)] := by
  unfold f_L_value_b450 at hf
  refine r_iload (pc := 450) X dL_value_450 1 rfl ?_
  refine r_iload (pc := 452) X dL_value_452 2 rfl ?_
  refine bnd hf (fun x3 h3 hf => ?_)
  refine ifo hf (fun hz hf => ?_)
  refine y_callWSl (As := [.ref (B + 0), .int t1, .int l5, .int l6]) (st := []) (pc := 454) X M Y hc (c_f_L_told h3 hc.2) rfl w_887 w_888 w_35 w_889 hdS_L_told (by decide) hz (Nat.le_of_ble_eq_true rfl) dL_value_454 rfl (fun hc => ?_)
  refine r_lstore (pc := 457) (lv' := [(0, .ref (B + 0)), (7, .int l7), (8, .long x3.1)]) X dL_value_457 (by decide) [1, 4, 0] rfl ?_
  refine r_iload (pc := 459) X dL_value_459 1 rfl ?_
  refine b_if_eq (tgt := 477) (pc := 461) X dL_value_461 (by decide) hf (fun hf => ?_) (fun hf => ?_)
  · refine r_ldc2 (v := -77777) (pc := 477) X w_982 dL_value_477 ?_
    exact y_lret (pc := 480) X hr hf dL_value_480
  · refine r_aload_n (x := some 0) (pc := 464) X dL_value_464 0 rfl ?_
    refine bnd hf (fun x4 h4 hf => ?_)
    refine bnd hf (fun v5 h4v hf => ?_)
    refine y_callXVi (As := []) (st := []) (pc := 465) X M Y hc (qd_run (ou := ouI) (fun z x h => c_f_P_errorAt h) h4) rfl w_876 w_877 w_878 w_36 w_879 hdV_X10_errorAt (Rc.s rfl ce_0) (by decide) (Nat.le_of_ble_eq_true rfl) dL_value_465 rfl h4v (fun hc => ?_)
    refine r_iconst (v := -1) (pc := 468) X dL_value_468 (by decide) ?_
    refine b_icmp_ne (tgt := 477) (pc := 469) X dL_value_469 (by decide) hf (fun hf => ?_) (fun hf => ?_)
    · refine r_lload (pc := 472) X dL_value_472 2 rfl ?_
      refine r_goto (tgt := 480) (pc := 474) X dL_value_474 (by decide) ?_
      exact y_lret (pc := 480) X hr hf dL_value_480
    · refine r_ldc2 (v := -77777) (pc := 477) X w_982 dL_value_477 ?_
      exact y_lret (pc := 480) X hr hf dL_value_480
set_option maxHeartbeats 1000000 in
theorem c_f_L_value_b417 {F Z : Nat} {c0 : Nat} {Γ : Ga} {D : DD} {B : Nat} {r : Int64} {s' : St} (X : Cx Γ RL cL_value 10 D B (RMg Z c0 805 16521)) (M : RLe (RMg Z c0 805 16521) Z 0 0 c0 805 16521) (Y : Xy Γ B) (hr : (Gme Γ).sig.returnType = (some .long)) {s : St} {l3 : Int32} {l5 : Int32} {l6 : Int32} {l7 : Int32} (hc : Hc c0 Z s) (hf : f_L_value_b417 F Z s l3 l5 l6 l7 = some (r, s')) : V Γ D B true 10 (QX Γ D B true s' (.inl (some (.long r))) (64 * (ct s' - c0)) (768 * (ct s' - c0))) (kg 0 c0 s) (ng 0 c0 s) s 417 [(0, .ref (B + 0)), (3, .int l3), (5, .int l5), (6, .int l6), (7, .int l7)] [] := by
  unfold f_L_value_b417 at hf
  refine r_iload (pc := 417) X dL_value_417 4 rfl ?_
  refine b_if_eq (tgt := 435) (pc := 419) X dL_value_419 (by decide) hf (fun hf => ?_) (fun hf => ?_)
  · refine r_iconst (v := 0) (pc := 435) X dL_value_435 (by decide) ?_
    refine r_istore (pc := 436) (lv' := [(0, .ref (B + 0)), (3, .int l3), (5, .int l5), (6, .int l6), (7, .int 0)]) X dL_value_436 (by decide) [1, 2, 3, 4, 0] rfl ?_
    refine r_aload_n (x := some 0) (pc := 438) X dL_value_438 0 rfl ?_
    refine r_iload_n (pc := 439) X dL_value_439 1 rfl ?_
    refine r_iconst (v := 2) (pc := 440) X dL_value_440 (by decide) ?_
    refine r_irem (pc := 441) X dL_value_441 (by decide) ?_
    refine b_if_ne (tgt := 449) (pc := 442) X dL_value_442 (by decide) hf (fun hf => ?_) (fun hf => ?_)
    · refine r_iconst (v := 1) (pc := 445) X dL_value_445 (by decide) ?_
      refine r_goto (tgt := 450) (pc := 446) X dL_value_446 (by decide) ?_
      refine r_forget (lv' := [(0, .ref (B + 0)), (5, .int l5), (6, .int l6), (7, .int 0)]) [0, 2, 3, 4] rfl ?_
      exact c_f_L_value_b450 X M Y hr hc hf
    · refine r_iconst (v := 0) (pc := 449) X dL_value_449 (by decide) ?_
      refine r_forget (lv' := [(0, .ref (B + 0)), (5, .int l5), (6, .int l6), (7, .int 0)]) [0, 2, 3, 4] rfl ?_
      exact c_f_L_value_b450 X M Y hr hc hf
  · refine r_aload_n (x := some 0) (pc := 422) X dL_value_422 0 rfl ?_
    refine r_bipush (v := 41) (pc := 423) X dL_value_423 (by decide) ?_
    refine bnd hf (fun x6 h6 hf => ?_)
    refine ifo hf (fun hz hf => ?_)
    refine y_callXSi (As := [.ref (B + 0), .int 41]) (st := []) (pc := 425) X M Y hc (c_f_L_says h6 hc.2) rfl w_979 w_980 w_35 w_981 hdS_L_says (by decide) hz (Nat.le_of_ble_eq_true rfl) dL_value_425 rfl (fun hc => ?_)
    refine b_if_eq (tgt := 435) (pc := 428) X dL_value_428 (by decide) hf (fun hf => ?_) (fun hf => ?_)
    · refine r_iconst (v := 0) (pc := 435) X dL_value_435 (by decide) ?_
      refine r_istore (pc := 436) (lv' := [(0, .ref (B + 0)), (3, .int l3), (5, .int l5), (6, .int l6), (7, .int 0)]) X dL_value_436 (by decide) [1, 2, 3, 4, 0] rfl ?_
      refine r_aload_n (x := some 0) (pc := 438) X dL_value_438 0 rfl ?_
      refine r_iload_n (pc := 439) X dL_value_439 1 rfl ?_
      refine r_iconst (v := 2) (pc := 440) X dL_value_440 (by decide) ?_
      refine r_irem (pc := 441) X dL_value_441 (by decide) ?_
      refine b_if_ne (tgt := 449) (pc := 442) X dL_value_442 (by decide) hf (fun hf => ?_) (fun hf => ?_)
      · refine r_iconst (v := 1) (pc := 445) X dL_value_445 (by decide) ?_
        refine r_goto (tgt := 450) (pc := 446) X dL_value_446 (by decide) ?_
        refine r_forget (lv' := [(0, .ref (B + 0)), (5, .int l5), (6, .int l6), (7, .int 0)]) [0, 2, 3, 4] rfl ?_
        exact c_f_L_value_b450 X M Y hr hc hf
      · refine r_iconst (v := 0) (pc := 449) X dL_value_449 (by decide) ?_
        refine r_forget (lv' := [(0, .ref (B + 0)), (5, .int l5), (6, .int l6), (7, .int 0)]) [0, 2, 3, 4] rfl ?_
        exact c_f_L_value_b450 X M Y hr hc hf
    · refine r_iconst (v := 1) (pc := 431) X dL_value_431 (by decide) ?_
      refine r_goto (tgt := 436) (pc := 432) X dL_value_432 (by decide) ?_
      refine r_istore (pc := 436) (lv' := [(0, .ref (B + 0)), (3, .int l3), (5, .int l5), (6, .int l6), (7, .int 1)]) X dL_value_436 (by decide) [1, 2, 3, 4, 0] rfl ?_
      refine r_aload_n (x := some 0) (pc := 438) X dL_value_438 0 rfl ?_
      refine r_iload_n (pc := 439) X dL_value_439 1 rfl ?_
      refine r_iconst (v := 2) (pc := 440) X dL_value_440 (by decide) ?_
      refine r_irem (pc := 441) X dL_value_441 (by decide) ?_
      refine b_if_ne (tgt := 449) (pc := 442) X dL_value_442 (by decide) hf (fun hf => ?_) (fun hf => ?_)
      · refine r_iconst (v := 1) (pc := 445) X dL_value_445 (by decide) ?_
        refine r_goto (tgt := 450) (pc := 446) X dL_value_446 (by decide) ?_
        refine r_forget (lv' := [(0, .ref (B + 0)), (5, .int l5), (6, .int l6), (7, .int 1)]) [0, 2, 3, 4] rfl ?_
        exact c_f_L_value_b450 X M Y hr hc hf
      · refine r_iconst (v := 0) (pc := 449) X dL_value_449 (by decide) ?_
        refine r_forget (lv' := [(0, .ref (B + 0)), (5, .int l5), (6, .int l6), (7, .int 1)]) [0, 2, 3, 4] rfl ?_
        exact c_f_L_value_b450 X M Y hr hc hf
set_option maxHeartbeats 1000000 in
theorem c_f_L_value_b388 {F Z : Nat} {c0 : Nat} {Γ : Ga} {D : DD} {B : Nat} {r : Int64} {s' : St} (X : Cx Γ RL cL_value 10 D B (RMg Z c0 805 16521)) (M : RLe (RMg Z c0 805 16521) Z 0 0 c0 805 16521) (Y : Xy Γ B) (hr : (Gme Γ).sig.returnType = (some .long)) {s : St} {l3 : Int32} {l4 : Int32} {l5 : Int32} {l6 : Int32} {t0 : Int32} (hc : Hc c0 Z s) (hf : f_L_value_b388 F Z s l3 l4 l5 l6 t0 = some (r, s')) : V Γ D B true 10 (QX Γ D B true s' (.inl (some (.long r))) (64 * (ct s' - c0)) (768 * (ct s' - c0))) (kg 0 c0 s) (ng 0 c0 s) s 388 [(0, .ref (B + 0)), (3, .int l3), (4, .int l4), (5, .int l5), (6, .int l6)] [.int t0] := by
  unfold f_L_value_b388 at hf
  refine r_istore (pc := 388) (lv' := [(0, .ref (B + 0)), (3, .int l3), (4, .int l4), (5, .int l5), (6, .int l6), (7, .int t0)]) X dL_value_388 (by decide) [1, 2, 3, 4, 5, 0] rfl ?_
  refine r_iload (pc := 390) X dL_value_390 5 rfl ?_
  refine b_if_eq (tgt := 414) (pc := 392) X dL_value_392 (by decide) hf (fun hf => ?_) (fun hf => ?_)
  · refine r_iconst (v := 0) (pc := 414) X dL_value_414 (by decide) ?_
    refine r_istore (pc := 415) (lv' := [(0, .ref (B + 0)), (3, .int l3), (5, .int l5), (6, .int l6), (7, .int 0)]) X dL_value_415 (by decide) [1, 2, 4, 5, 0] rfl ?_
    exact c_f_L_value_b417 X M Y hr hc hf
  · refine r_iload (pc := 395) X dL_value_395 2 rfl ?_
    refine r_iconst (v := 2) (pc := 397) X dL_value_397 (by decide) ?_
    refine b_icmp_lt (tgt := 410) (pc := 398) X dL_value_398 (by decide) hf (fun hf => ?_) (fun hf => ?_)
    · refine r_iconst (v := 1) (pc := 410) X dL_value_410 (by decide) ?_
      refine r_goto (tgt := 415) (pc := 411) X dL_value_411 (by decide) ?_
      refine r_istore (pc := 415) (lv' := [(0, .ref (B + 0)), (3, .int l3), (5, .int l5), (6, .int l6), (7, .int 1)]) X dL_value_415 (by decide) [1, 2, 4, 5, 0] rfl ?_
      exact c_f_L_value_b417 X M Y hr hc hf
    · refine r_aload_n (x := some 0) (pc := 401) X dL_value_401 0 rfl ?_
      refine r_bipush (v := 41) (pc := 402) X dL_value_402 (by decide) ?_
      refine bnd hf (fun x7 h7 hf => ?_)
      refine ifo hf (fun hz hf => ?_)
      refine y_callXSi (As := [.ref (B + 0), .int 41]) (st := []) (pc := 404) X M Y hc (c_f_L_says h7 hc.2) rfl w_979 w_980 w_35 w_981 hdS_L_says (by decide) hz (Nat.le_of_ble_eq_true rfl) dL_value_404 rfl (fun hc => ?_)
      refine b_if_eq (tgt := 414) (pc := 407) X dL_value_407 (by decide) hf (fun hf => ?_) (fun hf => ?_)
      · refine r_iconst (v := 0) (pc := 414) X dL_value_414 (by decide) ?_
        refine r_istore (pc := 415) (lv' := [(0, .ref (B + 0)), (3, .int l3), (5, .int l5), (6, .int l6), (7, .int 0)]) X dL_value_415 (by decide) [1, 2, 4, 5, 0] rfl ?_
        exact c_f_L_value_b417 X M Y hr hc hf
      · refine r_iconst (v := 1) (pc := 410) X dL_value_410 (by decide) ?_
        refine r_goto (tgt := 415) (pc := 411) X dL_value_411 (by decide) ?_
        refine r_istore (pc := 415) (lv' := [(0, .ref (B + 0)), (3, .int l3), (5, .int l5), (6, .int l6), (7, .int 1)]) X dL_value_415 (by decide) [1, 2, 4, 5, 0] rfl ?_
        exact c_f_L_value_b417 X M Y hr hc hf
set_option maxHeartbeats 1000000 in
theorem c_f_L_value_b350 {F Z : Nat} {c0 : Nat} {Γ : Ga} {D : DD} {B : Nat} {r : Int64} {s' : St} (X : Cx Γ RL cL_value 10 D B (RMg Z c0 805 16521)) (M : RLe (RMg Z c0 805 16521) Z 0 0 c0 805 16521) (Y : Xy Γ B) (hr : (Gme Γ).sig.returnType = (some .long)) {s : St} {l3 : Int32} {l4 : Int32} {l5 : Int32} {l6 : Int32} {t1 : Int32} (hc : Hc c0 Z s) (hf : f_L_value_b350 F Z s l3 l4 l5 l6 t1 = some (r, s')) : V Γ D B true 10 (QX Γ D B true s' (.inl (some (.long r))) (64 * (ct s' - c0)) (768 * (ct s' - c0))) (kg 0 c0 s) (ng 0 c0 s) s 350 [(0, .ref (B + 0)), (3, .int l3), (4, .int l4), (5, .int l5), (6, .int l6)] [.int t1, .ref (B + 0)] := by
  unfold f_L_value_b350 at hf
  refine bnd hf (fun x9 h9 hf => ?_)
  refine ifo hf (fun hz hf => ?_)
  refine y_callXSi (As := [.ref (B + 0), .int t1]) (st := []) (pc := 350) X M Y hc (c_f_L_says h9 hc.2) rfl w_979 w_980 w_35 w_981 hdS_L_says (by decide) hz (Nat.le_of_ble_eq_true rfl) dL_value_350 rfl (fun hc => ?_)
  refine b_if_eq (tgt := 387) (pc := 353) X dL_value_353 (by decide) hf (fun hf => ?_) (fun hf => ?_)
  · refine r_iconst (v := 0) (pc := 387) X dL_value_387 (by decide) ?_
    exact c_f_L_value_b388 X M Y hr hc hf
  · refine r_aload_n (x := some 0) (pc := 356) X dL_value_356 0 rfl ?_
    refine r_bipush (v := 62) (pc := 357) X dL_value_357 (by decide) ?_
    refine bnd hf (fun x10 h10 hf => ?_)
    refine ifo hf (fun hz hf => ?_)
    refine y_callXSi (As := [.ref (B + 0), .int 62]) (st := []) (pc := 359) X M Y hc (c_f_L_says h10 hc.2) rfl w_979 w_980 w_35 w_981 hdS_L_says (by decide) hz (Nat.le_of_ble_eq_true rfl) dL_value_359 rfl (fun hc => ?_)
    refine b_if_eq (tgt := 387) (pc := 362) X dL_value_362 (by decide) hf (fun hf => ?_) (fun hf => ?_)
    · refine r_iconst (v := 0) (pc := 387) X dL_value_387 (by decide) ?_
      exact c_f_L_value_b388 X M Y hr hc hf
    · refine r_aload_n (x := some 0) (pc := 365) X dL_value_365 0 rfl ?_
      refine r_bipush (v := 48) (pc := 366) X dL_value_366 (by decide) ?_
      refine r_iload_n (pc := 368) X dL_value_368 1 rfl ?_
      refine r_sipush (v := 720) (pc := 369) X dL_value_369 (by decide) ?_
      refine r_idiv (pc := 372) X dL_value_372 (by decide) ?_
      refine r_bipush (v := 6) (pc := 373) X dL_value_373 (by decide) ?_
      refine r_irem (pc := 375) X dL_value_375 (by decide) ?_
      refine r_iadd (pc := 376) X dL_value_376 ?_
      refine bnd hf (fun x11 h11 hf => ?_)
      refine ifo hf (fun hz hf => ?_)
      refine y_callXSi (As := [.ref (B + 0), .int ((48 : Int32) + ((l3 / 720) - (l3 / 720) / 6 * 6))]) (st := []) (pc := 377) X M Y hc (c_f_L_says h11 hc.2) rfl w_979 w_980 w_35 w_981 hdS_L_says (by decide) hz (Nat.le_of_ble_eq_true rfl) dL_value_377 rfl (fun hc => ?_)
      refine b_if_eq (tgt := 387) (pc := 380) X dL_value_380 (by decide) hf (fun hf => ?_) (fun hf => ?_)
      · refine r_iconst (v := 0) (pc := 387) X dL_value_387 (by decide) ?_
        exact c_f_L_value_b388 X M Y hr hc hf
      · refine r_iconst (v := 1) (pc := 383) X dL_value_383 (by decide) ?_
        refine r_goto (tgt := 388) (pc := 384) X dL_value_384 (by decide) ?_
        exact c_f_L_value_b388 X M Y hr hc hf
set_option maxHeartbeats 1000000 in
theorem c_f_L_value_b326 {F Z : Nat} {c0 : Nat} {Γ : Ga} {D : DD} {B : Nat} {r : Int64} {s' : St} (X : Cx Γ RL cL_value 10 D B (RMg Z c0 805 16521)) (M : RLe (RMg Z c0 805 16521) Z 0 0 c0 805 16521) (Y : Xy Γ B) (hr : (Gme Γ).sig.returnType = (some .long)) {s : St} {l3 : Int32} {l4 : Int32} {l5 : Int32} {l6 : Int32} {t1 : Int32} (hc : Hc c0 Z s) (hf : f_L_value_b326 F Z s l3 l4 l5 l6 t1 = some (r, s')) : V Γ D B true 10 (QX Γ D B true s' (.inl (some (.long r))) (64 * (ct s' - c0)) (768 * (ct s' - c0))) (kg 0 c0 s) (ng 0 c0 s) s 326 [(0, .ref (B + 0)), (3, .int l3), (4, .int l4), (5, .int l5), (6, .int l6)] [.int t1, .ref (B + 0)] := by
  unfold f_L_value_b326 at hf
  refine bnd hf (fun x8 h8 hf => ?_)
  refine ifo hf (fun hz hf => ?_)
  refine y_callXSi (As := [.ref (B + 0), .int t1]) (st := []) (pc := 326) X M Y hc (c_f_L_says h8 hc.2) rfl w_979 w_980 w_35 w_981 hdS_L_says (by decide) hz (Nat.le_of_ble_eq_true rfl) dL_value_326 rfl (fun hc => ?_)
  refine b_if_eq (tgt := 387) (pc := 329) X dL_value_329 (by decide) hf (fun hf => ?_) (fun hf => ?_)
  · refine r_iconst (v := 0) (pc := 387) X dL_value_387 (by decide) ?_
    exact c_f_L_value_b388 X M Y hr hc hf
  · refine r_aload_n (x := some 0) (pc := 332) X dL_value_332 0 rfl ?_
    refine r_iload_n (pc := 333) X dL_value_333 1 rfl ?_
    refine r_sipush (v := 360) (pc := 334) X dL_value_334 (by decide) ?_
    refine r_idiv (pc := 337) X dL_value_337 (by decide) ?_
    refine r_iconst (v := 2) (pc := 338) X dL_value_338 (by decide) ?_
    refine r_irem (pc := 339) X dL_value_339 (by decide) ?_
    refine b_if_ne (tgt := 348) (pc := 340) X dL_value_340 (by decide) hf (fun hf => ?_) (fun hf => ?_)
    · refine r_bipush (v := 112) (pc := 343) X dL_value_343 (by decide) ?_
      refine r_goto (tgt := 350) (pc := 345) X dL_value_345 (by decide) ?_
      exact c_f_L_value_b350 X M Y hr hc hf
    · refine r_bipush (v := 108) (pc := 348) X dL_value_348 (by decide) ?_
      exact c_f_L_value_b350 X M Y hr hc hf
set_option maxHeartbeats 1000000 in
theorem c_f_L_value_b292 {F Z : Nat} {c0 : Nat} {Γ : Ga} {D : DD} {B : Nat} {r : Int64} {s' : St} (X : Cx Γ RL cL_value 10 D B (RMg Z c0 805 16521)) (M : RLe (RMg Z c0 805 16521) Z 0 0 c0 805 16521) (Y : Xy Γ B) (hr : (Gme Γ).sig.returnType = (some .long)) {s : St} {l3 : Int32} {l4 : Int32} {l5 : Int32} {l6 : Int32} {t0 : Int32} (hc : Hc c0 Z s) (hf : f_L_value_b292 F Z s l3 l4 l5 l6 t0 = some (r, s')) : V Γ D B true 10 (QX Γ D B true s' (.inl (some (.long r))) (64 * (ct s' - c0)) (768 * (ct s' - c0))) (kg 0 c0 s) (ng 0 c0 s) s 292 [(0, .ref (B + 0)), (3, .int l3), (4, .int l4), (5, .int l5), (6, .int l6)] [.int t0] := by
  unfold f_L_value_b292 at hf
  refine r_istore (pc := 292) (lv' := [(0, .ref (B + 0)), (3, .int l3), (4, .int l4), (5, .int l5), (6, .int l6), (7, .int t0)]) X dL_value_292 (by decide) [1, 2, 3, 4, 5, 0] rfl ?_
  refine r_iload (pc := 294) X dL_value_294 5 rfl ?_
  refine b_if_eq (tgt := 387) (pc := 296) X dL_value_296 (by decide) hf (fun hf => ?_) (fun hf => ?_)
  · refine r_iconst (v := 0) (pc := 387) X dL_value_387 (by decide) ?_
    refine r_forget (lv' := [(0, .ref (B + 0)), (3, .int l3), (4, .int l4), (5, .int l5), (6, .int l6)]) [0, 1, 2, 3, 4] rfl ?_
    exact c_f_L_value_b388 X M Y hr hc hf
  · refine r_iload_n (pc := 299) X dL_value_299 1 rfl ?_
    refine r_bipush (v := 120) (pc := 300) X dL_value_300 (by decide) ?_
    refine r_idiv (pc := 302) X dL_value_302 (by decide) ?_
    refine r_iconst (v := 3) (pc := 303) X dL_value_303 (by decide) ?_
    refine r_irem (pc := 304) X dL_value_304 (by decide) ?_
    refine b_if_eq (tgt := 383) (pc := 305) X dL_value_305 (by decide) hf (fun hf => ?_) (fun hf => ?_)
    · refine r_iconst (v := 1) (pc := 383) X dL_value_383 (by decide) ?_
      refine r_goto (tgt := 388) (pc := 384) X dL_value_384 (by decide) ?_
      refine r_forget (lv' := [(0, .ref (B + 0)), (3, .int l3), (4, .int l4), (5, .int l5), (6, .int l6)]) [0, 1, 2, 3, 4] rfl ?_
      exact c_f_L_value_b388 X M Y hr hc hf
    · refine r_aload_n (x := some 0) (pc := 308) X dL_value_308 0 rfl ?_
      refine r_iload_n (pc := 309) X dL_value_309 1 rfl ?_
      refine r_bipush (v := 120) (pc := 310) X dL_value_310 (by decide) ?_
      refine r_idiv (pc := 312) X dL_value_312 (by decide) ?_
      refine r_iconst (v := 3) (pc := 313) X dL_value_313 (by decide) ?_
      refine r_irem (pc := 314) X dL_value_314 (by decide) ?_
      refine r_iconst (v := 1) (pc := 315) X dL_value_315 (by decide) ?_
      refine b_icmp_ne (tgt := 324) (pc := 316) X dL_value_316 (by decide) hf (fun hf => ?_) (fun hf => ?_)
      · refine r_bipush (v := 38) (pc := 319) X dL_value_319 (by decide) ?_
        refine r_goto (tgt := 326) (pc := 321) X dL_value_321 (by decide) ?_
        refine r_forget (lv' := [(0, .ref (B + 0)), (3, .int l3), (4, .int l4), (5, .int l5), (6, .int l6)]) [0, 1, 2, 3, 4] rfl ?_
        exact c_f_L_value_b326 X M Y hr hc hf
      · refine r_bipush (v := 124) (pc := 324) X dL_value_324 (by decide) ?_
        refine r_forget (lv' := [(0, .ref (B + 0)), (3, .int l3), (4, .int l4), (5, .int l5), (6, .int l6)]) [0, 1, 2, 3, 4] rfl ?_
        exact c_f_L_value_b326 X M Y hr hc hf
set_option maxHeartbeats 1000000 in
theorem c_f_L_value_b264 {F Z : Nat} {c0 : Nat} {Γ : Ga} {D : DD} {B : Nat} {r : Int64} {s' : St} (X : Cx Γ RL cL_value 10 D B (RMg Z c0 805 16521)) (M : RLe (RMg Z c0 805 16521) Z 0 0 c0 805 16521) (Y : Xy Γ B) (hr : (Gme Γ).sig.returnType = (some .long)) {s : St} {l3 : Int32} {l4 : Int32} {l5 : Int32} {l6 : Int32} {t1 : Int32} (hc : Hc c0 Z s) (hf : f_L_value_b264 F Z s l3 l4 l5 l6 t1 = some (r, s')) : V Γ D B true 10 (QX Γ D B true s' (.inl (some (.long r))) (64 * (ct s' - c0)) (768 * (ct s' - c0))) (kg 0 c0 s) (ng 0 c0 s) s 264 [(0, .ref (B + 0)), (3, .int l3), (4, .int l4), (5, .int l5), (6, .int l6)] [.int t1, .ref (B + 0)] := by
  unfold f_L_value_b264 at hf
  refine bnd hf (fun x13 h13 hf => ?_)
  refine ifo hf (fun hz hf => ?_)
  refine y_callXSi (As := [.ref (B + 0), .int t1]) (st := []) (pc := 264) X M Y hc (c_f_L_says h13 hc.2) rfl w_979 w_980 w_35 w_981 hdS_L_says (by decide) hz (Nat.le_of_ble_eq_true rfl) dL_value_264 rfl (fun hc => ?_)
  refine b_if_eq (tgt := 291) (pc := 267) X dL_value_267 (by decide) hf (fun hf => ?_) (fun hf => ?_)
  · refine r_iconst (v := 0) (pc := 291) X dL_value_291 (by decide) ?_
    exact c_f_L_value_b292 X M Y hr hc hf
  · refine r_aload_n (x := some 0) (pc := 270) X dL_value_270 0 rfl ?_
    refine r_bipush (v := 48) (pc := 271) X dL_value_271 (by decide) ?_
    refine r_iload_n (pc := 273) X dL_value_273 1 rfl ?_
    refine r_bipush (v := 12) (pc := 274) X dL_value_274 (by decide) ?_
    refine r_idiv (pc := 276) X dL_value_276 (by decide) ?_
    refine r_bipush (v := 10) (pc := 277) X dL_value_277 (by decide) ?_
    refine r_irem (pc := 279) X dL_value_279 (by decide) ?_
    refine r_iadd (pc := 280) X dL_value_280 ?_
    refine bnd hf (fun x14 h14 hf => ?_)
    refine ifo hf (fun hz hf => ?_)
    refine y_callXSi (As := [.ref (B + 0), .int ((48 : Int32) + ((l3 / 12) - (l3 / 12) / 10 * 10))]) (st := []) (pc := 281) X M Y hc (c_f_L_says h14 hc.2) rfl w_979 w_980 w_35 w_981 hdS_L_says (by decide) hz (Nat.le_of_ble_eq_true rfl) dL_value_281 rfl (fun hc => ?_)
    refine b_if_eq (tgt := 291) (pc := 284) X dL_value_284 (by decide) hf (fun hf => ?_) (fun hf => ?_)
    · refine r_iconst (v := 0) (pc := 291) X dL_value_291 (by decide) ?_
      exact c_f_L_value_b292 X M Y hr hc hf
    · refine r_iconst (v := 1) (pc := 287) X dL_value_287 (by decide) ?_
      refine r_goto (tgt := 292) (pc := 288) X dL_value_288 (by decide) ?_
      exact c_f_L_value_b292 X M Y hr hc hf
set_option maxHeartbeats 1000000 in
theorem c_f_L_value_b228 {F Z : Nat} {c0 : Nat} {Γ : Ga} {D : DD} {B : Nat} {r : Int64} {s' : St} (X : Cx Γ RL cL_value 10 D B (RMg Z c0 805 16521)) (M : RLe (RMg Z c0 805 16521) Z 0 0 c0 805 16521) (Y : Xy Γ B) (hr : (Gme Γ).sig.returnType = (some .long)) {s : St} {l3 : Int32} {l4 : Int32} {l5 : Int32} {l6 : Int32} {t1 : Int32} (hc : Hc c0 Z s) (hf : f_L_value_b228 F Z s l3 l4 l5 l6 t1 = some (r, s')) : V Γ D B true 10 (QX Γ D B true s' (.inl (some (.long r))) (64 * (ct s' - c0)) (768 * (ct s' - c0))) (kg 0 c0 s) (ng 0 c0 s) s 228 [(0, .ref (B + 0)), (3, .int l3), (4, .int l4), (5, .int l5), (6, .int l6)] [.int t1, .ref (B + 0)] := by
  unfold f_L_value_b228 at hf
  refine bnd hf (fun x12 h12 hf => ?_)
  refine ifo hf (fun hz hf => ?_)
  refine y_callXSi (As := [.ref (B + 0), .int t1]) (st := []) (pc := 228) X M Y hc (c_f_L_says h12 hc.2) rfl w_979 w_980 w_35 w_981 hdS_L_says (by decide) hz (Nat.le_of_ble_eq_true rfl) dL_value_228 rfl (fun hc => ?_)
  refine b_if_eq (tgt := 291) (pc := 231) X dL_value_231 (by decide) hf (fun hf => ?_) (fun hf => ?_)
  · refine r_iconst (v := 0) (pc := 291) X dL_value_291 (by decide) ?_
    exact c_f_L_value_b292 X M Y hr hc hf
  · refine r_aload_n (x := some 0) (pc := 234) X dL_value_234 0 rfl ?_
    refine r_iload_n (pc := 235) X dL_value_235 1 rfl ?_
    refine r_iconst (v := 4) (pc := 236) X dL_value_236 (by decide) ?_
    refine r_idiv (pc := 237) X dL_value_237 (by decide) ?_
    refine r_iconst (v := 3) (pc := 238) X dL_value_238 (by decide) ?_
    refine r_irem (pc := 239) X dL_value_239 (by decide) ?_
    refine b_if_ne (tgt := 248) (pc := 240) X dL_value_240 (by decide) hf (fun hf => ?_) (fun hf => ?_)
    · refine r_bipush (v := 60) (pc := 243) X dL_value_243 (by decide) ?_
      refine r_goto (tgt := 264) (pc := 245) X dL_value_245 (by decide) ?_
      exact c_f_L_value_b264 X M Y hr hc hf
    · refine r_iload_n (pc := 248) X dL_value_248 1 rfl ?_
      refine r_iconst (v := 4) (pc := 249) X dL_value_249 (by decide) ?_
      refine r_idiv (pc := 250) X dL_value_250 (by decide) ?_
      refine r_iconst (v := 3) (pc := 251) X dL_value_251 (by decide) ?_
      refine r_irem (pc := 252) X dL_value_252 (by decide) ?_
      refine r_iconst (v := 1) (pc := 253) X dL_value_253 (by decide) ?_
      refine b_icmp_ne (tgt := 262) (pc := 254) X dL_value_254 (by decide) hf (fun hf => ?_) (fun hf => ?_)
      · refine r_bipush (v := 62) (pc := 257) X dL_value_257 (by decide) ?_
        refine r_goto (tgt := 264) (pc := 259) X dL_value_259 (by decide) ?_
        exact c_f_L_value_b264 X M Y hr hc hf
      · refine r_bipush (v := 61) (pc := 262) X dL_value_262 (by decide) ?_
        exact c_f_L_value_b264 X M Y hr hc hf
set_option maxHeartbeats 1000000 in
theorem c_f_L_value_b183 {F Z : Nat} {c0 : Nat} {Γ : Ga} {D : DD} {B : Nat} {r : Int64} {s' : St} (X : Cx Γ RL cL_value 10 D B (RMg Z c0 805 16521)) (M : RLe (RMg Z c0 805 16521) Z 0 0 c0 805 16521) (Y : Xy Γ B) (hr : (Gme Γ).sig.returnType = (some .long)) {s : St} {l3 : Int32} {l4 : Int32} {l5 : Int32} {l6 : Int32} {t0 : Int32} (hc : Hc c0 Z s) (hf : f_L_value_b183 F Z s l3 l4 l5 l6 t0 = some (r, s')) : V Γ D B true 10 (QX Γ D B true s' (.inl (some (.long r))) (64 * (ct s' - c0)) (768 * (ct s' - c0))) (kg 0 c0 s) (ng 0 c0 s) s 183 [(0, .ref (B + 0)), (3, .int l3), (4, .int l4), (5, .int l5), (6, .int l6)] [.int t0] := by
  unfold f_L_value_b183 at hf
  refine r_istore (pc := 183) (lv' := [(0, .ref (B + 0)), (3, .int l3), (4, .int l4), (5, .int l5), (6, .int l6), (7, .int t0)]) X dL_value_183 (by decide) [1, 2, 3, 4, 5, 0] rfl ?_
  refine r_iload (pc := 185) X dL_value_185 5 rfl ?_
  refine b_if_eq (tgt := 291) (pc := 187) X dL_value_187 (by decide) hf (fun hf => ?_) (fun hf => ?_)
  · refine r_iconst (v := 0) (pc := 291) X dL_value_291 (by decide) ?_
    refine r_forget (lv' := [(0, .ref (B + 0)), (3, .int l3), (4, .int l4), (5, .int l5), (6, .int l6)]) [0, 1, 2, 3, 4] rfl ?_
    exact c_f_L_value_b292 X M Y hr hc hf
  · refine r_aload_n (x := some 0) (pc := 190) X dL_value_190 0 rfl ?_
    refine r_iload_n (pc := 191) X dL_value_191 1 rfl ?_
    refine r_iconst (v := 4) (pc := 192) X dL_value_192 (by decide) ?_
    refine r_irem (pc := 193) X dL_value_193 (by decide) ?_
    refine b_if_ne (tgt := 202) (pc := 194) X dL_value_194 (by decide) hf (fun hf => ?_) (fun hf => ?_)
    · refine r_bipush (v := 112) (pc := 197) X dL_value_197 (by decide) ?_
      refine r_goto (tgt := 228) (pc := 199) X dL_value_199 (by decide) ?_
      refine r_forget (lv' := [(0, .ref (B + 0)), (3, .int l3), (4, .int l4), (5, .int l5), (6, .int l6)]) [0, 1, 2, 3, 4] rfl ?_
      exact c_f_L_value_b228 X M Y hr hc hf
    · refine r_iload_n (pc := 202) X dL_value_202 1 rfl ?_
      refine r_iconst (v := 4) (pc := 203) X dL_value_203 (by decide) ?_
      refine r_irem (pc := 204) X dL_value_204 (by decide) ?_
      refine r_iconst (v := 1) (pc := 205) X dL_value_205 (by decide) ?_
      refine b_icmp_ne (tgt := 214) (pc := 206) X dL_value_206 (by decide) hf (fun hf => ?_) (fun hf => ?_)
      · refine r_bipush (v := 108) (pc := 209) X dL_value_209 (by decide) ?_
        refine r_goto (tgt := 228) (pc := 211) X dL_value_211 (by decide) ?_
        refine r_forget (lv' := [(0, .ref (B + 0)), (3, .int l3), (4, .int l4), (5, .int l5), (6, .int l6)]) [0, 1, 2, 3, 4] rfl ?_
        exact c_f_L_value_b228 X M Y hr hc hf
      · refine r_iload_n (pc := 214) X dL_value_214 1 rfl ?_
        refine r_iconst (v := 4) (pc := 215) X dL_value_215 (by decide) ?_
        refine r_irem (pc := 216) X dL_value_216 (by decide) ?_
        refine r_iconst (v := 2) (pc := 217) X dL_value_217 (by decide) ?_
        refine b_icmp_ne (tgt := 226) (pc := 218) X dL_value_218 (by decide) hf (fun hf => ?_) (fun hf => ?_)
        · refine r_bipush (v := 118) (pc := 221) X dL_value_221 (by decide) ?_
          refine r_goto (tgt := 228) (pc := 223) X dL_value_223 (by decide) ?_
          refine r_forget (lv' := [(0, .ref (B + 0)), (3, .int l3), (4, .int l4), (5, .int l5), (6, .int l6)]) [0, 1, 2, 3, 4] rfl ?_
          exact c_f_L_value_b228 X M Y hr hc hf
        · refine r_bipush (v := 104) (pc := 226) X dL_value_226 (by decide) ?_
          refine r_forget (lv' := [(0, .ref (B + 0)), (3, .int l3), (4, .int l4), (5, .int l5), (6, .int l6)]) [0, 1, 2, 3, 4] rfl ?_
          exact c_f_L_value_b228 X M Y hr hc hf
set_option maxHeartbeats 1000000 in
theorem c_f_L_value_b133 {F Z : Nat} {c0 : Nat} {Γ : Ga} {D : DD} {B : Nat} {r : Int64} {s' : St} (X : Cx Γ RL cL_value 10 D B (RMg Z c0 805 16521)) (M : RLe (RMg Z c0 805 16521) Z 0 0 c0 805 16521) (Y : Xy Γ B) (hr : (Gme Γ).sig.returnType = (some .long)) {s : St} {l3 : Int32} {l4 : Int32} {l5 : Int32} {l6 : Int32} {t0 : Int32} (hc : Hc c0 Z s) (hf : f_L_value_b133 F Z s l3 l4 l5 l6 t0 = some (r, s')) : V Γ D B true 10 (QX Γ D B true s' (.inl (some (.long r))) (64 * (ct s' - c0)) (768 * (ct s' - c0))) (kg 0 c0 s) (ng 0 c0 s) s 133 [(0, .ref (B + 0)), (3, .int l3), (4, .int l4), (5, .int l5), (6, .int l6)] [.int t0] := by
  unfold f_L_value_b133 at hf
  refine r_istore (pc := 133) (lv' := [(0, .ref (B + 0)), (3, .int l3), (4, .int l4), (5, .int l5), (6, .int l6), (7, .int t0)]) X dL_value_133 (by decide) [1, 2, 3, 4, 5, 0] rfl ?_
  refine r_iload (pc := 135) X dL_value_135 2 rfl ?_
  refine b_if_le (tgt := 417) (pc := 137) X dL_value_137 (by decide) hf (fun hf => ?_) (fun hf => ?_)
  · refine r_forget (lv' := [(0, .ref (B + 0)), (3, .int l3), (5, .int l5), (6, .int l6), (7, .int t0)]) [0, 1, 3, 4, 5] rfl ?_
    exact c_f_L_value_b417 X M Y hr hc hf
  · refine r_iload (pc := 140) X dL_value_140 5 rfl ?_
    refine b_if_eq (tgt := 182) (pc := 142) X dL_value_142 (by decide) hf (fun hf => ?_) (fun hf => ?_)
    · refine r_iconst (v := 0) (pc := 182) X dL_value_182 (by decide) ?_
      refine r_forget (lv' := [(0, .ref (B + 0)), (3, .int l3), (4, .int l4), (5, .int l5), (6, .int l6)]) [0, 1, 2, 3, 4] rfl ?_
      exact c_f_L_value_b183 X M Y hr hc hf
    · refine r_aload_n (x := some 0) (pc := 145) X dL_value_145 0 rfl ?_
      refine r_bipush (v := 58) (pc := 146) X dL_value_146 (by decide) ?_
      refine bnd hf (fun x15 h15 hf => ?_)
      refine ifo hf (fun hz hf => ?_)
      refine y_callXSi (As := [.ref (B + 0), .int 58]) (st := []) (pc := 148) X M Y hc (c_f_L_says h15 hc.2) rfl w_979 w_980 w_35 w_981 hdS_L_says (by decide) hz (Nat.le_of_ble_eq_true rfl) dL_value_148 rfl (fun hc => ?_)
      refine b_if_eq (tgt := 182) (pc := 151) X dL_value_151 (by decide) hf (fun hf => ?_) (fun hf => ?_)
      · refine r_iconst (v := 0) (pc := 182) X dL_value_182 (by decide) ?_
        refine r_forget (lv' := [(0, .ref (B + 0)), (3, .int l3), (4, .int l4), (5, .int l5), (6, .int l6)]) [0, 1, 2, 3, 4] rfl ?_
        exact c_f_L_value_b183 X M Y hr hc hf
      · refine r_iload (pc := 154) X dL_value_154 2 rfl ?_
        refine r_iconst (v := 2) (pc := 156) X dL_value_156 (by decide) ?_
        refine b_icmp_lt (tgt := 178) (pc := 157) X dL_value_157 (by decide) hf (fun hf => ?_) (fun hf => ?_)
        · refine r_iconst (v := 1) (pc := 178) X dL_value_178 (by decide) ?_
          refine r_goto (tgt := 183) (pc := 179) X dL_value_179 (by decide) ?_
          refine r_forget (lv' := [(0, .ref (B + 0)), (3, .int l3), (4, .int l4), (5, .int l5), (6, .int l6)]) [0, 1, 2, 3, 4] rfl ?_
          exact c_f_L_value_b183 X M Y hr hc hf
        · refine r_aload_n (x := some 0) (pc := 160) X dL_value_160 0 rfl ?_
          refine r_bipush (v := 33) (pc := 161) X dL_value_161 (by decide) ?_
          refine bnd hf (fun x16 h16 hf => ?_)
          refine ifo hf (fun hz hf => ?_)
          refine y_callXSi (As := [.ref (B + 0), .int 33]) (st := []) (pc := 163) X M Y hc (c_f_L_says h16 hc.2) rfl w_979 w_980 w_35 w_981 hdS_L_says (by decide) hz (Nat.le_of_ble_eq_true rfl) dL_value_163 rfl (fun hc => ?_)
          refine b_if_eq (tgt := 182) (pc := 166) X dL_value_166 (by decide) hf (fun hf => ?_) (fun hf => ?_)
          · refine r_iconst (v := 0) (pc := 182) X dL_value_182 (by decide) ?_
            refine r_forget (lv' := [(0, .ref (B + 0)), (3, .int l3), (4, .int l4), (5, .int l5), (6, .int l6)]) [0, 1, 2, 3, 4] rfl ?_
            exact c_f_L_value_b183 X M Y hr hc hf
          · refine r_aload_n (x := some 0) (pc := 169) X dL_value_169 0 rfl ?_
            refine r_bipush (v := 40) (pc := 170) X dL_value_170 (by decide) ?_
            refine bnd hf (fun x17 h17 hf => ?_)
            refine ifo hf (fun hz hf => ?_)
            refine y_callXSi (As := [.ref (B + 0), .int 40]) (st := []) (pc := 172) X M Y hc (c_f_L_says h17 hc.2) rfl w_979 w_980 w_35 w_981 hdS_L_says (by decide) hz (Nat.le_of_ble_eq_true rfl) dL_value_172 rfl (fun hc => ?_)
            refine b_if_eq (tgt := 182) (pc := 175) X dL_value_175 (by decide) hf (fun hf => ?_) (fun hf => ?_)
            · refine r_iconst (v := 0) (pc := 182) X dL_value_182 (by decide) ?_
              refine r_forget (lv' := [(0, .ref (B + 0)), (3, .int l3), (4, .int l4), (5, .int l5), (6, .int l6)]) [0, 1, 2, 3, 4] rfl ?_
              exact c_f_L_value_b183 X M Y hr hc hf
            · refine r_iconst (v := 1) (pc := 178) X dL_value_178 (by decide) ?_
              refine r_goto (tgt := 183) (pc := 179) X dL_value_179 (by decide) ?_
              refine r_forget (lv' := [(0, .ref (B + 0)), (3, .int l3), (4, .int l4), (5, .int l5), (6, .int l6)]) [0, 1, 2, 3, 4] rfl ?_
              exact c_f_L_value_b183 X M Y hr hc hf
set_option maxHeartbeats 1000000 in
theorem c_f_L_value_b79 {F Z : Nat} {c0 : Nat} {Γ : Ga} {D : DD} {B : Nat} {r : Int64} {s' : St} (X : Cx Γ RL cL_value 10 D B (RMg Z c0 805 16521)) (M : RLe (RMg Z c0 805 16521) Z 0 0 c0 805 16521) (Y : Xy Γ B) (hr : (Gme Γ).sig.returnType = (some .long)) {s : St} {l1 : Int32} {l2 : Int32} {l3 : Int32} {l4 : Int32} {l5 : Int32} {l6 : Int32} {t0 : Int32} (hc : Hc c0 Z s) (hf : f_L_value_b79 F Z s l1 l2 l3 l4 l5 l6 t0 = some (r, s')) : V Γ D B true 10 (QX Γ D B true s' (.inl (some (.long r))) (64 * (ct s' - c0)) (768 * (ct s' - c0))) (kg 0 c0 s) (ng 0 c0 s) s 79 [(0, .ref (B + 0)), (1, .int l1), (2, .int l2), (3, .int l3), (4, .int l4), (5, .int l5), (6, .int l6)] [.int t0] := by
  unfold f_L_value_b79 at hf
  refine r_istore (pc := 79) (lv' := [(0, .ref (B + 0)), (1, .int l1), (2, .int l2), (3, .int l3), (4, .int l4), (5, .int l5), (6, .int l6), (7, .int t0)]) X dL_value_79 (by decide) [1, 2, 3, 4, 5, 6, 7, 0] rfl ?_
  refine r_iload (pc := 81) X dL_value_81 7 rfl ?_
  refine b_if_eq (tgt := 132) (pc := 83) X dL_value_83 (by decide) hf (fun hf => ?_) (fun hf => ?_)
  · refine r_iconst (v := 0) (pc := 132) X dL_value_132 (by decide) ?_
    refine r_forget (lv' := [(0, .ref (B + 0)), (3, .int l3), (4, .int l4), (5, .int l5), (6, .int l6)]) [0, 3, 4, 5, 6] rfl ?_
    exact c_f_L_value_b133 X M Y hr hc hf
  · refine r_iload_n (pc := 86) X dL_value_86 1 rfl ?_
    refine b_if_eq (tgt := 128) (pc := 87) X dL_value_87 (by decide) hf (fun hf => ?_) (fun hf => ?_)
    · refine r_iconst (v := 1) (pc := 128) X dL_value_128 (by decide) ?_
      refine r_goto (tgt := 133) (pc := 129) X dL_value_129 (by decide) ?_
      refine r_forget (lv' := [(0, .ref (B + 0)), (3, .int l3), (4, .int l4), (5, .int l5), (6, .int l6)]) [0, 3, 4, 5, 6] rfl ?_
      exact c_f_L_value_b133 X M Y hr hc hf
    · refine r_aload_n (x := some 0) (pc := 90) X dL_value_90 0 rfl ?_
      refine r_iload_n (pc := 91) X dL_value_91 2 rfl ?_
      refine b_if_ne (tgt := 100) (pc := 92) X dL_value_92 (by decide) hf (fun hf => ?_) (fun hf => ?_)
      · refine r_bipush (v := 112) (pc := 95) X dL_value_95 (by decide) ?_
        refine r_goto (tgt := 122) (pc := 97) X dL_value_97 (by decide) ?_
        refine bnd hf (fun x18 h18 hf => ?_)
        refine ifo hf (fun hz hf => ?_)
        refine y_callXSi (As := [.ref (B + 0), .int 112]) (st := []) (pc := 122) X M Y hc (c_f_L_says h18 hc.2) rfl w_979 w_980 w_35 w_981 hdS_L_says (by decide) hz (Nat.le_of_ble_eq_true rfl) dL_value_122 rfl (fun hc => ?_)
        refine b_if_eq (tgt := 132) (pc := 125) X dL_value_125 (by decide) hf (fun hf => ?_) (fun hf => ?_)
        · refine r_iconst (v := 0) (pc := 132) X dL_value_132 (by decide) ?_
          refine r_forget (lv' := [(0, .ref (B + 0)), (3, .int l3), (4, .int l4), (5, .int l5), (6, .int l6)]) [0, 3, 4, 5, 6] rfl ?_
          exact c_f_L_value_b133 X M Y hr hc hf
        · refine r_iconst (v := 1) (pc := 128) X dL_value_128 (by decide) ?_
          refine r_goto (tgt := 133) (pc := 129) X dL_value_129 (by decide) ?_
          refine r_forget (lv' := [(0, .ref (B + 0)), (3, .int l3), (4, .int l4), (5, .int l5), (6, .int l6)]) [0, 3, 4, 5, 6] rfl ?_
          exact c_f_L_value_b133 X M Y hr hc hf
      · refine r_iload_n (pc := 100) X dL_value_100 2 rfl ?_
        refine r_iconst (v := 1) (pc := 101) X dL_value_101 (by decide) ?_
        refine b_icmp_ne (tgt := 110) (pc := 102) X dL_value_102 (by decide) hf (fun hf => ?_) (fun hf => ?_)
        · refine r_bipush (v := 108) (pc := 105) X dL_value_105 (by decide) ?_
          refine r_goto (tgt := 122) (pc := 107) X dL_value_107 (by decide) ?_
          refine bnd hf (fun x19 h19 hf => ?_)
          refine ifo hf (fun hz hf => ?_)
          refine y_callXSi (As := [.ref (B + 0), .int 108]) (st := []) (pc := 122) X M Y hc (c_f_L_says h19 hc.2) rfl w_979 w_980 w_35 w_981 hdS_L_says (by decide) hz (Nat.le_of_ble_eq_true rfl) dL_value_122 rfl (fun hc => ?_)
          refine b_if_eq (tgt := 132) (pc := 125) X dL_value_125 (by decide) hf (fun hf => ?_) (fun hf => ?_)
          · refine r_iconst (v := 0) (pc := 132) X dL_value_132 (by decide) ?_
            refine r_forget (lv' := [(0, .ref (B + 0)), (3, .int l3), (4, .int l4), (5, .int l5), (6, .int l6)]) [0, 3, 4, 5, 6] rfl ?_
            exact c_f_L_value_b133 X M Y hr hc hf
          · refine r_iconst (v := 1) (pc := 128) X dL_value_128 (by decide) ?_
            refine r_goto (tgt := 133) (pc := 129) X dL_value_129 (by decide) ?_
            refine r_forget (lv' := [(0, .ref (B + 0)), (3, .int l3), (4, .int l4), (5, .int l5), (6, .int l6)]) [0, 3, 4, 5, 6] rfl ?_
            exact c_f_L_value_b133 X M Y hr hc hf
        · refine r_iload_n (pc := 110) X dL_value_110 2 rfl ?_
          refine r_iconst (v := 2) (pc := 111) X dL_value_111 (by decide) ?_
          refine b_icmp_ne (tgt := 120) (pc := 112) X dL_value_112 (by decide) hf (fun hf => ?_) (fun hf => ?_)
          · refine r_bipush (v := 118) (pc := 115) X dL_value_115 (by decide) ?_
            refine r_goto (tgt := 122) (pc := 117) X dL_value_117 (by decide) ?_
            refine bnd hf (fun x20 h20 hf => ?_)
            refine ifo hf (fun hz hf => ?_)
            refine y_callXSi (As := [.ref (B + 0), .int 118]) (st := []) (pc := 122) X M Y hc (c_f_L_says h20 hc.2) rfl w_979 w_980 w_35 w_981 hdS_L_says (by decide) hz (Nat.le_of_ble_eq_true rfl) dL_value_122 rfl (fun hc => ?_)
            refine b_if_eq (tgt := 132) (pc := 125) X dL_value_125 (by decide) hf (fun hf => ?_) (fun hf => ?_)
            · refine r_iconst (v := 0) (pc := 132) X dL_value_132 (by decide) ?_
              refine r_forget (lv' := [(0, .ref (B + 0)), (3, .int l3), (4, .int l4), (5, .int l5), (6, .int l6)]) [0, 3, 4, 5, 6] rfl ?_
              exact c_f_L_value_b133 X M Y hr hc hf
            · refine r_iconst (v := 1) (pc := 128) X dL_value_128 (by decide) ?_
              refine r_goto (tgt := 133) (pc := 129) X dL_value_129 (by decide) ?_
              refine r_forget (lv' := [(0, .ref (B + 0)), (3, .int l3), (4, .int l4), (5, .int l5), (6, .int l6)]) [0, 3, 4, 5, 6] rfl ?_
              exact c_f_L_value_b133 X M Y hr hc hf
          · refine r_bipush (v := 104) (pc := 120) X dL_value_120 (by decide) ?_
            refine bnd hf (fun x21 h21 hf => ?_)
            refine ifo hf (fun hz hf => ?_)
            refine y_callXSi (As := [.ref (B + 0), .int 104]) (st := []) (pc := 122) X M Y hc (c_f_L_says h21 hc.2) rfl w_979 w_980 w_35 w_981 hdS_L_says (by decide) hz (Nat.le_of_ble_eq_true rfl) dL_value_122 rfl (fun hc => ?_)
            refine b_if_eq (tgt := 132) (pc := 125) X dL_value_125 (by decide) hf (fun hf => ?_) (fun hf => ?_)
            · refine r_iconst (v := 0) (pc := 132) X dL_value_132 (by decide) ?_
              refine r_forget (lv' := [(0, .ref (B + 0)), (3, .int l3), (4, .int l4), (5, .int l5), (6, .int l6)]) [0, 3, 4, 5, 6] rfl ?_
              exact c_f_L_value_b133 X M Y hr hc hf
            · refine r_iconst (v := 1) (pc := 128) X dL_value_128 (by decide) ?_
              refine r_goto (tgt := 133) (pc := 129) X dL_value_129 (by decide) ?_
              refine r_forget (lv' := [(0, .ref (B + 0)), (3, .int l3), (4, .int l4), (5, .int l5), (6, .int l6)]) [0, 3, 4, 5, 6] rfl ?_
              exact c_f_L_value_b133 X M Y hr hc hf
set_option maxHeartbeats 1000000 in
theorem c_f_L_value {F Z : Nat} {s : St} {p1 : Int32} {p2 : Int32} {p3 : Int32} {p4 : Int32} {p5 : Int32} {p6 : Int32} {r : Int64} {s' : St} (hf : f_L_value F Z s p1 p2 p3 p4 p5 p6 = some (r, s')) (hz : ct s ≤ Z) : CX true yL_value (Cond.code yL_value cL_value 10 (some .long)) 805 16521 (64 * (Z - ct s)) (768 * (Z - ct s)) (fun B => [.ref (B + 0), .int p1, .int p2, .int p3, .int p4, .int p5, .int p6]) s (fun B => .inl (some (.long r))) s' (64 * (ct s' - ct s)) (768 * (ct s' - ct s)) := by
  refine CX.ofL (fun B => [(0, .ref (B + 0)), (1, .int p1), (2, .int p2), (3, .int p3), (4, .int p4), (5, .int p5), (6, .int p6)]) (by decide +kernel) (fun _ => rfl) (fun _ => (by simp [lg_sl, rfB_cat, catI, catL, catR])) (fun Γ D B X Y hr => ?_)
  have X : Cx Γ RL cL_value 10 D B (RMg Z (ct s) 805 16521) := X
  have M : RLe (RMg Z (ct s) 805 16521) Z 0 0 (ct s) 805 16521 := RLe.rf
  have hc : Hc (ct s) Z s := ⟨Nat.le_refl _, hz⟩
  unfold f_L_value at hf
  refine r_aload_n (x := some 0) (pc := 0) X dL_value_0 0 rfl ?_
  refine bnd hf (fun x1 h1 hf => ?_)
  refine y_callVi (As := []) (st := []) (pc := 1) X M hc (c_f_P_clearText h1) rfl w_869 w_870 w_871 w_36 w_872 hdV_X10_clearText (Rc.s rfl ce_0) (by decide) (Nat.le_of_ble_eq_true rfl) dL_value_1 rfl hf (fun s2 hc hf => ?_)
  refine b_if_lt (tgt := 78) (pc := 4) X dL_value_4 (by decide) hf (fun hf => ?_) (fun hf => ?_)
  · refine r_iconst (v := 0) (pc := 78) X dL_value_78 (by decide) ?_
    exact c_f_L_value_b79 X M Y hr hc hf
  · refine r_aload_n (x := some 0) (pc := 7) X dL_value_7 0 rfl ?_
    refine r_iload_n (pc := 8) X dL_value_8 1 rfl ?_
    refine b_if_ne (tgt := 17) (pc := 9) X dL_value_9 (by decide) hf (fun hf => ?_) (fun hf => ?_)
    · refine r_bipush (v := 110) (pc := 12) X dL_value_12 (by decide) ?_
      refine r_goto (tgt := 59) (pc := 14) X dL_value_14 (by decide) ?_
      refine bnd hf (fun x22 h22 hf => ?_)
      refine ifo hf (fun hz hf => ?_)
      refine y_callXSi (As := [.ref (B + 0), .int 110]) (st := []) (pc := 59) X M Y hc (c_f_L_says h22 hc.2) rfl w_979 w_980 w_35 w_981 hdS_L_says (by decide) hz (Nat.le_of_ble_eq_true rfl) dL_value_59 rfl (fun hc => ?_)
      refine b_if_eq (tgt := 78) (pc := 62) X dL_value_62 (by decide) hf (fun hf => ?_) (fun hf => ?_)
      · refine r_iconst (v := 0) (pc := 78) X dL_value_78 (by decide) ?_
        exact c_f_L_value_b79 X M Y hr hc hf
      · refine r_aload_n (x := some 0) (pc := 65) X dL_value_65 0 rfl ?_
        refine r_bipush (v := 40) (pc := 66) X dL_value_66 (by decide) ?_
        refine bnd hf (fun x23 h23 hf => ?_)
        refine ifo hf (fun hz hf => ?_)
        refine y_callXSi (As := [.ref (B + 0), .int 40]) (st := []) (pc := 68) X M Y hc (c_f_L_says h23 hc.2) rfl w_979 w_980 w_35 w_981 hdS_L_says (by decide) hz (Nat.le_of_ble_eq_true rfl) dL_value_68 rfl (fun hc => ?_)
        refine b_if_eq (tgt := 78) (pc := 71) X dL_value_71 (by decide) hf (fun hf => ?_) (fun hf => ?_)
        · refine r_iconst (v := 0) (pc := 78) X dL_value_78 (by decide) ?_
          exact c_f_L_value_b79 X M Y hr hc hf
        · refine r_iconst (v := 1) (pc := 74) X dL_value_74 (by decide) ?_
          refine r_goto (tgt := 79) (pc := 75) X dL_value_75 (by decide) ?_
          exact c_f_L_value_b79 X M Y hr hc hf
    · refine r_iload_n (pc := 17) X dL_value_17 1 rfl ?_
      refine r_iconst (v := 1) (pc := 18) X dL_value_18 (by decide) ?_
      refine b_icmp_ne (tgt := 27) (pc := 19) X dL_value_19 (by decide) hf (fun hf => ?_) (fun hf => ?_)
      · refine r_bipush (v := 115) (pc := 22) X dL_value_22 (by decide) ?_
        refine r_goto (tgt := 59) (pc := 24) X dL_value_24 (by decide) ?_
        refine bnd hf (fun x24 h24 hf => ?_)
        refine ifo hf (fun hz hf => ?_)
        refine y_callXSi (As := [.ref (B + 0), .int 115]) (st := []) (pc := 59) X M Y hc (c_f_L_says h24 hc.2) rfl w_979 w_980 w_35 w_981 hdS_L_says (by decide) hz (Nat.le_of_ble_eq_true rfl) dL_value_59 rfl (fun hc => ?_)
        refine b_if_eq (tgt := 78) (pc := 62) X dL_value_62 (by decide) hf (fun hf => ?_) (fun hf => ?_)
        · refine r_iconst (v := 0) (pc := 78) X dL_value_78 (by decide) ?_
          exact c_f_L_value_b79 X M Y hr hc hf
        · refine r_aload_n (x := some 0) (pc := 65) X dL_value_65 0 rfl ?_
          refine r_bipush (v := 40) (pc := 66) X dL_value_66 (by decide) ?_
          refine bnd hf (fun x25 h25 hf => ?_)
          refine ifo hf (fun hz hf => ?_)
          refine y_callXSi (As := [.ref (B + 0), .int 40]) (st := []) (pc := 68) X M Y hc (c_f_L_says h25 hc.2) rfl w_979 w_980 w_35 w_981 hdS_L_says (by decide) hz (Nat.le_of_ble_eq_true rfl) dL_value_68 rfl (fun hc => ?_)
          refine b_if_eq (tgt := 78) (pc := 71) X dL_value_71 (by decide) hf (fun hf => ?_) (fun hf => ?_)
          · refine r_iconst (v := 0) (pc := 78) X dL_value_78 (by decide) ?_
            exact c_f_L_value_b79 X M Y hr hc hf
          · refine r_iconst (v := 1) (pc := 74) X dL_value_74 (by decide) ?_
            refine r_goto (tgt := 79) (pc := 75) X dL_value_75 (by decide) ?_
            exact c_f_L_value_b79 X M Y hr hc hf
      · refine r_iload_n (pc := 27) X dL_value_27 1 rfl ?_
        refine r_iconst (v := 2) (pc := 28) X dL_value_28 (by decide) ?_
        refine b_icmp_ne (tgt := 37) (pc := 29) X dL_value_29 (by decide) hf (fun hf => ?_) (fun hf => ?_)
        · refine r_bipush (v := 109) (pc := 32) X dL_value_32 (by decide) ?_
          refine r_goto (tgt := 59) (pc := 34) X dL_value_34 (by decide) ?_
          refine bnd hf (fun x26 h26 hf => ?_)
          refine ifo hf (fun hz hf => ?_)
          refine y_callXSi (As := [.ref (B + 0), .int 109]) (st := []) (pc := 59) X M Y hc (c_f_L_says h26 hc.2) rfl w_979 w_980 w_35 w_981 hdS_L_says (by decide) hz (Nat.le_of_ble_eq_true rfl) dL_value_59 rfl (fun hc => ?_)
          refine b_if_eq (tgt := 78) (pc := 62) X dL_value_62 (by decide) hf (fun hf => ?_) (fun hf => ?_)
          · refine r_iconst (v := 0) (pc := 78) X dL_value_78 (by decide) ?_
            exact c_f_L_value_b79 X M Y hr hc hf
          · refine r_aload_n (x := some 0) (pc := 65) X dL_value_65 0 rfl ?_
            refine r_bipush (v := 40) (pc := 66) X dL_value_66 (by decide) ?_
            refine bnd hf (fun x27 h27 hf => ?_)
            refine ifo hf (fun hz hf => ?_)
            refine y_callXSi (As := [.ref (B + 0), .int 40]) (st := []) (pc := 68) X M Y hc (c_f_L_says h27 hc.2) rfl w_979 w_980 w_35 w_981 hdS_L_says (by decide) hz (Nat.le_of_ble_eq_true rfl) dL_value_68 rfl (fun hc => ?_)
            refine b_if_eq (tgt := 78) (pc := 71) X dL_value_71 (by decide) hf (fun hf => ?_) (fun hf => ?_)
            · refine r_iconst (v := 0) (pc := 78) X dL_value_78 (by decide) ?_
              exact c_f_L_value_b79 X M Y hr hc hf
            · refine r_iconst (v := 1) (pc := 74) X dL_value_74 (by decide) ?_
              refine r_goto (tgt := 79) (pc := 75) X dL_value_75 (by decide) ?_
              exact c_f_L_value_b79 X M Y hr hc hf
        · refine r_iload_n (pc := 37) X dL_value_37 1 rfl ?_
          refine r_iconst (v := 3) (pc := 38) X dL_value_38 (by decide) ?_
          refine b_icmp_ne (tgt := 47) (pc := 39) X dL_value_39 (by decide) hf (fun hf => ?_) (fun hf => ?_)
          · refine r_bipush (v := 120) (pc := 42) X dL_value_42 (by decide) ?_
            refine r_goto (tgt := 59) (pc := 44) X dL_value_44 (by decide) ?_
            refine bnd hf (fun x28 h28 hf => ?_)
            refine ifo hf (fun hz hf => ?_)
            refine y_callXSi (As := [.ref (B + 0), .int 120]) (st := []) (pc := 59) X M Y hc (c_f_L_says h28 hc.2) rfl w_979 w_980 w_35 w_981 hdS_L_says (by decide) hz (Nat.le_of_ble_eq_true rfl) dL_value_59 rfl (fun hc => ?_)
            refine b_if_eq (tgt := 78) (pc := 62) X dL_value_62 (by decide) hf (fun hf => ?_) (fun hf => ?_)
            · refine r_iconst (v := 0) (pc := 78) X dL_value_78 (by decide) ?_
              exact c_f_L_value_b79 X M Y hr hc hf
            · refine r_aload_n (x := some 0) (pc := 65) X dL_value_65 0 rfl ?_
              refine r_bipush (v := 40) (pc := 66) X dL_value_66 (by decide) ?_
              refine bnd hf (fun x29 h29 hf => ?_)
              refine ifo hf (fun hz hf => ?_)
              refine y_callXSi (As := [.ref (B + 0), .int 40]) (st := []) (pc := 68) X M Y hc (c_f_L_says h29 hc.2) rfl w_979 w_980 w_35 w_981 hdS_L_says (by decide) hz (Nat.le_of_ble_eq_true rfl) dL_value_68 rfl (fun hc => ?_)
              refine b_if_eq (tgt := 78) (pc := 71) X dL_value_71 (by decide) hf (fun hf => ?_) (fun hf => ?_)
              · refine r_iconst (v := 0) (pc := 78) X dL_value_78 (by decide) ?_
                exact c_f_L_value_b79 X M Y hr hc hf
              · refine r_iconst (v := 1) (pc := 74) X dL_value_74 (by decide) ?_
                refine r_goto (tgt := 79) (pc := 75) X dL_value_75 (by decide) ?_
                exact c_f_L_value_b79 X M Y hr hc hf
          · refine r_iload_n (pc := 47) X dL_value_47 1 rfl ?_
            refine r_iconst (v := 4) (pc := 48) X dL_value_48 (by decide) ?_
            refine b_icmp_ne (tgt := 57) (pc := 49) X dL_value_49 (by decide) hf (fun hf => ?_) (fun hf => ?_)
            · refine r_bipush (v := 100) (pc := 52) X dL_value_52 (by decide) ?_
              refine r_goto (tgt := 59) (pc := 54) X dL_value_54 (by decide) ?_
              refine bnd hf (fun x30 h30 hf => ?_)
              refine ifo hf (fun hz hf => ?_)
              refine y_callXSi (As := [.ref (B + 0), .int 100]) (st := []) (pc := 59) X M Y hc (c_f_L_says h30 hc.2) rfl w_979 w_980 w_35 w_981 hdS_L_says (by decide) hz (Nat.le_of_ble_eq_true rfl) dL_value_59 rfl (fun hc => ?_)
              refine b_if_eq (tgt := 78) (pc := 62) X dL_value_62 (by decide) hf (fun hf => ?_) (fun hf => ?_)
              · refine r_iconst (v := 0) (pc := 78) X dL_value_78 (by decide) ?_
                exact c_f_L_value_b79 X M Y hr hc hf
              · refine r_aload_n (x := some 0) (pc := 65) X dL_value_65 0 rfl ?_
                refine r_bipush (v := 40) (pc := 66) X dL_value_66 (by decide) ?_
                refine bnd hf (fun x31 h31 hf => ?_)
                refine ifo hf (fun hz hf => ?_)
                refine y_callXSi (As := [.ref (B + 0), .int 40]) (st := []) (pc := 68) X M Y hc (c_f_L_says h31 hc.2) rfl w_979 w_980 w_35 w_981 hdS_L_says (by decide) hz (Nat.le_of_ble_eq_true rfl) dL_value_68 rfl (fun hc => ?_)
                refine b_if_eq (tgt := 78) (pc := 71) X dL_value_71 (by decide) hf (fun hf => ?_) (fun hf => ?_)
                · refine r_iconst (v := 0) (pc := 78) X dL_value_78 (by decide) ?_
                  exact c_f_L_value_b79 X M Y hr hc hf
                · refine r_iconst (v := 1) (pc := 74) X dL_value_74 (by decide) ?_
                  refine r_goto (tgt := 79) (pc := 75) X dL_value_75 (by decide) ?_
                  exact c_f_L_value_b79 X M Y hr hc hf
            · refine r_bipush (v := 116) (pc := 57) X dL_value_57 (by decide) ?_
              refine bnd hf (fun x32 h32 hf => ?_)
              refine ifo hf (fun hz hf => ?_)
              refine y_callXSi (As := [.ref (B + 0), .int 116]) (st := []) (pc := 59) X M Y hc (c_f_L_says h32 hc.2) rfl w_979 w_980 w_35 w_981 hdS_L_says (by decide) hz (Nat.le_of_ble_eq_true rfl) dL_value_59 rfl (fun hc => ?_)
              refine b_if_eq (tgt := 78) (pc := 62) X dL_value_62 (by decide) hf (fun hf => ?_) (fun hf => ?_)
              · refine r_iconst (v := 0) (pc := 78) X dL_value_78 (by decide) ?_
                exact c_f_L_value_b79 X M Y hr hc hf
              · refine r_aload_n (x := some 0) (pc := 65) X dL_value_65 0 rfl ?_
                refine r_bipush (v := 40) (pc := 66) X dL_value_66 (by decide) ?_
                refine bnd hf (fun x33 h33 hf => ?_)
                refine ifo hf (fun hz hf => ?_)
                refine y_callXSi (As := [.ref (B + 0), .int 40]) (st := []) (pc := 68) X M Y hc (c_f_L_says h33 hc.2) rfl w_979 w_980 w_35 w_981 hdS_L_says (by decide) hz (Nat.le_of_ble_eq_true rfl) dL_value_68 rfl (fun hc => ?_)
                refine b_if_eq (tgt := 78) (pc := 71) X dL_value_71 (by decide) hf (fun hf => ?_) (fun hf => ?_)
                · refine r_iconst (v := 0) (pc := 78) X dL_value_78 (by decide) ?_
                  exact c_f_L_value_b79 X M Y hr hc hf
                · refine r_iconst (v := 1) (pc := 74) X dL_value_74 (by decide) ?_
                  refine r_goto (tgt := 79) (pc := 75) X dL_value_75 (by decide) ?_
                  exact c_f_L_value_b79 X M Y hr hc hf
/-! f_L_areValues -/
theorem dL_areValues_0 : decode cL_areValues 0 = .ok (.iload_n 3, 1) := by decide +kernel
theorem dL_areValues_1 : decode cL_areValues 1 = .ok (.aload_n 0, 1) := by decide +kernel
theorem dL_areValues_2 : decode cL_areValues 2 = .ok (.invokevirtual 103, 3) := by decide +kernel
theorem dL_areValues_5 : decode cL_areValues 5 = .ok (.iconst 1, 1) := by decide +kernel
theorem dL_areValues_6 : decode cL_areValues 6 = .ok (.iadd, 1) := by decide +kernel
theorem dL_areValues_7 : decode cL_areValues 7 = .ok (.irem, 1) := by decide +kernel
theorem dL_areValues_8 : decode cL_areValues 8 = .ok (.istore 4, 2) := by decide +kernel
theorem dL_areValues_10 : decode cL_areValues 10 = .ok (.aload_n 0, 1) := by decide +kernel
theorem dL_areValues_11 : decode cL_areValues 11 = .ok (.invokevirtual 103, 3) := by decide +kernel
theorem dL_areValues_14 : decode cL_areValues 14 = .ok (.iload_n 3, 1) := by decide +kernel
theorem dL_areValues_15 : decode cL_areValues 15 = .ok (.bipush 11, 2) := by decide +kernel
theorem dL_areValues_17 : decode cL_areValues 17 = .ok (.idiv, 1) := by decide +kernel
theorem dL_areValues_18 : decode cL_areValues 18 = .ok (.aload_n 0, 1) := by decide +kernel
theorem dL_areValues_19 : decode cL_areValues 19 = .ok (.invokevirtual 103, 3) := by decide +kernel
theorem dL_areValues_22 : decode cL_areValues 22 = .ok (.iload 4, 2) := by decide +kernel
theorem dL_areValues_24 : decode cL_areValues 24 = .ok (.isub, 1) := by decide +kernel
theorem dL_areValues_25 : decode cL_areValues 25 = .ok (.iconst 1, 1) := by decide +kernel
theorem dL_areValues_26 : decode cL_areValues 26 = .ok (.iadd, 1) := by decide +kernel
theorem dL_areValues_27 : decode cL_areValues 27 = .ok (.irem, 1) := by decide +kernel
theorem dL_areValues_28 : decode cL_areValues 28 = .ok (.isub, 1) := by decide +kernel
theorem dL_areValues_29 : decode cL_areValues 29 = .ok (.istore 5, 2) := by decide +kernel
theorem dL_areValues_31 : decode cL_areValues 31 = .ok (.iload_n 3, 1) := by decide +kernel
theorem dL_areValues_32 : decode cL_areValues 32 = .ok (.iconst 3, 1) := by decide +kernel
theorem dL_areValues_33 : decode cL_areValues 33 = .ok (.idiv, 1) := by decide +kernel
theorem dL_areValues_34 : decode cL_areValues 34 = .ok (.iconst 4, 1) := by decide +kernel
theorem dL_areValues_35 : decode cL_areValues 35 = .ok (.irem, 1) := by decide +kernel
theorem dL_areValues_36 : decode cL_areValues 36 = .ok (.istore 6, 2) := by decide +kernel
theorem dL_areValues_38 : decode cL_areValues 38 = .ok (.iconst 0, 1) := by decide +kernel
theorem dL_areValues_39 : decode cL_areValues 39 = .ok (.istore 7, 2) := by decide +kernel
theorem dL_areValues_41 : decode cL_areValues 41 = .ok (.iconst 0, 1) := by decide +kernel
theorem dL_areValues_42 : decode cL_areValues 42 = .ok (.istore 8, 2) := by decide +kernel
theorem dL_areValues_44 : decode cL_areValues 44 = .ok (.iload 8, 2) := by decide +kernel
theorem dL_areValues_46 : decode cL_areValues 46 = .ok (.aload_n 2, 1) := by decide +kernel
theorem dL_areValues_47 : decode cL_areValues 47 = .ok (.iconst 2, 1) := by decide +kernel
theorem dL_areValues_48 : decode cL_areValues 48 = .ok (.iaload, 1) := by decide +kernel
theorem dL_areValues_49 : decode cL_areValues 49 = .ok (.if_icmp .ge 37, 3) := by decide +kernel
theorem dL_areValues_52 : decode cL_areValues 52 = .ok (.iload 7, 2) := by decide +kernel
theorem dL_areValues_54 : decode cL_areValues 54 = .ok (.aload_n 1, 1) := by decide +kernel
theorem dL_areValues_55 : decode cL_areValues 55 = .ok (.iload 8, 2) := by decide +kernel
theorem dL_areValues_57 : decode cL_areValues 57 = .ok (.iaload, 1) := by decide +kernel
theorem dL_areValues_58 : decode cL_areValues 58 = .ok (.iload 4, 2) := by decide +kernel
theorem dL_areValues_60 : decode cL_areValues 60 = .ok (.if_icmp .lt 16, 3) := by decide +kernel
theorem dL_areValues_63 : decode cL_areValues 63 = .ok (.aload_n 1, 1) := by decide +kernel
theorem dL_areValues_64 : decode cL_areValues 64 = .ok (.iload 8, 2) := by decide +kernel
theorem dL_areValues_66 : decode cL_areValues 66 = .ok (.iaload, 1) := by decide +kernel
theorem dL_areValues_67 : decode cL_areValues 67 = .ok (.iload 5, 2) := by decide +kernel
theorem dL_areValues_69 : decode cL_areValues 69 = .ok (.if_icmp .gt 7, 3) := by decide +kernel
theorem dL_areValues_72 : decode cL_areValues 72 = .ok (.iconst 1, 1) := by decide +kernel
theorem dL_areValues_73 : decode cL_areValues 73 = .ok (.goto 4, 3) := by decide +kernel
theorem dL_areValues_76 : decode cL_areValues 76 = .ok (.iconst 0, 1) := by decide +kernel
theorem dL_areValues_77 : decode cL_areValues 77 = .ok (.iadd, 1) := by decide +kernel
theorem dL_areValues_78 : decode cL_areValues 78 = .ok (.istore 7, 2) := by decide +kernel
theorem dL_areValues_80 : decode cL_areValues 80 = .ok (.iinc 8 1, 3) := by decide +kernel
theorem dL_areValues_83 : decode cL_areValues 83 = .ok (.goto (-39), 3) := by decide +kernel
theorem dL_areValues_86 : decode cL_areValues 86 = .ok (.aload_n 0, 1) := by decide +kernel
theorem dL_areValues_87 : decode cL_areValues 87 = .ok (.iconst 0, 1) := by decide +kernel
theorem dL_areValues_88 : decode cL_areValues 88 = .ok (.iconst 0, 1) := by decide +kernel
theorem dL_areValues_89 : decode cL_areValues 89 = .ok (.iload_n 3, 1) := by decide +kernel
theorem dL_areValues_90 : decode cL_areValues 90 = .ok (.iconst 1, 1) := by decide +kernel
theorem dL_areValues_91 : decode cL_areValues 91 = .ok (.iload 4, 2) := by decide +kernel
theorem dL_areValues_93 : decode cL_areValues 93 = .ok (.iload 5, 2) := by decide +kernel
theorem dL_areValues_95 : decode cL_areValues 95 = .ok (.invokestatic 160, 3) := by decide +kernel
theorem dL_areValues_98 : decode cL_areValues 98 = .ok (.lstore 8, 2) := by decide +kernel
theorem dL_areValues_100 : decode cL_areValues 100 = .ok (.aload_n 0, 1) := by decide +kernel
theorem dL_areValues_101 : decode cL_areValues 101 = .ok (.iconst 0, 1) := by decide +kernel
theorem dL_areValues_102 : decode cL_areValues 102 = .ok (.iconst 0, 1) := by decide +kernel
theorem dL_areValues_103 : decode cL_areValues 103 = .ok (.iload_n 3, 1) := by decide +kernel
theorem dL_areValues_104 : decode cL_areValues 104 = .ok (.iconst 2, 1) := by decide +kernel
theorem dL_areValues_105 : decode cL_areValues 105 = .ok (.iload 4, 2) := by decide +kernel
theorem dL_areValues_107 : decode cL_areValues 107 = .ok (.iload 5, 2) := by decide +kernel
theorem dL_areValues_109 : decode cL_areValues 109 = .ok (.invokestatic 160, 3) := by decide +kernel
theorem dL_areValues_112 : decode cL_areValues 112 = .ok (.lstore 10, 2) := by decide +kernel
theorem dL_areValues_114 : decode cL_areValues 114 = .ok (.aload_n 0, 1) := by decide +kernel
theorem dL_areValues_115 : decode cL_areValues 115 = .ok (.iconst 1, 1) := by decide +kernel
theorem dL_areValues_116 : decode cL_areValues 116 = .ok (.iload 6, 2) := by decide +kernel
theorem dL_areValues_118 : decode cL_areValues 118 = .ok (.iload_n 3, 1) := by decide +kernel
theorem dL_areValues_119 : decode cL_areValues 119 = .ok (.iconst 1, 1) := by decide +kernel
theorem dL_areValues_120 : decode cL_areValues 120 = .ok (.iload 4, 2) := by decide +kernel
theorem dL_areValues_122 : decode cL_areValues 122 = .ok (.iload 5, 2) := by decide +kernel
theorem dL_areValues_124 : decode cL_areValues 124 = .ok (.invokestatic 160, 3) := by decide +kernel
theorem dL_areValues_127 : decode cL_areValues 127 = .ok (.lstore 12, 2) := by decide +kernel
theorem dL_areValues_129 : decode cL_areValues 129 = .ok (.aload_n 0, 1) := by decide +kernel
theorem dL_areValues_130 : decode cL_areValues 130 = .ok (.iconst 1, 1) := by decide +kernel
theorem dL_areValues_131 : decode cL_areValues 131 = .ok (.iload 6, 2) := by decide +kernel
theorem dL_areValues_133 : decode cL_areValues 133 = .ok (.iload_n 3, 1) := by decide +kernel
theorem dL_areValues_134 : decode cL_areValues 134 = .ok (.iconst 2, 1) := by decide +kernel
theorem dL_areValues_135 : decode cL_areValues 135 = .ok (.iload 4, 2) := by decide +kernel
theorem dL_areValues_137 : decode cL_areValues 137 = .ok (.iload 5, 2) := by decide +kernel
theorem dL_areValues_139 : decode cL_areValues 139 = .ok (.invokestatic 160, 3) := by decide +kernel
theorem dL_areValues_142 : decode cL_areValues 142 = .ok (.lstore 14, 2) := by decide +kernel
theorem dL_areValues_144 : decode cL_areValues 144 = .ok (.aload_n 0, 1) := by decide +kernel
theorem dL_areValues_145 : decode cL_areValues 145 = .ok (.iconst 2, 1) := by decide +kernel
theorem dL_areValues_146 : decode cL_areValues 146 = .ok (.iload 6, 2) := by decide +kernel
theorem dL_areValues_148 : decode cL_areValues 148 = .ok (.iload_n 3, 1) := by decide +kernel
theorem dL_areValues_149 : decode cL_areValues 149 = .ok (.iconst 1, 1) := by decide +kernel
theorem dL_areValues_150 : decode cL_areValues 150 = .ok (.iload 4, 2) := by decide +kernel
theorem dL_areValues_152 : decode cL_areValues 152 = .ok (.iload 5, 2) := by decide +kernel
theorem dL_areValues_154 : decode cL_areValues 154 = .ok (.invokestatic 160, 3) := by decide +kernel
theorem dL_areValues_157 : decode cL_areValues 157 = .ok (.lstore 16, 2) := by decide +kernel
theorem dL_areValues_159 : decode cL_areValues 159 = .ok (.aload_n 0, 1) := by decide +kernel
theorem dL_areValues_160 : decode cL_areValues 160 = .ok (.iconst 3, 1) := by decide +kernel
theorem dL_areValues_161 : decode cL_areValues 161 = .ok (.iload 6, 2) := by decide +kernel
theorem dL_areValues_163 : decode cL_areValues 163 = .ok (.iload_n 3, 1) := by decide +kernel
theorem dL_areValues_164 : decode cL_areValues 164 = .ok (.iconst 1, 1) := by decide +kernel
theorem dL_areValues_165 : decode cL_areValues 165 = .ok (.iload 4, 2) := by decide +kernel
theorem dL_areValues_167 : decode cL_areValues 167 = .ok (.iload 5, 2) := by decide +kernel
theorem dL_areValues_169 : decode cL_areValues 169 = .ok (.invokestatic 160, 3) := by decide +kernel
theorem dL_areValues_172 : decode cL_areValues 172 = .ok (.lstore 18, 2) := by decide +kernel
theorem dL_areValues_174 : decode cL_areValues 174 = .ok (.aload_n 0, 1) := by decide +kernel
theorem dL_areValues_175 : decode cL_areValues 175 = .ok (.iconst 4, 1) := by decide +kernel
theorem dL_areValues_176 : decode cL_areValues 176 = .ok (.iload 6, 2) := by decide +kernel
theorem dL_areValues_178 : decode cL_areValues 178 = .ok (.iload_n 3, 1) := by decide +kernel
theorem dL_areValues_179 : decode cL_areValues 179 = .ok (.iconst 1, 1) := by decide +kernel
theorem dL_areValues_180 : decode cL_areValues 180 = .ok (.iload 4, 2) := by decide +kernel
theorem dL_areValues_182 : decode cL_areValues 182 = .ok (.iload 5, 2) := by decide +kernel
theorem dL_areValues_184 : decode cL_areValues 184 = .ok (.invokestatic 160, 3) := by decide +kernel
theorem dL_areValues_187 : decode cL_areValues 187 = .ok (.lstore 20, 2) := by decide +kernel
theorem dL_areValues_189 : decode cL_areValues 189 = .ok (.aload_n 0, 1) := by decide +kernel
theorem dL_areValues_190 : decode cL_areValues 190 = .ok (.iconst 5, 1) := by decide +kernel
theorem dL_areValues_191 : decode cL_areValues 191 = .ok (.iload 6, 2) := by decide +kernel
theorem dL_areValues_193 : decode cL_areValues 193 = .ok (.iload_n 3, 1) := by decide +kernel
theorem dL_areValues_194 : decode cL_areValues 194 = .ok (.iconst 1, 1) := by decide +kernel
theorem dL_areValues_195 : decode cL_areValues 195 = .ok (.iload 4, 2) := by decide +kernel
theorem dL_areValues_197 : decode cL_areValues 197 = .ok (.iload 5, 2) := by decide +kernel
theorem dL_areValues_199 : decode cL_areValues 199 = .ok (.invokestatic 160, 3) := by decide +kernel
theorem dL_areValues_202 : decode cL_areValues 202 = .ok (.lstore 22, 2) := by decide +kernel
theorem dL_areValues_204 : decode cL_areValues 204 = .ok (.lload 8, 2) := by decide +kernel
theorem dL_areValues_206 : decode cL_areValues 206 = .ok (.lconst 0, 1) := by decide +kernel
theorem dL_areValues_207 : decode cL_areValues 207 = .ok (.lcmp, 1) := by decide +kernel
theorem dL_areValues_208 : decode cL_areValues 208 = .ok (.ifCond .lt 60, 3) := by decide +kernel
theorem dL_areValues_211 : decode cL_areValues 211 = .ok (.lload 8, 2) := by decide +kernel
theorem dL_areValues_213 : decode cL_areValues 213 = .ok (.lload 10, 2) := by decide +kernel
theorem dL_areValues_215 : decode cL_areValues 215 = .ok (.ladd, 1) := by decide +kernel
theorem dL_areValues_216 : decode cL_areValues 216 = .ok (.iload 7, 2) := by decide +kernel
theorem dL_areValues_218 : decode cL_areValues 218 = .ok (.i2l, 1) := by decide +kernel
theorem dL_areValues_219 : decode cL_areValues 219 = .ok (.lcmp, 1) := by decide +kernel
theorem dL_areValues_220 : decode cL_areValues 220 = .ok (.ifCond .ne 48, 3) := by decide +kernel
theorem dL_areValues_223 : decode cL_areValues 223 = .ok (.aload_n 0, 1) := by decide +kernel
theorem dL_areValues_224 : decode cL_areValues 224 = .ok (.iconst 0, 1) := by decide +kernel
theorem dL_areValues_225 : decode cL_areValues 225 = .ok (.iconst 0, 1) := by decide +kernel
theorem dL_areValues_226 : decode cL_areValues 226 = .ok (.iload_n 3, 1) := by decide +kernel
theorem dL_areValues_227 : decode cL_areValues 227 = .ok (.iconst 0, 1) := by decide +kernel
theorem dL_areValues_228 : decode cL_areValues 228 = .ok (.iload 4, 2) := by decide +kernel
theorem dL_areValues_230 : decode cL_areValues 230 = .ok (.iload 5, 2) := by decide +kernel
theorem dL_areValues_232 : decode cL_areValues 232 = .ok (.invokestatic 160, 3) := by decide +kernel
theorem dL_areValues_235 : decode cL_areValues 235 = .ok (.iload 7, 2) := by decide +kernel
theorem dL_areValues_237 : decode cL_areValues 237 = .ok (.i2l, 1) := by decide +kernel
theorem dL_areValues_238 : decode cL_areValues 238 = .ok (.lcmp, 1) := by decide +kernel
theorem dL_areValues_239 : decode cL_areValues 239 = .ok (.ifCond .ne 29, 3) := by decide +kernel
theorem dL_areValues_242 : decode cL_areValues 242 = .ok (.lload 12, 2) := by decide +kernel
theorem dL_areValues_244 : decode cL_areValues 244 = .ok (.lload 14, 2) := by decide +kernel
theorem dL_areValues_246 : decode cL_areValues 246 = .ok (.ladd, 1) := by decide +kernel
theorem dL_areValues_247 : decode cL_areValues 247 = .ok (.aload_n 0, 1) := by decide +kernel
theorem dL_areValues_248 : decode cL_areValues 248 = .ok (.iconst 1, 1) := by decide +kernel
theorem dL_areValues_249 : decode cL_areValues 249 = .ok (.iload 6, 2) := by decide +kernel
theorem dL_areValues_251 : decode cL_areValues 251 = .ok (.iload_n 3, 1) := by decide +kernel
theorem dL_areValues_252 : decode cL_areValues 252 = .ok (.iconst 0, 1) := by decide +kernel
theorem dL_areValues_253 : decode cL_areValues 253 = .ok (.iload 4, 2) := by decide +kernel
theorem dL_areValues_255 : decode cL_areValues 255 = .ok (.iload 5, 2) := by decide +kernel
theorem dL_areValues_257 : decode cL_areValues 257 = .ok (.invokestatic 160, 3) := by decide +kernel
theorem dL_areValues_260 : decode cL_areValues 260 = .ok (.lcmp, 1) := by decide +kernel
theorem dL_areValues_261 : decode cL_areValues 261 = .ok (.ifCond .ne 7, 3) := by decide +kernel
theorem dL_areValues_264 : decode cL_areValues 264 = .ok (.iconst 1, 1) := by decide +kernel
theorem dL_areValues_265 : decode cL_areValues 265 = .ok (.goto 4, 3) := by decide +kernel
theorem dL_areValues_268 : decode cL_areValues 268 = .ok (.iconst 0, 1) := by decide +kernel
theorem dL_areValues_269 : decode cL_areValues 269 = .ok (.istore 24, 2) := by decide +kernel
theorem dL_areValues_271 : decode cL_areValues 271 = .ok (.lload 8, 2) := by decide +kernel
theorem dL_areValues_273 : decode cL_areValues 273 = .ok (.lconst 0, 1) := by decide +kernel
theorem dL_areValues_274 : decode cL_areValues 274 = .ok (.lcmp, 1) := by decide +kernel
theorem dL_areValues_275 : decode cL_areValues 275 = .ok (.ifCond .ne 49, 3) := by decide +kernel
theorem dL_areValues_278 : decode cL_areValues 278 = .ok (.iload 24, 2) := by decide +kernel
theorem dL_areValues_280 : decode cL_areValues 280 = .ok (.ifCond .eq 42, 3) := by decide +kernel
theorem dL_areValues_283 : decode cL_areValues 283 = .ok (.lload 12, 2) := by decide +kernel
theorem dL_areValues_285 : decode cL_areValues 285 = .ok (.lconst 0, 1) := by decide +kernel
theorem dL_areValues_286 : decode cL_areValues 286 = .ok (.lcmp, 1) := by decide +kernel
theorem dL_areValues_287 : decode cL_areValues 287 = .ok (.ifCond .ne 35, 3) := by decide +kernel
theorem dL_areValues_290 : decode cL_areValues 290 = .ok (.lload 16, 2) := by decide +kernel
theorem dL_areValues_292 : decode cL_areValues 292 = .ok (.lconst 0, 1) := by decide +kernel
theorem dL_areValues_293 : decode cL_areValues 293 = .ok (.lcmp, 1) := by decide +kernel
theorem dL_areValues_294 : decode cL_areValues 294 = .ok (.ifCond .ne 28, 3) := by decide +kernel
theorem dL_areValues_297 : decode cL_areValues 297 = .ok (.lload 18, 2) := by decide +kernel
theorem dL_areValues_299 : decode cL_areValues 299 = .ok (.lconst 0, 1) := by decide +kernel
theorem dL_areValues_300 : decode cL_areValues 300 = .ok (.lcmp, 1) := by decide +kernel
theorem dL_areValues_301 : decode cL_areValues 301 = .ok (.ifCond .ne 21, 3) := by decide +kernel
theorem dL_areValues_304 : decode cL_areValues 304 = .ok (.lload 20, 2) := by decide +kernel
theorem dL_areValues_306 : decode cL_areValues 306 = .ok (.lconst 0, 1) := by decide +kernel
theorem dL_areValues_307 : decode cL_areValues 307 = .ok (.lcmp, 1) := by decide +kernel
theorem dL_areValues_308 : decode cL_areValues 308 = .ok (.ifCond .ne 14, 3) := by decide +kernel
theorem dL_areValues_311 : decode cL_areValues 311 = .ok (.lload 22, 2) := by decide +kernel
theorem dL_areValues_313 : decode cL_areValues 313 = .ok (.lconst 0, 1) := by decide +kernel
theorem dL_areValues_314 : decode cL_areValues 314 = .ok (.lcmp, 1) := by decide +kernel
theorem dL_areValues_315 : decode cL_areValues 315 = .ok (.ifCond .ne 7, 3) := by decide +kernel
theorem dL_areValues_318 : decode cL_areValues 318 = .ok (.iconst 1, 1) := by decide +kernel
theorem dL_areValues_319 : decode cL_areValues 319 = .ok (.goto 4, 3) := by decide +kernel
theorem dL_areValues_322 : decode cL_areValues 322 = .ok (.iconst 0, 1) := by decide +kernel
theorem dL_areValues_323 : decode cL_areValues 323 = .ok (.ireturn, 1) := by decide +kernel
theorem dL_areValues_324 : decode cL_areValues 324 = .ok (.iload 24, 2) := by decide +kernel
theorem dL_areValues_326 : decode cL_areValues 326 = .ok (.ifCond .eq 101, 3) := by decide +kernel
theorem dL_areValues_329 : decode cL_areValues 329 = .ok (.lload 16, 2) := by decide +kernel
theorem dL_areValues_331 : decode cL_areValues 331 = .ok (.lload 22, 2) := by decide +kernel
theorem dL_areValues_333 : decode cL_areValues 333 = .ok (.lcmp, 1) := by decide +kernel
theorem dL_areValues_334 : decode cL_areValues 334 = .ok (.ifCond .gt 93, 3) := by decide +kernel
theorem dL_areValues_337 : decode cL_areValues 337 = .ok (.lload 22, 2) := by decide +kernel
theorem dL_areValues_339 : decode cL_areValues 339 = .ok (.lload 18, 2) := by decide +kernel
theorem dL_areValues_341 : decode cL_areValues 341 = .ok (.lcmp, 1) := by decide +kernel
theorem dL_areValues_342 : decode cL_areValues 342 = .ok (.ifCond .gt 85, 3) := by decide +kernel
theorem dL_areValues_345 : decode cL_areValues 345 = .ok (.lload 12, 2) := by decide +kernel
theorem dL_areValues_347 : decode cL_areValues 347 = .ok (.lload 8, 2) := by decide +kernel
theorem dL_areValues_349 : decode cL_areValues 349 = .ok (.lload 16, 2) := by decide +kernel
theorem dL_areValues_351 : decode cL_areValues 351 = .ok (.lmul, 1) := by decide +kernel
theorem dL_areValues_352 : decode cL_areValues 352 = .ok (.lcmp, 1) := by decide +kernel
theorem dL_areValues_353 : decode cL_areValues 353 = .ok (.ifCond .lt 74, 3) := by decide +kernel
theorem dL_areValues_356 : decode cL_areValues 356 = .ok (.lload 12, 2) := by decide +kernel
theorem dL_areValues_358 : decode cL_areValues 358 = .ok (.lload 8, 2) := by decide +kernel
theorem dL_areValues_360 : decode cL_areValues 360 = .ok (.lload 18, 2) := by decide +kernel
theorem dL_areValues_362 : decode cL_areValues 362 = .ok (.lmul, 1) := by decide +kernel
theorem dL_areValues_363 : decode cL_areValues 363 = .ok (.lcmp, 1) := by decide +kernel
theorem dL_areValues_364 : decode cL_areValues 364 = .ok (.ifCond .gt 63, 3) := by decide +kernel
theorem dL_areValues_367 : decode cL_areValues 367 = .ok (.lload 20, 2) := by decide +kernel
theorem dL_areValues_369 : decode cL_areValues 369 = .ok (.lconst 1, 1) := by decide +kernel
theorem dL_areValues_370 : decode cL_areValues 370 = .ok (.lcmp, 1) := by decide +kernel
theorem dL_areValues_371 : decode cL_areValues 371 = .ok (.ifCond .lt 56, 3) := by decide +kernel
theorem dL_areValues_374 : decode cL_areValues 374 = .ok (.lload 20, 2) := by decide +kernel
theorem dL_areValues_376 : decode cL_areValues 376 = .ok (.lload 8, 2) := by decide +kernel
theorem dL_areValues_378 : decode cL_areValues 378 = .ok (.lcmp, 1) := by decide +kernel
theorem dL_areValues_379 : decode cL_areValues 379 = .ok (.ifCond .gt 48, 3) := by decide +kernel
theorem dL_areValues_382 : decode cL_areValues 382 = .ok (.lload 20, 2) := by decide +kernel
theorem dL_areValues_384 : decode cL_areValues 384 = .ok (.lconst 1, 1) := by decide +kernel
theorem dL_areValues_385 : decode cL_areValues 385 = .ok (.lcmp, 1) := by decide +kernel
theorem dL_areValues_386 : decode cL_areValues 386 = .ok (.ifCond .ne 7, 3) := by decide +kernel
theorem dL_areValues_389 : decode cL_areValues 389 = .ok (.iconst 1, 1) := by decide +kernel
theorem dL_areValues_390 : decode cL_areValues 390 = .ok (.goto 4, 3) := by decide +kernel
theorem dL_areValues_393 : decode cL_areValues 393 = .ok (.iconst 0, 1) := by decide +kernel
theorem dL_areValues_394 : decode cL_areValues 394 = .ok (.lload 16, 2) := by decide +kernel
theorem dL_areValues_396 : decode cL_areValues 396 = .ok (.lload 18, 2) := by decide +kernel
theorem dL_areValues_398 : decode cL_areValues 398 = .ok (.lcmp, 1) := by decide +kernel
theorem dL_areValues_399 : decode cL_areValues 399 = .ok (.ifCond .ne 7, 3) := by decide +kernel
theorem dL_areValues_402 : decode cL_areValues 402 = .ok (.iconst 1, 1) := by decide +kernel
theorem dL_areValues_403 : decode cL_areValues 403 = .ok (.goto 4, 3) := by decide +kernel
theorem dL_areValues_406 : decode cL_areValues 406 = .ok (.iconst 0, 1) := by decide +kernel
theorem dL_areValues_407 : decode cL_areValues 407 = .ok (.if_icmp .ne 20, 3) := by decide +kernel
theorem dL_areValues_410 : decode cL_areValues 410 = .ok (.lload 20, 2) := by decide +kernel
theorem dL_areValues_412 : decode cL_areValues 412 = .ok (.lload 18, 2) := by decide +kernel
theorem dL_areValues_414 : decode cL_areValues 414 = .ok (.lload 16, 2) := by decide +kernel
theorem dL_areValues_416 : decode cL_areValues 416 = .ok (.lsub, 1) := by decide +kernel
theorem dL_areValues_417 : decode cL_areValues 417 = .ok (.lconst 1, 1) := by decide +kernel
theorem dL_areValues_418 : decode cL_areValues 418 = .ok (.ladd, 1) := by decide +kernel
theorem dL_areValues_419 : decode cL_areValues 419 = .ok (.lcmp, 1) := by decide +kernel
theorem dL_areValues_420 : decode cL_areValues 420 = .ok (.ifCond .gt 7, 3) := by decide +kernel
theorem dL_areValues_423 : decode cL_areValues 423 = .ok (.iconst 1, 1) := by decide +kernel
theorem dL_areValues_424 : decode cL_areValues 424 = .ok (.goto 4, 3) := by decide +kernel
theorem dL_areValues_427 : decode cL_areValues 427 = .ok (.iconst 0, 1) := by decide +kernel
theorem dL_areValues_428 : decode cL_areValues 428 = .ok (.ireturn, 1) := by decide +kernel
def f_L_areValues_b407 (F Z : Nat) (s : St) (l16 : Int64) (l18 : Int64) (l20 : Int64) (t0 : Int32) (t1 : Int32) : Option (Int32 × St) :=
  if t0 = t1 then
    (if ((l18 - l16) + 1) < l20 then
      (some (0, s))
    else
      (some (1, s)))
  else
    (some (0, s))
def f_L_areValues_b269 (F Z : Nat) (s : St) (l8 : Int64) (l12 : Int64) (l16 : Int64) (l18 : Int64) (l20 : Int64) (l22 : Int64) (t0 : Int32) : Option (Int32 × St) :=
  if l8 = 0 then
    (if t0 = 0 then
      (some (0, s))
    else
      (if l12 = 0 then
        (if l16 = 0 then
          (if l18 = 0 then
            (if l20 = 0 then
              (if l22 = 0 then
                (some (1, s))
              else
                (some (0, s)))
            else
              (some (0, s)))
          else
            (some (0, s)))
        else
          (some (0, s)))
      else
        (some (0, s))))
  else
    (if t0 = 0 then
      (some (0, s))
    else
      (if l22 < l16 then
        (some (0, s))
      else
        (if l18 < l22 then
          (some (0, s))
        else
          (if l12 < (l8 * l16) then
            (some (0, s))
          else
            (if (l8 * l18) < l12 then
              (some (0, s))
            else
              (if l20 < 1 then
                (some (0, s))
              else
                (if l8 < l20 then
                  (some (0, s))
                else
                  (if l20 = 1 then
                    (if l16 = l18 then
                      (f_L_areValues_b407 F Z s l16 l18 l20 1 1)
                    else
                      (f_L_areValues_b407 F Z s l16 l18 l20 1 0))
                  else
                    (if l16 = l18 then
                      (f_L_areValues_b407 F Z s l16 l18 l20 0 1)
                    else
                      (f_L_areValues_b407 F Z s l16 l18 l20 0 0))))))))))
def f_L_areValues_b44 (F Z : Nat) : Nat → St → Int32 → Int32 → Int32 → Int32 → Int32 → Int32 → Option (Int32 × St)
  | 0, _, _, _, _, _, _, _ => none
  | n + 1, s, l3, l4, l5, l6, l7, l8 =>
    (ix 4 2).bind fun j8 => (if (gA s 39 j8) ≤ l8 then
      ((f_L_value F Z s 0 0 l3 1 l4 l5).bind fun x9 => (if ct s ≤ ct x9.2 ∧ ct x9.2 ≤ Z then ((f_L_value F Z x9.2 0 0 l3 2 l4 l5).bind fun x10 => (if ct x9.2 ≤ ct x10.2 ∧ ct x10.2 ≤ Z then ((f_L_value F Z x10.2 1 l6 l3 1 l4 l5).bind fun x11 => (if ct x10.2 ≤ ct x11.2 ∧ ct x11.2 ≤ Z then ((f_L_value F Z x11.2 1 l6 l3 2 l4 l5).bind fun x12 => (if ct x11.2 ≤ ct x12.2 ∧ ct x12.2 ≤ Z then ((f_L_value F Z x12.2 2 l6 l3 1 l4 l5).bind fun x13 => (if ct x12.2 ≤ ct x13.2 ∧ ct x13.2 ≤ Z then ((f_L_value F Z x13.2 3 l6 l3 1 l4 l5).bind fun x14 => (if ct x13.2 ≤ ct x14.2 ∧ ct x14.2 ≤ Z then ((f_L_value F Z x14.2 4 l6 l3 1 l4 l5).bind fun x15 => (if ct x14.2 ≤ ct x15.2 ∧ ct x15.2 ≤ Z then ((f_L_value F Z x15.2 5 l6 l3 1 l4 l5).bind fun x16 => (if ct x15.2 ≤ ct x16.2 ∧ ct x16.2 ≤ Z then (if x9.1 < 0 then
        (f_L_areValues_b269 F Z x16.2 x9.1 x11.1 x13.1 x14.1 x15.1 x16.1 0)
      else
        (if (x9.1 + x10.1) = l7.toInt64 then
          ((f_L_value F Z x16.2 0 0 l3 0 l4 l5).bind fun x17 => (if ct x16.2 ≤ ct x17.2 ∧ ct x17.2 ≤ Z then (if x17.1 = l7.toInt64 then
            ((f_L_value F Z x17.2 1 l6 l3 0 l4 l5).bind fun x18 => (if ct x17.2 ≤ ct x18.2 ∧ ct x18.2 ≤ Z then (if (x11.1 + x12.1) = x18.1 then
              (f_L_areValues_b269 F Z x18.2 x9.1 x11.1 x13.1 x14.1 x15.1 x16.1 1)
            else
              (f_L_areValues_b269 F Z x18.2 x9.1 x11.1 x13.1 x14.1 x15.1 x16.1 0)) else none))
          else
            (f_L_areValues_b269 F Z x17.2 x9.1 x11.1 x13.1 x14.1 x15.1 x16.1 0)) else none))
        else
          (f_L_areValues_b269 F Z x16.2 x9.1 x11.1 x13.1 x14.1 x15.1 x16.1 0))) else none)) else none)) else none)) else none)) else none)) else none)) else none)) else none))
    else
      ((ix 60 l8).bind fun j19 => (if (gA s 40 j19) < l4 then
        (f_L_areValues_b44 F Z n s l3 l4 l5 l6 (l7 + 0) (l8 + 1))
      else
        ((ix 60 l8).bind fun j20 => (if l5 < (gA s 40 j20) then
          (f_L_areValues_b44 F Z n s l3 l4 l5 l6 (l7 + 0) (l8 + 1))
        else
          (f_L_areValues_b44 F Z n s l3 l4 l5 l6 (l7 + 1) (l8 + 1)))))))
def f_L_areValues (F Z : Nat) (s : St) (p3 : Int32) : Option (Int32 × St) :=
  (f_P_now F s).bind fun x1 => (lt (kb s x1.2 0) fun s2 => (if x1.1 + 1 = 0 then none else ((f_P_now F s2).bind fun x3 => (lt (kb s2 x3.2 0) fun s4 => ((f_P_now F s4).bind fun x5 => (lt (kb s4 x5.2 0) fun s6 => (if (x5.1 - (p3 - p3 / (x1.1 + 1) * (x1.1 + 1))) + 1 = 0 then none else (lt (x3.1 - ((p3 / 11) - (p3 / 11) / ((x5.1 - (p3 - p3 / (x1.1 + 1) * (x1.1 + 1))) + 1) * ((x5.1 - (p3 - p3 / (x1.1 + 1) * (x1.1 + 1))) + 1)) : Int32) fun x7 => (f_L_areValues_b44 F Z F s6 p3 (p3 - p3 / (x1.1 + 1) * (x1.1 + 1)) x7 ((p3 / 3) - (p3 / 3) / 4 * 4) 0 0)))))))))
set_option maxHeartbeats 1000000 in
theorem c_f_L_areValues_b407 {F Z : Nat} {c0 : Nat} {Γ : Ga} {D : DD} {B : Nat} {r : Int32} {s' : St} (X : Cx Γ RL cL_areValues 25 D B (RMg Z c0 806 16550)) (M : RLe (RMg Z c0 806 16550) Z 0 0 c0 806 16550) (Y : Xy Γ B) (hr : (Gme Γ).sig.returnType = (some .boolean)) {s : St} {l16 : Int64} {l18 : Int64} {l20 : Int64} {t0 : Int32} {t1 : Int32} (hc : Hc c0 Z s) (hf : f_L_areValues_b407 F Z s l16 l18 l20 t0 t1 = some (r, s')) : V Γ D B true 25 (QX Γ D B true s' (.inl (some (.int r))) (64 * (ct s' - c0)) (768 * (ct s' - c0))) (kg 0 c0 s) (ng 0 c0 s) s 407 [(16, .long l16), (18, .long l18), (20, .long l20)] [.int t1, .int t0] := by
  unfold f_L_areValues_b407 at hf
  refine b_icmp_ne (tgt := 427) (pc := 407) X dL_areValues_407 (by decide) hf (fun hf => ?_) (fun hf => ?_)
  · refine r_lload (pc := 410) X dL_areValues_410 2 rfl ?_
    refine r_lload (pc := 412) X dL_areValues_412 1 rfl ?_
    refine r_lload (pc := 414) X dL_areValues_414 0 rfl ?_
    refine r_lsub (pc := 416) X dL_areValues_416 ?_
    refine r_lconst (v := 1) (pc := 417) X dL_areValues_417 (by decide) ?_
    refine r_ladd (pc := 418) X dL_areValues_418 ?_
    refine b_lcmp_gt (tgt := 427) (pc := 419) X dL_areValues_419 dL_areValues_420 (by decide) hf (fun hf => ?_) (fun hf => ?_)
    · refine r_iconst (v := 0) (pc := 427) X dL_areValues_427 (by decide) ?_
      exact y_zret (pc := 428) X hr (by decide) hf dL_areValues_428
    · refine r_iconst (v := 1) (pc := 423) X dL_areValues_423 (by decide) ?_
      refine r_goto (tgt := 428) (pc := 424) X dL_areValues_424 (by decide) ?_
      exact y_zret (pc := 428) X hr (by decide) hf dL_areValues_428
  · refine r_iconst (v := 0) (pc := 427) X dL_areValues_427 (by decide) ?_
    exact y_zret (pc := 428) X hr (by decide) hf dL_areValues_428
set_option maxHeartbeats 1000000 in
theorem c_f_L_areValues_b269 {F Z : Nat} {c0 : Nat} {Γ : Ga} {D : DD} {B : Nat} {r : Int32} {s' : St} (X : Cx Γ RL cL_areValues 25 D B (RMg Z c0 806 16550)) (M : RLe (RMg Z c0 806 16550) Z 0 0 c0 806 16550) (Y : Xy Γ B) (hr : (Gme Γ).sig.returnType = (some .boolean)) {s : St} {l8 : Int64} {l12 : Int64} {l16 : Int64} {l18 : Int64} {l20 : Int64} {l22 : Int64} {t0 : Int32} (hc : Hc c0 Z s) (hf : f_L_areValues_b269 F Z s l8 l12 l16 l18 l20 l22 t0 = some (r, s')) : V Γ D B true 25 (QX Γ D B true s' (.inl (some (.int r))) (64 * (ct s' - c0)) (768 * (ct s' - c0))) (kg 0 c0 s) (ng 0 c0 s) s 269 [(8, .long l8), (12, .long l12), (16, .long l16), (18, .long l18), (20, .long l20), (22, .long l22)] [.int t0] := by
  unfold f_L_areValues_b269 at hf
  refine r_istore (pc := 269) (lv' := [(8, .long l8), (12, .long l12), (16, .long l16), (18, .long l18), (20, .long l20), (22, .long l22), (24, .int t0)]) X dL_areValues_269 (by decide) [1, 2, 3, 4, 5, 6, 0] rfl ?_
  refine r_lload (pc := 271) X dL_areValues_271 0 rfl ?_
  refine r_lconst (v := 0) (pc := 273) X dL_areValues_273 (by decide) ?_
  refine b_lcmp_ne (tgt := 324) (pc := 274) X dL_areValues_274 dL_areValues_275 (by decide) hf (fun hf => ?_) (fun hf => ?_)
  · refine r_iload (pc := 278) X dL_areValues_278 6 rfl ?_
    refine b_if_eq (tgt := 322) (pc := 280) X dL_areValues_280 (by decide) hf (fun hf => ?_) (fun hf => ?_)
    · refine r_iconst (v := 0) (pc := 322) X dL_areValues_322 (by decide) ?_
      exact y_zret (pc := 323) X hr (by decide) hf dL_areValues_323
    · refine r_lload (pc := 283) X dL_areValues_283 1 rfl ?_
      refine r_lconst (v := 0) (pc := 285) X dL_areValues_285 (by decide) ?_
      refine b_lcmp_ne (tgt := 322) (pc := 286) X dL_areValues_286 dL_areValues_287 (by decide) hf (fun hf => ?_) (fun hf => ?_)
      · refine r_lload (pc := 290) X dL_areValues_290 2 rfl ?_
        refine r_lconst (v := 0) (pc := 292) X dL_areValues_292 (by decide) ?_
        refine b_lcmp_ne (tgt := 322) (pc := 293) X dL_areValues_293 dL_areValues_294 (by decide) hf (fun hf => ?_) (fun hf => ?_)
        · refine r_lload (pc := 297) X dL_areValues_297 3 rfl ?_
          refine r_lconst (v := 0) (pc := 299) X dL_areValues_299 (by decide) ?_
          refine b_lcmp_ne (tgt := 322) (pc := 300) X dL_areValues_300 dL_areValues_301 (by decide) hf (fun hf => ?_) (fun hf => ?_)
          · refine r_lload (pc := 304) X dL_areValues_304 4 rfl ?_
            refine r_lconst (v := 0) (pc := 306) X dL_areValues_306 (by decide) ?_
            refine b_lcmp_ne (tgt := 322) (pc := 307) X dL_areValues_307 dL_areValues_308 (by decide) hf (fun hf => ?_) (fun hf => ?_)
            · refine r_lload (pc := 311) X dL_areValues_311 5 rfl ?_
              refine r_lconst (v := 0) (pc := 313) X dL_areValues_313 (by decide) ?_
              refine b_lcmp_ne (tgt := 322) (pc := 314) X dL_areValues_314 dL_areValues_315 (by decide) hf (fun hf => ?_) (fun hf => ?_)
              · refine r_iconst (v := 1) (pc := 318) X dL_areValues_318 (by decide) ?_
                refine r_goto (tgt := 323) (pc := 319) X dL_areValues_319 (by decide) ?_
                exact y_zret (pc := 323) X hr (by decide) hf dL_areValues_323
              · refine r_iconst (v := 0) (pc := 322) X dL_areValues_322 (by decide) ?_
                exact y_zret (pc := 323) X hr (by decide) hf dL_areValues_323
            · refine r_iconst (v := 0) (pc := 322) X dL_areValues_322 (by decide) ?_
              exact y_zret (pc := 323) X hr (by decide) hf dL_areValues_323
          · refine r_iconst (v := 0) (pc := 322) X dL_areValues_322 (by decide) ?_
            exact y_zret (pc := 323) X hr (by decide) hf dL_areValues_323
        · refine r_iconst (v := 0) (pc := 322) X dL_areValues_322 (by decide) ?_
          exact y_zret (pc := 323) X hr (by decide) hf dL_areValues_323
      · refine r_iconst (v := 0) (pc := 322) X dL_areValues_322 (by decide) ?_
        exact y_zret (pc := 323) X hr (by decide) hf dL_areValues_323
  · refine r_iload (pc := 324) X dL_areValues_324 6 rfl ?_
    refine b_if_eq (tgt := 427) (pc := 326) X dL_areValues_326 (by decide) hf (fun hf => ?_) (fun hf => ?_)
    · refine r_iconst (v := 0) (pc := 427) X dL_areValues_427 (by decide) ?_
      exact y_zret (pc := 428) X hr (by decide) hf dL_areValues_428
    · refine r_lload (pc := 329) X dL_areValues_329 2 rfl ?_
      refine r_lload (pc := 331) X dL_areValues_331 5 rfl ?_
      refine b_lcmp_gt (tgt := 427) (pc := 333) X dL_areValues_333 dL_areValues_334 (by decide) hf (fun hf => ?_) (fun hf => ?_)
      · refine r_iconst (v := 0) (pc := 427) X dL_areValues_427 (by decide) ?_
        exact y_zret (pc := 428) X hr (by decide) hf dL_areValues_428
      · refine r_lload (pc := 337) X dL_areValues_337 5 rfl ?_
        refine r_lload (pc := 339) X dL_areValues_339 3 rfl ?_
        refine b_lcmp_gt (tgt := 427) (pc := 341) X dL_areValues_341 dL_areValues_342 (by decide) hf (fun hf => ?_) (fun hf => ?_)
        · refine r_iconst (v := 0) (pc := 427) X dL_areValues_427 (by decide) ?_
          exact y_zret (pc := 428) X hr (by decide) hf dL_areValues_428
        · refine r_lload (pc := 345) X dL_areValues_345 1 rfl ?_
          refine r_lload (pc := 347) X dL_areValues_347 0 rfl ?_
          refine r_lload (pc := 349) X dL_areValues_349 2 rfl ?_
          refine r_lmul (pc := 351) X dL_areValues_351 ?_
          refine b_lcmp_lt (tgt := 427) (pc := 352) X dL_areValues_352 dL_areValues_353 (by decide) hf (fun hf => ?_) (fun hf => ?_)
          · refine r_iconst (v := 0) (pc := 427) X dL_areValues_427 (by decide) ?_
            exact y_zret (pc := 428) X hr (by decide) hf dL_areValues_428
          · refine r_lload (pc := 356) X dL_areValues_356 1 rfl ?_
            refine r_lload (pc := 358) X dL_areValues_358 0 rfl ?_
            refine r_lload (pc := 360) X dL_areValues_360 3 rfl ?_
            refine r_lmul (pc := 362) X dL_areValues_362 ?_
            refine b_lcmp_gt (tgt := 427) (pc := 363) X dL_areValues_363 dL_areValues_364 (by decide) hf (fun hf => ?_) (fun hf => ?_)
            · refine r_iconst (v := 0) (pc := 427) X dL_areValues_427 (by decide) ?_
              exact y_zret (pc := 428) X hr (by decide) hf dL_areValues_428
            · refine r_lload (pc := 367) X dL_areValues_367 4 rfl ?_
              refine r_lconst (v := 1) (pc := 369) X dL_areValues_369 (by decide) ?_
              refine b_lcmp_lt (tgt := 427) (pc := 370) X dL_areValues_370 dL_areValues_371 (by decide) hf (fun hf => ?_) (fun hf => ?_)
              · refine r_iconst (v := 0) (pc := 427) X dL_areValues_427 (by decide) ?_
                exact y_zret (pc := 428) X hr (by decide) hf dL_areValues_428
              · refine r_lload (pc := 374) X dL_areValues_374 4 rfl ?_
                refine r_lload (pc := 376) X dL_areValues_376 0 rfl ?_
                refine b_lcmp_gt (tgt := 427) (pc := 378) X dL_areValues_378 dL_areValues_379 (by decide) hf (fun hf => ?_) (fun hf => ?_)
                · refine r_iconst (v := 0) (pc := 427) X dL_areValues_427 (by decide) ?_
                  exact y_zret (pc := 428) X hr (by decide) hf dL_areValues_428
                · refine r_lload (pc := 382) X dL_areValues_382 4 rfl ?_
                  refine r_lconst (v := 1) (pc := 384) X dL_areValues_384 (by decide) ?_
                  refine b_lcmp_ne (tgt := 393) (pc := 385) X dL_areValues_385 dL_areValues_386 (by decide) hf (fun hf => ?_) (fun hf => ?_)
                  · refine r_iconst (v := 1) (pc := 389) X dL_areValues_389 (by decide) ?_
                    refine r_goto (tgt := 394) (pc := 390) X dL_areValues_390 (by decide) ?_
                    refine r_lload (pc := 394) X dL_areValues_394 2 rfl ?_
                    refine r_lload (pc := 396) X dL_areValues_396 3 rfl ?_
                    refine b_lcmp_ne (tgt := 406) (pc := 398) X dL_areValues_398 dL_areValues_399 (by decide) hf (fun hf => ?_) (fun hf => ?_)
                    · refine r_iconst (v := 1) (pc := 402) X dL_areValues_402 (by decide) ?_
                      refine r_goto (tgt := 407) (pc := 403) X dL_areValues_403 (by decide) ?_
                      refine r_forget (lv' := [(16, .long l16), (18, .long l18), (20, .long l20)]) [2, 3, 4] rfl ?_
                      exact c_f_L_areValues_b407 X M Y hr hc hf
                    · refine r_iconst (v := 0) (pc := 406) X dL_areValues_406 (by decide) ?_
                      refine r_forget (lv' := [(16, .long l16), (18, .long l18), (20, .long l20)]) [2, 3, 4] rfl ?_
                      exact c_f_L_areValues_b407 X M Y hr hc hf
                  · refine r_iconst (v := 0) (pc := 393) X dL_areValues_393 (by decide) ?_
                    refine r_lload (pc := 394) X dL_areValues_394 2 rfl ?_
                    refine r_lload (pc := 396) X dL_areValues_396 3 rfl ?_
                    refine b_lcmp_ne (tgt := 406) (pc := 398) X dL_areValues_398 dL_areValues_399 (by decide) hf (fun hf => ?_) (fun hf => ?_)
                    · refine r_iconst (v := 1) (pc := 402) X dL_areValues_402 (by decide) ?_
                      refine r_goto (tgt := 407) (pc := 403) X dL_areValues_403 (by decide) ?_
                      refine r_forget (lv' := [(16, .long l16), (18, .long l18), (20, .long l20)]) [2, 3, 4] rfl ?_
                      exact c_f_L_areValues_b407 X M Y hr hc hf
                    · refine r_iconst (v := 0) (pc := 406) X dL_areValues_406 (by decide) ?_
                      refine r_forget (lv' := [(16, .long l16), (18, .long l18), (20, .long l20)]) [2, 3, 4] rfl ?_
                      exact c_f_L_areValues_b407 X M Y hr hc hf
set_option maxHeartbeats 1000000 in
theorem c_f_L_areValues_b44 {F Z : Nat} {c0 : Nat} {Γ : Ga} {D : DD} {B : Nat} {r : Int32} {s' : St} (X : Cx Γ RL cL_areValues 25 D B (RMg Z c0 806 16550)) (M : RLe (RMg Z c0 806 16550) Z 0 0 c0 806 16550) (Y : Xy Γ B) (hr : (Gme Γ).sig.returnType = (some .boolean)) : ∀ (n : Nat) {s : St} {l3 : Int32} {l4 : Int32} {l5 : Int32} {l6 : Int32} {l7 : Int32} {l8 : Int32}, Hc c0 Z s → f_L_areValues_b44 F Z n s l3 l4 l5 l6 l7 l8 = some (r, s') → V Γ D B true 25 (QX Γ D B true s' (.inl (some (.int r))) (64 * (ct s' - c0)) (768 * (ct s' - c0))) (kg 0 c0 s) (ng 0 c0 s) s 44 [(0, .ref (B + 0)), (1, .ref (B + 40)), (2, .ref (B + 39)), (3, .int l3), (4, .int l4), (5, .int l5), (6, .int l6), (7, .int l7), (8, .int l8)] [] := by
  intro n
  induction n with
  | zero => intro s l3 l4 l5 l6 l7 l8 hc hf; rw [f_L_areValues_b44] at hf; cases hf
  | succ n ih =>
    intro s l3 l4 l5 l6 l7 l8 hc hf
    rw [f_L_areValues_b44] at hf
    refine r_iload (pc := 44) X dL_areValues_44 8 rfl ?_
    refine r_aload_n (x := some 39) (pc := 46) X dL_areValues_46 2 rfl ?_
    refine r_iconst (v := 2) (pc := 47) X dL_areValues_47 (by decide) ?_
    refine b_iald (pc := 48) X ce_39 dL_areValues_48 hf (fun j8 hf => ?_)
    refine b_icmp_ge (tgt := 86) (pc := 49) X dL_areValues_49 (by decide) hf (fun hf => ?_) (fun hf => ?_)
    · refine r_aload_n (x := some 0) (pc := 86) X dL_areValues_86 0 rfl ?_
      refine r_iconst (v := 0) (pc := 87) X dL_areValues_87 (by decide) ?_
      refine r_iconst (v := 0) (pc := 88) X dL_areValues_88 (by decide) ?_
      refine r_iload_n (pc := 89) X dL_areValues_89 3 rfl ?_
      refine r_iconst (v := 1) (pc := 90) X dL_areValues_90 (by decide) ?_
      refine r_iload (pc := 91) X dL_areValues_91 4 rfl ?_
      refine r_iload (pc := 93) X dL_areValues_93 5 rfl ?_
      refine bnd hf (fun x9 h9 hf => ?_)
      refine ifo hf (fun hz hf => ?_)
      refine y_callXSl (As := [.ref (B + 0), .int 0, .int 0, .int l3, .int 1, .int l4, .int l5]) (st := []) (pc := 95) X M Y hc (c_f_L_value h9 hc.2) rfl w_976 w_977 w_35 w_978 hdS_L_value (by decide) hz (Nat.le_of_ble_eq_true rfl) dL_areValues_95 rfl (fun hc => ?_)
      refine r_lstore (pc := 98) (lv' := [(0, .ref (B + 0)), (3, .int l3), (4, .int l4), (5, .int l5), (6, .int l6), (7, .int l7), (8, .long x9.1)]) X dL_areValues_98 (by decide) [1, 4, 5, 6, 7, 8, 0] rfl ?_
      refine r_aload_n (x := some 0) (pc := 100) X dL_areValues_100 0 rfl ?_
      refine r_iconst (v := 0) (pc := 101) X dL_areValues_101 (by decide) ?_
      refine r_iconst (v := 0) (pc := 102) X dL_areValues_102 (by decide) ?_
      refine r_iload_n (pc := 103) X dL_areValues_103 1 rfl ?_
      refine r_iconst (v := 2) (pc := 104) X dL_areValues_104 (by decide) ?_
      refine r_iload (pc := 105) X dL_areValues_105 2 rfl ?_
      refine r_iload (pc := 107) X dL_areValues_107 3 rfl ?_
      refine bnd hf (fun x10 h10 hf => ?_)
      refine ifo hf (fun hz hf => ?_)
      refine y_callXSl (As := [.ref (B + 0), .int 0, .int 0, .int l3, .int 2, .int l4, .int l5]) (st := []) (pc := 109) X M Y hc (c_f_L_value h10 hc.2) rfl w_976 w_977 w_35 w_978 hdS_L_value (by decide) hz (Nat.le_of_ble_eq_true rfl) dL_areValues_109 rfl (fun hc => ?_)
      refine r_lstore (pc := 112) (lv' := [(0, .ref (B + 0)), (3, .int l3), (4, .int l4), (5, .int l5), (6, .int l6), (7, .int l7), (8, .long x9.1), (10, .long x10.1)]) X dL_areValues_112 (by decide) [1, 2, 3, 4, 5, 6, 7, 0] rfl ?_
      refine r_aload_n (x := some 0) (pc := 114) X dL_areValues_114 0 rfl ?_
      refine r_iconst (v := 1) (pc := 115) X dL_areValues_115 (by decide) ?_
      refine r_iload (pc := 116) X dL_areValues_116 4 rfl ?_
      refine r_iload_n (pc := 118) X dL_areValues_118 1 rfl ?_
      refine r_iconst (v := 1) (pc := 119) X dL_areValues_119 (by decide) ?_
      refine r_iload (pc := 120) X dL_areValues_120 2 rfl ?_
      refine r_iload (pc := 122) X dL_areValues_122 3 rfl ?_
      refine bnd hf (fun x11 h11 hf => ?_)
      refine ifo hf (fun hz hf => ?_)
      refine y_callXSl (As := [.ref (B + 0), .int 1, .int l6, .int l3, .int 1, .int l4, .int l5]) (st := []) (pc := 124) X M Y hc (c_f_L_value h11 hc.2) rfl w_976 w_977 w_35 w_978 hdS_L_value (by decide) hz (Nat.le_of_ble_eq_true rfl) dL_areValues_124 rfl (fun hc => ?_)
      refine r_lstore (pc := 127) (lv' := [(0, .ref (B + 0)), (3, .int l3), (4, .int l4), (5, .int l5), (6, .int l6), (7, .int l7), (8, .long x9.1), (10, .long x10.1), (12, .long x11.1)]) X dL_areValues_127 (by decide) [1, 2, 3, 4, 5, 6, 7, 8, 0] rfl ?_
      refine r_aload_n (x := some 0) (pc := 129) X dL_areValues_129 0 rfl ?_
      refine r_iconst (v := 1) (pc := 130) X dL_areValues_130 (by decide) ?_
      refine r_iload (pc := 131) X dL_areValues_131 4 rfl ?_
      refine r_iload_n (pc := 133) X dL_areValues_133 1 rfl ?_
      refine r_iconst (v := 2) (pc := 134) X dL_areValues_134 (by decide) ?_
      refine r_iload (pc := 135) X dL_areValues_135 2 rfl ?_
      refine r_iload (pc := 137) X dL_areValues_137 3 rfl ?_
      refine bnd hf (fun x12 h12 hf => ?_)
      refine ifo hf (fun hz hf => ?_)
      refine y_callXSl (As := [.ref (B + 0), .int 1, .int l6, .int l3, .int 2, .int l4, .int l5]) (st := []) (pc := 139) X M Y hc (c_f_L_value h12 hc.2) rfl w_976 w_977 w_35 w_978 hdS_L_value (by decide) hz (Nat.le_of_ble_eq_true rfl) dL_areValues_139 rfl (fun hc => ?_)
      refine r_lstore (pc := 142) (lv' := [(0, .ref (B + 0)), (3, .int l3), (4, .int l4), (5, .int l5), (6, .int l6), (7, .int l7), (8, .long x9.1), (10, .long x10.1), (12, .long x11.1), (14, .long x12.1)]) X dL_areValues_142 (by decide) [1, 2, 3, 4, 5, 6, 7, 8, 9, 0] rfl ?_
      refine r_aload_n (x := some 0) (pc := 144) X dL_areValues_144 0 rfl ?_
      refine r_iconst (v := 2) (pc := 145) X dL_areValues_145 (by decide) ?_
      refine r_iload (pc := 146) X dL_areValues_146 4 rfl ?_
      refine r_iload_n (pc := 148) X dL_areValues_148 1 rfl ?_
      refine r_iconst (v := 1) (pc := 149) X dL_areValues_149 (by decide) ?_
      refine r_iload (pc := 150) X dL_areValues_150 2 rfl ?_
      refine r_iload (pc := 152) X dL_areValues_152 3 rfl ?_
      refine bnd hf (fun x13 h13 hf => ?_)
      refine ifo hf (fun hz hf => ?_)
      refine y_callXSl (As := [.ref (B + 0), .int 2, .int l6, .int l3, .int 1, .int l4, .int l5]) (st := []) (pc := 154) X M Y hc (c_f_L_value h13 hc.2) rfl w_976 w_977 w_35 w_978 hdS_L_value (by decide) hz (Nat.le_of_ble_eq_true rfl) dL_areValues_154 rfl (fun hc => ?_)
      refine r_lstore (pc := 157) (lv' := [(0, .ref (B + 0)), (3, .int l3), (4, .int l4), (5, .int l5), (6, .int l6), (7, .int l7), (8, .long x9.1), (10, .long x10.1), (12, .long x11.1), (14, .long x12.1), (16, .long x13.1)]) X dL_areValues_157 (by decide) [1, 2, 3, 4, 5, 6, 7, 8, 9, 10, 0] rfl ?_
      refine r_aload_n (x := some 0) (pc := 159) X dL_areValues_159 0 rfl ?_
      refine r_iconst (v := 3) (pc := 160) X dL_areValues_160 (by decide) ?_
      refine r_iload (pc := 161) X dL_areValues_161 4 rfl ?_
      refine r_iload_n (pc := 163) X dL_areValues_163 1 rfl ?_
      refine r_iconst (v := 1) (pc := 164) X dL_areValues_164 (by decide) ?_
      refine r_iload (pc := 165) X dL_areValues_165 2 rfl ?_
      refine r_iload (pc := 167) X dL_areValues_167 3 rfl ?_
      refine bnd hf (fun x14 h14 hf => ?_)
      refine ifo hf (fun hz hf => ?_)
      refine y_callXSl (As := [.ref (B + 0), .int 3, .int l6, .int l3, .int 1, .int l4, .int l5]) (st := []) (pc := 169) X M Y hc (c_f_L_value h14 hc.2) rfl w_976 w_977 w_35 w_978 hdS_L_value (by decide) hz (Nat.le_of_ble_eq_true rfl) dL_areValues_169 rfl (fun hc => ?_)
      refine r_lstore (pc := 172) (lv' := [(0, .ref (B + 0)), (3, .int l3), (4, .int l4), (5, .int l5), (6, .int l6), (7, .int l7), (8, .long x9.1), (10, .long x10.1), (12, .long x11.1), (14, .long x12.1), (16, .long x13.1), (18, .long x14.1)]) X dL_areValues_172 (by decide) [1, 2, 3, 4, 5, 6, 7, 8, 9, 10, 11, 0] rfl ?_
      refine r_aload_n (x := some 0) (pc := 174) X dL_areValues_174 0 rfl ?_
      refine r_iconst (v := 4) (pc := 175) X dL_areValues_175 (by decide) ?_
      refine r_iload (pc := 176) X dL_areValues_176 4 rfl ?_
      refine r_iload_n (pc := 178) X dL_areValues_178 1 rfl ?_
      refine r_iconst (v := 1) (pc := 179) X dL_areValues_179 (by decide) ?_
      refine r_iload (pc := 180) X dL_areValues_180 2 rfl ?_
      refine r_iload (pc := 182) X dL_areValues_182 3 rfl ?_
      refine bnd hf (fun x15 h15 hf => ?_)
      refine ifo hf (fun hz hf => ?_)
      refine y_callXSl (As := [.ref (B + 0), .int 4, .int l6, .int l3, .int 1, .int l4, .int l5]) (st := []) (pc := 184) X M Y hc (c_f_L_value h15 hc.2) rfl w_976 w_977 w_35 w_978 hdS_L_value (by decide) hz (Nat.le_of_ble_eq_true rfl) dL_areValues_184 rfl (fun hc => ?_)
      refine r_lstore (pc := 187) (lv' := [(0, .ref (B + 0)), (3, .int l3), (4, .int l4), (5, .int l5), (6, .int l6), (7, .int l7), (8, .long x9.1), (10, .long x10.1), (12, .long x11.1), (14, .long x12.1), (16, .long x13.1), (18, .long x14.1), (20, .long x15.1)]) X dL_areValues_187 (by decide) [1, 2, 3, 4, 5, 6, 7, 8, 9, 10, 11, 12, 0] rfl ?_
      refine r_aload_n (x := some 0) (pc := 189) X dL_areValues_189 0 rfl ?_
      refine r_iconst (v := 5) (pc := 190) X dL_areValues_190 (by decide) ?_
      refine r_iload (pc := 191) X dL_areValues_191 4 rfl ?_
      refine r_iload_n (pc := 193) X dL_areValues_193 1 rfl ?_
      refine r_iconst (v := 1) (pc := 194) X dL_areValues_194 (by decide) ?_
      refine r_iload (pc := 195) X dL_areValues_195 2 rfl ?_
      refine r_iload (pc := 197) X dL_areValues_197 3 rfl ?_
      refine bnd hf (fun x16 h16 hf => ?_)
      refine ifo hf (fun hz hf => ?_)
      refine y_callXSl (As := [.ref (B + 0), .int 5, .int l6, .int l3, .int 1, .int l4, .int l5]) (st := []) (pc := 199) X M Y hc (c_f_L_value h16 hc.2) rfl w_976 w_977 w_35 w_978 hdS_L_value (by decide) hz (Nat.le_of_ble_eq_true rfl) dL_areValues_199 rfl (fun hc => ?_)
      refine r_lstore (pc := 202) (lv' := [(0, .ref (B + 0)), (3, .int l3), (4, .int l4), (5, .int l5), (6, .int l6), (7, .int l7), (8, .long x9.1), (10, .long x10.1), (12, .long x11.1), (14, .long x12.1), (16, .long x13.1), (18, .long x14.1), (20, .long x15.1), (22, .long x16.1)]) X dL_areValues_202 (by decide) [1, 2, 3, 4, 5, 6, 7, 8, 9, 10, 11, 12, 13, 0] rfl ?_
      refine r_lload (pc := 204) X dL_areValues_204 6 rfl ?_
      refine r_lconst (v := 0) (pc := 206) X dL_areValues_206 (by decide) ?_
      refine b_lcmp_lt (tgt := 268) (pc := 207) X dL_areValues_207 dL_areValues_208 (by decide) hf (fun hf => ?_) (fun hf => ?_)
      · refine r_iconst (v := 0) (pc := 268) X dL_areValues_268 (by decide) ?_
        refine r_forget (lv' := [(8, .long x9.1), (12, .long x11.1), (16, .long x13.1), (18, .long x14.1), (20, .long x15.1), (22, .long x16.1)]) [6, 8, 10, 11, 12, 13] rfl ?_
        exact c_f_L_areValues_b269 X M Y hr hc hf
      · refine r_lload (pc := 211) X dL_areValues_211 6 rfl ?_
        refine r_lload (pc := 213) X dL_areValues_213 7 rfl ?_
        refine r_ladd (pc := 215) X dL_areValues_215 ?_
        refine r_iload (pc := 216) X dL_areValues_216 5 rfl ?_
        refine r_i2l (pc := 218) X dL_areValues_218 ?_
        refine b_lcmp_ne (tgt := 268) (pc := 219) X dL_areValues_219 dL_areValues_220 (by decide) hf (fun hf => ?_) (fun hf => ?_)
        · refine r_aload_n (x := some 0) (pc := 223) X dL_areValues_223 0 rfl ?_
          refine r_iconst (v := 0) (pc := 224) X dL_areValues_224 (by decide) ?_
          refine r_iconst (v := 0) (pc := 225) X dL_areValues_225 (by decide) ?_
          refine r_iload_n (pc := 226) X dL_areValues_226 1 rfl ?_
          refine r_iconst (v := 0) (pc := 227) X dL_areValues_227 (by decide) ?_
          refine r_iload (pc := 228) X dL_areValues_228 2 rfl ?_
          refine r_iload (pc := 230) X dL_areValues_230 3 rfl ?_
          refine bnd hf (fun x17 h17 hf => ?_)
          refine ifo hf (fun hz hf => ?_)
          refine y_callXSl (As := [.ref (B + 0), .int 0, .int 0, .int l3, .int 0, .int l4, .int l5]) (st := []) (pc := 232) X M Y hc (c_f_L_value h17 hc.2) rfl w_976 w_977 w_35 w_978 hdS_L_value (by decide) hz (Nat.le_of_ble_eq_true rfl) dL_areValues_232 rfl (fun hc => ?_)
          refine r_iload (pc := 235) X dL_areValues_235 5 rfl ?_
          refine r_i2l (pc := 237) X dL_areValues_237 ?_
          refine b_lcmp_ne (tgt := 268) (pc := 238) X dL_areValues_238 dL_areValues_239 (by decide) hf (fun hf => ?_) (fun hf => ?_)
          · refine r_lload (pc := 242) X dL_areValues_242 8 rfl ?_
            refine r_lload (pc := 244) X dL_areValues_244 9 rfl ?_
            refine r_ladd (pc := 246) X dL_areValues_246 ?_
            refine r_aload_n (x := some 0) (pc := 247) X dL_areValues_247 0 rfl ?_
            refine r_iconst (v := 1) (pc := 248) X dL_areValues_248 (by decide) ?_
            refine r_iload (pc := 249) X dL_areValues_249 4 rfl ?_
            refine r_iload_n (pc := 251) X dL_areValues_251 1 rfl ?_
            refine r_iconst (v := 0) (pc := 252) X dL_areValues_252 (by decide) ?_
            refine r_iload (pc := 253) X dL_areValues_253 2 rfl ?_
            refine r_iload (pc := 255) X dL_areValues_255 3 rfl ?_
            refine bnd hf (fun x18 h18 hf => ?_)
            refine ifo hf (fun hz hf => ?_)
            refine y_callXSl (As := [.ref (B + 0), .int 1, .int l6, .int l3, .int 0, .int l4, .int l5]) (st := [.long (x11.1 + x12.1)]) (pc := 257) X M Y hc (c_f_L_value h18 hc.2) rfl w_976 w_977 w_35 w_978 hdS_L_value (by decide) hz (Nat.le_of_ble_eq_true rfl) dL_areValues_257 rfl (fun hc => ?_)
            refine b_lcmp_ne (tgt := 268) (pc := 260) X dL_areValues_260 dL_areValues_261 (by decide) hf (fun hf => ?_) (fun hf => ?_)
            · refine r_iconst (v := 1) (pc := 264) X dL_areValues_264 (by decide) ?_
              refine r_goto (tgt := 269) (pc := 265) X dL_areValues_265 (by decide) ?_
              refine r_forget (lv' := [(8, .long x9.1), (12, .long x11.1), (16, .long x13.1), (18, .long x14.1), (20, .long x15.1), (22, .long x16.1)]) [6, 8, 10, 11, 12, 13] rfl ?_
              exact c_f_L_areValues_b269 X M Y hr hc hf
            · refine r_iconst (v := 0) (pc := 268) X dL_areValues_268 (by decide) ?_
              refine r_forget (lv' := [(8, .long x9.1), (12, .long x11.1), (16, .long x13.1), (18, .long x14.1), (20, .long x15.1), (22, .long x16.1)]) [6, 8, 10, 11, 12, 13] rfl ?_
              exact c_f_L_areValues_b269 X M Y hr hc hf
          · refine r_iconst (v := 0) (pc := 268) X dL_areValues_268 (by decide) ?_
            refine r_forget (lv' := [(8, .long x9.1), (12, .long x11.1), (16, .long x13.1), (18, .long x14.1), (20, .long x15.1), (22, .long x16.1)]) [6, 8, 10, 11, 12, 13] rfl ?_
            exact c_f_L_areValues_b269 X M Y hr hc hf
        · refine r_iconst (v := 0) (pc := 268) X dL_areValues_268 (by decide) ?_
          refine r_forget (lv' := [(8, .long x9.1), (12, .long x11.1), (16, .long x13.1), (18, .long x14.1), (20, .long x15.1), (22, .long x16.1)]) [6, 8, 10, 11, 12, 13] rfl ?_
          exact c_f_L_areValues_b269 X M Y hr hc hf
    · refine r_iload (pc := 52) X dL_areValues_52 7 rfl ?_
      refine r_aload_n (x := some 40) (pc := 54) X dL_areValues_54 1 rfl ?_
      refine r_iload (pc := 55) X dL_areValues_55 8 rfl ?_
      refine b_iald (pc := 57) X ce_40 dL_areValues_57 hf (fun j19 hf => ?_)
      refine r_iload (pc := 58) X dL_areValues_58 4 rfl ?_
      refine b_icmp_lt (tgt := 76) (pc := 60) X dL_areValues_60 (by decide) hf (fun hf => ?_) (fun hf => ?_)
      · refine r_iconst (v := 0) (pc := 76) X dL_areValues_76 (by decide) ?_
        refine r_iadd (pc := 77) X dL_areValues_77 ?_
        refine r_istore (pc := 78) (lv' := [(0, .ref (B + 0)), (1, .ref (B + 40)), (2, .ref (B + 39)), (3, .int l3), (4, .int l4), (5, .int l5), (6, .int l6), (7, .int (l7 + 0)), (8, .int l8)]) X dL_areValues_78 (by decide) [1, 2, 3, 4, 5, 6, 7, 0, 8] rfl ?_
        refine r_iinc (v := l8 + 1) (lv' := [(0, .ref (B + 0)), (1, .ref (B + 40)), (2, .ref (B + 39)), (3, .int l3), (4, .int l4), (5, .int l5), (6, .int l6), (7, .int (l7 + 0)), (8, .int (l8 + 1))]) (pc := 80) X dL_areValues_80 8 rfl rfl (by decide) [1, 2, 3, 4, 5, 6, 7, 8, 0] rfl ?_
        refine r_goto (tgt := 44) (pc := 83) X dL_areValues_83 (by decide) ?_
        exact ih hc hf
      · refine r_aload_n (x := some 40) (pc := 63) X dL_areValues_63 1 rfl ?_
        refine r_iload (pc := 64) X dL_areValues_64 8 rfl ?_
        refine b_iald (pc := 66) X ce_40 dL_areValues_66 hf (fun j20 hf => ?_)
        refine r_iload (pc := 67) X dL_areValues_67 5 rfl ?_
        refine b_icmp_gt (tgt := 76) (pc := 69) X dL_areValues_69 (by decide) hf (fun hf => ?_) (fun hf => ?_)
        · refine r_iconst (v := 0) (pc := 76) X dL_areValues_76 (by decide) ?_
          refine r_iadd (pc := 77) X dL_areValues_77 ?_
          refine r_istore (pc := 78) (lv' := [(0, .ref (B + 0)), (1, .ref (B + 40)), (2, .ref (B + 39)), (3, .int l3), (4, .int l4), (5, .int l5), (6, .int l6), (7, .int (l7 + 0)), (8, .int l8)]) X dL_areValues_78 (by decide) [1, 2, 3, 4, 5, 6, 7, 0, 8] rfl ?_
          refine r_iinc (v := l8 + 1) (lv' := [(0, .ref (B + 0)), (1, .ref (B + 40)), (2, .ref (B + 39)), (3, .int l3), (4, .int l4), (5, .int l5), (6, .int l6), (7, .int (l7 + 0)), (8, .int (l8 + 1))]) (pc := 80) X dL_areValues_80 8 rfl rfl (by decide) [1, 2, 3, 4, 5, 6, 7, 8, 0] rfl ?_
          refine r_goto (tgt := 44) (pc := 83) X dL_areValues_83 (by decide) ?_
          exact ih hc hf
        · refine r_iconst (v := 1) (pc := 72) X dL_areValues_72 (by decide) ?_
          refine r_goto (tgt := 77) (pc := 73) X dL_areValues_73 (by decide) ?_
          refine r_iadd (pc := 77) X dL_areValues_77 ?_
          refine r_istore (pc := 78) (lv' := [(0, .ref (B + 0)), (1, .ref (B + 40)), (2, .ref (B + 39)), (3, .int l3), (4, .int l4), (5, .int l5), (6, .int l6), (7, .int (l7 + 1)), (8, .int l8)]) X dL_areValues_78 (by decide) [1, 2, 3, 4, 5, 6, 7, 0, 8] rfl ?_
          refine r_iinc (v := l8 + 1) (lv' := [(0, .ref (B + 0)), (1, .ref (B + 40)), (2, .ref (B + 39)), (3, .int l3), (4, .int l4), (5, .int l5), (6, .int l6), (7, .int (l7 + 1)), (8, .int (l8 + 1))]) (pc := 80) X dL_areValues_80 8 rfl rfl (by decide) [1, 2, 3, 4, 5, 6, 7, 8, 0] rfl ?_
          refine r_goto (tgt := 44) (pc := 83) X dL_areValues_83 (by decide) ?_
          exact ih hc hf
set_option maxHeartbeats 1000000 in
theorem c_f_L_areValues {F Z : Nat} {s : St} {p3 : Int32} {r : Int32} {s' : St} (hf : f_L_areValues F Z s p3 = some (r, s')) (hz : ct s ≤ Z) : CX true yL_areValues (Cond.code yL_areValues cL_areValues 25 (some .boolean)) 806 16550 (64 * (Z - ct s)) (768 * (Z - ct s)) (fun B => [.ref (B + 0), .ref (B + 40), .ref (B + 39), .int p3]) s (fun B => .inl (some (.int r))) s' (64 * (ct s' - ct s)) (768 * (ct s' - ct s)) := by
  refine CX.ofL (fun B => [(0, .ref (B + 0)), (1, .ref (B + 40)), (2, .ref (B + 39)), (3, .int p3)]) (by decide +kernel) (fun _ => rfl) (fun _ => (by simp [lg_sl, rfB_cat, catI, catL, catR])) (fun Γ D B X Y hr => ?_)
  have X : Cx Γ RL cL_areValues 25 D B (RMg Z (ct s) 806 16550) := X
  have M : RLe (RMg Z (ct s) 806 16550) Z 0 0 (ct s) 806 16550 := RLe.rf
  have hc : Hc (ct s) Z s := ⟨Nat.le_refl _, hz⟩
  unfold f_L_areValues at hf
  refine r_iload_n (pc := 0) X dL_areValues_0 3 rfl ?_
  refine r_aload_n (x := some 0) (pc := 1) X dL_areValues_1 0 rfl ?_
  refine bnd hf (fun x1 h1 hf => ?_)
  refine y_callVi (As := []) (st := [.int p3]) (pc := 2) X M hc (c_f_P_now h1) rfl w_317 w_318 w_319 w_36 w_320 hdV_X10_now (Rc.s rfl ce_0) (by decide) (Nat.le_of_ble_eq_true rfl) dL_areValues_2 rfl hf (fun s2 hc hf => ?_)
  refine r_iconst (v := 1) (pc := 5) X dL_areValues_5 (by decide) ?_
  refine r_iadd (pc := 6) X dL_areValues_6 ?_
  refine ifz hf (fun hne hf => ?_)
  refine r_irem (pc := 7) X dL_areValues_7 hne ?_
  refine r_istore (pc := 8) (lv' := [(0, .ref (B + 0)), (1, .ref (B + 40)), (2, .ref (B + 39)), (3, .int p3), (4, .int (p3 - p3 / (x1.1 + 1) * (x1.1 + 1)))]) X dL_areValues_8 (by decide) [1, 2, 3, 4, 0] rfl ?_
  refine r_aload_n (x := some 0) (pc := 10) X dL_areValues_10 0 rfl ?_
  refine bnd hf (fun x3 h3 hf => ?_)
  refine y_callVi (As := []) (st := []) (pc := 11) X M hc (c_f_P_now h3) rfl w_317 w_318 w_319 w_36 w_320 hdV_X10_now (Rc.s rfl ce_0) (by decide) (Nat.le_of_ble_eq_true rfl) dL_areValues_11 rfl hf (fun s4 hc hf => ?_)
  refine r_iload_n (pc := 14) X dL_areValues_14 3 rfl ?_
  refine r_bipush (v := 11) (pc := 15) X dL_areValues_15 (by decide) ?_
  refine r_idiv (pc := 17) X dL_areValues_17 (by decide) ?_
  refine r_aload_n (x := some 0) (pc := 18) X dL_areValues_18 0 rfl ?_
  refine bnd hf (fun x5 h5 hf => ?_)
  refine y_callVi (As := []) (st := [.int (p3 / 11), .int x3.1]) (pc := 19) X M hc (c_f_P_now h5) rfl w_317 w_318 w_319 w_36 w_320 hdV_X10_now (Rc.s rfl ce_0) (by decide) (Nat.le_of_ble_eq_true rfl) dL_areValues_19 rfl hf (fun s6 hc hf => ?_)
  refine r_iload (pc := 22) X dL_areValues_22 4 rfl ?_
  refine r_isub (pc := 24) X dL_areValues_24 ?_
  refine r_iconst (v := 1) (pc := 25) X dL_areValues_25 (by decide) ?_
  refine r_iadd (pc := 26) X dL_areValues_26 ?_
  refine ifz hf (fun hne hf => ?_)
  refine r_irem (pc := 27) X dL_areValues_27 hne ?_
  refine r_isub (pc := 28) X dL_areValues_28 ?_
  refine topi hf (fun x7 hf => ?_)
  refine r_istore (pc := 29) (lv' := [(0, .ref (B + 0)), (1, .ref (B + 40)), (2, .ref (B + 39)), (3, .int p3), (4, .int (p3 - p3 / (x1.1 + 1) * (x1.1 + 1))), (5, .int x7)]) X dL_areValues_29 (by decide) [1, 2, 3, 4, 5, 0] rfl ?_
  refine r_iload_n (pc := 31) X dL_areValues_31 3 rfl ?_
  refine r_iconst (v := 3) (pc := 32) X dL_areValues_32 (by decide) ?_
  refine r_idiv (pc := 33) X dL_areValues_33 (by decide) ?_
  refine r_iconst (v := 4) (pc := 34) X dL_areValues_34 (by decide) ?_
  refine r_irem (pc := 35) X dL_areValues_35 (by decide) ?_
  refine r_istore (pc := 36) (lv' := [(0, .ref (B + 0)), (1, .ref (B + 40)), (2, .ref (B + 39)), (3, .int p3), (4, .int (p3 - p3 / (x1.1 + 1) * (x1.1 + 1))), (5, .int x7), (6, .int ((p3 / 3) - (p3 / 3) / 4 * 4))]) X dL_areValues_36 (by decide) [1, 2, 3, 4, 5, 6, 0] rfl ?_
  refine r_iconst (v := 0) (pc := 38) X dL_areValues_38 (by decide) ?_
  refine r_istore (pc := 39) (lv' := [(0, .ref (B + 0)), (1, .ref (B + 40)), (2, .ref (B + 39)), (3, .int p3), (4, .int (p3 - p3 / (x1.1 + 1) * (x1.1 + 1))), (5, .int x7), (6, .int ((p3 / 3) - (p3 / 3) / 4 * 4)), (7, .int 0)]) X dL_areValues_39 (by decide) [1, 2, 3, 4, 5, 6, 7, 0] rfl ?_
  refine r_iconst (v := 0) (pc := 41) X dL_areValues_41 (by decide) ?_
  refine r_istore (pc := 42) (lv' := [(0, .ref (B + 0)), (1, .ref (B + 40)), (2, .ref (B + 39)), (3, .int p3), (4, .int (p3 - p3 / (x1.1 + 1) * (x1.1 + 1))), (5, .int x7), (6, .int ((p3 / 3) - (p3 / 3) / 4 * 4)), (7, .int 0), (8, .int 0)]) X dL_areValues_42 (by decide) [1, 2, 3, 4, 5, 6, 7, 8, 0] rfl ?_
  exact c_f_L_areValues_b44 X M Y hr _ hc hf
