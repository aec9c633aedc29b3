theorem wd_0 : ((Jvm.Cond.initialized "TripleDeskLaw")) ∈ lw_gd := lw_gd_in (i := 0) (by decide +kernel) rfl
theorem wd_654 : ((Jvm.Cond.methodLink "TripleDeskLaw" (78 : Nat) ({ cls := "TripleDeskLaw", name := "conditions", desc := "(LTripleDesk;[J)I" } : Jvm.MethodName))) ∈ lw_gd := lw_gd_in (i := 654) (by decide +kernel) rfl
theorem wd_655 : ((Jvm.Cond.static ({ cls := "TripleDeskLaw", name := "conditions", desc := "(LTripleDesk;[J)I" } : Jvm.MethodName))) ∈ lw_gd := lw_gd_in (i := 655) (by decide +kernel) rfl
theorem wd_656 : ((Jvm.Cond.codeWith ({ cls := "TripleDeskLaw", name := "conditions", desc := "(LTripleDesk;[J)I" } : Jvm.MethodName) method_3_code (3 : Nat) (Option.some Jvm.ClassFile.FieldType.int) [((0 : Nat), (8 : Nat), (11 : Nat), (13 : Nat))])) ∈ lw_gd := lw_gd_in (i := 656) (by decide +kernel) rfl
theorem wd_1400 : ((Jvm.Cond.methodLink "TripleDeskLaw" (83 : Nat) ({ cls := "TripleDeskModel", name := "conditions", desc := "()I" } : Jvm.MethodName))) ∈ lw_gd := lw_gd_in (i := 1400) (by decide +kernel) rfl
theorem wd_1401 : ((Jvm.Cond.instanceMethod ({ cls := "TripleDeskModel", name := "conditions", desc := "()I" } : Jvm.MethodName))) ∈ lw_gd := lw_gd_in (i := 1401) (by decide +kernel) rfl
theorem wd_1402 : ((Jvm.Cond.selects "TripleDeskModel" ({ cls := "TripleDeskModel", name := "conditions", desc := "()I" } : Jvm.MethodName) ({ cls := "TripleDeskModel", name := "conditions", desc := "()I" } : Jvm.MethodName))) ∈ lw_gd := lw_gd_in (i := 1402) (by decide +kernel) rfl
theorem wd_1403 : ((Jvm.Cond.code ({ cls := "TripleDeskModel", name := "conditions", desc := "()I" } : Jvm.MethodName) prog_13_method_73_code (1 : Nat) (Option.some Jvm.ClassFile.FieldType.int))) ∈ lw_gd := lw_gd_in (i := 1403) (by decide +kernel) rfl
theorem nbi8 {so sl sr ao al ar bo bl bq : Nat → Int32} {ld cl ln br zs za zb y : Nat} {kd ow sb f1 f2 te kp nm ck co : Nat → Nat} {tm : Nat → Int32} {pr po : List sgT} {pl : List itT} (hlo : lod ld cl ln br zs kd ow sb f1 f2 te kp nm ck co tm so sl sr) (hld : ld ≤ 1) (hE : imp1 ld (lgE so sl sr ao al ar bo bl bq zs za zb ln cl kd ow sb f1 f2 te kp nm ck co tm pr po pl)) (e : ld = y) : imp1 y (nbL8 (aLL pr po pl)) := by
  rcases hE with h | h
  · exact Or.inl (by omega)
  · rcases Nat.eq_zero_or_pos ld with q | q
    · exact Or.inl (by omega)
    · obtain ⟨⟨en, kc, hlw⟩, hcm, hbr, hcl, hln1, hsv⟩ := hlo (by omega)
      exact Or.inr (nbL8_of h hlw hln1 hcm)

abbrev b_lawm : ByteArray := code
theorem d_lawm_0 : decode b_lawm 0 = .ok (.new 8, 3) := by decide +kernel
theorem d_lawm_3 : decode b_lawm 3 = .ok (.dup, 1) := by decide +kernel
theorem d_lawm_4 : decode b_lawm 4 = .ok (.invokespecial 55, 3) := by decide +kernel
theorem d_lawm_7 : decode b_lawm 7 = .ok (.astore_n 1, 1) := by decide +kernel
theorem d_lawm_8 : decode b_lawm 8 = .ok (.new 56, 3) := by decide +kernel
theorem d_lawm_11 : decode b_lawm 11 = .ok (.dup, 1) := by decide +kernel
theorem d_lawm_12 : decode b_lawm 12 = .ok (.invokespecial 58, 3) := by decide +kernel
theorem d_lawm_15 : decode b_lawm 15 = .ok (.astore_n 2, 1) := by decide +kernel
theorem d_lawm_16 : decode b_lawm 16 = .ok (.iconst 1, 1) := by decide +kernel
theorem d_lawm_17 : decode b_lawm 17 = .ok (.newarray .long, 2) := by decide +kernel
theorem d_lawm_19 : decode b_lawm 19 = .ok (.astore_n 3, 1) := by decide +kernel
theorem d_lawm_20 : decode b_lawm 20 = .ok (.iconst 0, 1) := by decide +kernel
theorem d_lawm_21 : decode b_lawm 21 = .ok (.istore 4, 2) := by decide +kernel
theorem d_lawm_23 : decode b_lawm 23 = .ok (.iload 4, 2) := by decide +kernel
theorem d_lawm_25 : decode b_lawm 25 = .ok (.aload_n 0, 1) := by decide +kernel
theorem d_lawm_26 : decode b_lawm 26 = .ok (.arraylength, 1) := by decide +kernel
theorem d_lawm_27 : decode b_lawm 27 = .ok (.iconst 4, 1) := by decide +kernel
theorem d_lawm_28 : decode b_lawm 28 = .ok (.isub, 1) := by decide +kernel
theorem d_lawm_29 : decode b_lawm 29 = .ok (.if_icmp .gt 542, 3) := by decide +kernel
theorem d_lawm_32 : decode b_lawm 32 = .ok (.aload_n 0, 1) := by decide +kernel
theorem d_lawm_33 : decode b_lawm 33 = .ok (.iload 4, 2) := by decide +kernel
theorem d_lawm_35 : decode b_lawm 35 = .ok (.iaload, 1) := by decide +kernel
theorem d_lawm_36 : decode b_lawm 36 = .ok (.bipush 15, 2) := by decide +kernel
theorem d_lawm_38 : decode b_lawm 38 = .ok (.iand, 1) := by decide +kernel
theorem d_lawm_39 : decode b_lawm 39 = .ok (.tableswitch 526 0 14 #[73, 142, 155, 168, 181, 197, 265, 293, 309, 349, 377, 405, 442, 470, 498], 73) := by decide +kernel
theorem d_lawm_112 : decode b_lawm 112 = .ok (.aload_n 1, 1) := by decide +kernel
theorem d_lawm_113 : decode b_lawm 113 = .ok (.aload_n 0, 1) := by decide +kernel
theorem d_lawm_114 : decode b_lawm 114 = .ok (.iload 4, 2) := by decide +kernel
theorem d_lawm_116 : decode b_lawm 116 = .ok (.iconst 1, 1) := by decide +kernel
theorem d_lawm_117 : decode b_lawm 117 = .ok (.iadd, 1) := by decide +kernel
theorem d_lawm_118 : decode b_lawm 118 = .ok (.iaload, 1) := by decide +kernel
theorem d_lawm_119 : decode b_lawm 119 = .ok (.i2l, 1) := by decide +kernel
theorem d_lawm_120 : decode b_lawm 120 = .ok (.bipush 32, 2) := by decide +kernel
theorem d_lawm_122 : decode b_lawm 122 = .ok (.lshl, 1) := by decide +kernel
theorem d_lawm_123 : decode b_lawm 123 = .ok (.aload_n 0, 1) := by decide +kernel
theorem d_lawm_124 : decode b_lawm 124 = .ok (.iload 4, 2) := by decide +kernel
theorem d_lawm_126 : decode b_lawm 126 = .ok (.iconst 2, 1) := by decide +kernel
theorem d_lawm_127 : decode b_lawm 127 = .ok (.iadd, 1) := by decide +kernel
theorem d_lawm_128 : decode b_lawm 128 = .ok (.iaload, 1) := by decide +kernel
theorem d_lawm_129 : decode b_lawm 129 = .ok (.i2l, 1) := by decide +kernel
theorem d_lawm_130 : decode b_lawm 130 = .ok (.ldc2_w 59, 3) := by decide +kernel
theorem d_lawm_133 : decode b_lawm 133 = .ok (.land, 1) := by decide +kernel
theorem d_lawm_134 : decode b_lawm 134 = .ok (.lor, 1) := by decide +kernel
theorem d_lawm_135 : decode b_lawm 135 = .ok (.aload_n 0, 1) := by decide +kernel
theorem d_lawm_136 : decode b_lawm 136 = .ok (.iload 4, 2) := by decide +kernel
theorem d_lawm_138 : decode b_lawm 138 = .ok (.iconst 3, 1) := by decide +kernel
theorem d_lawm_139 : decode b_lawm 139 = .ok (.iadd, 1) := by decide +kernel
theorem d_lawm_140 : decode b_lawm 140 = .ok (.iaload, 1) := by decide +kernel
theorem d_lawm_141 : decode b_lawm 141 = .ok (.invokevirtual 61, 3) := by decide +kernel
theorem d_lawm_144 : decode b_lawm 144 = .ok (.pop, 1) := by decide +kernel
theorem d_lawm_145 : decode b_lawm 145 = .ok (.aload_n 2, 1) := by decide +kernel
theorem d_lawm_146 : decode b_lawm 146 = .ok (.aload_n 0, 1) := by decide +kernel
theorem d_lawm_147 : decode b_lawm 147 = .ok (.iload 4, 2) := by decide +kernel
theorem d_lawm_149 : decode b_lawm 149 = .ok (.iconst 1, 1) := by decide +kernel
theorem d_lawm_150 : decode b_lawm 150 = .ok (.iadd, 1) := by decide +kernel
theorem d_lawm_151 : decode b_lawm 151 = .ok (.iaload, 1) := by decide +kernel
theorem d_lawm_152 : decode b_lawm 152 = .ok (.i2l, 1) := by decide +kernel
theorem d_lawm_153 : decode b_lawm 153 = .ok (.bipush 32, 2) := by decide +kernel
theorem d_lawm_155 : decode b_lawm 155 = .ok (.lshl, 1) := by decide +kernel
theorem d_lawm_156 : decode b_lawm 156 = .ok (.aload_n 0, 1) := by decide +kernel
theorem d_lawm_157 : decode b_lawm 157 = .ok (.iload 4, 2) := by decide +kernel
theorem d_lawm_159 : decode b_lawm 159 = .ok (.iconst 2, 1) := by decide +kernel
theorem d_lawm_160 : decode b_lawm 160 = .ok (.iadd, 1) := by decide +kernel
theorem d_lawm_161 : decode b_lawm 161 = .ok (.iaload, 1) := by decide +kernel
theorem d_lawm_162 : decode b_lawm 162 = .ok (.i2l, 1) := by decide +kernel
theorem d_lawm_163 : decode b_lawm 163 = .ok (.ldc2_w 59, 3) := by decide +kernel
theorem d_lawm_166 : decode b_lawm 166 = .ok (.land, 1) := by decide +kernel
theorem d_lawm_167 : decode b_lawm 167 = .ok (.lor, 1) := by decide +kernel
theorem d_lawm_168 : decode b_lawm 168 = .ok (.aload_n 0, 1) := by decide +kernel
theorem d_lawm_169 : decode b_lawm 169 = .ok (.iload 4, 2) := by decide +kernel
theorem d_lawm_171 : decode b_lawm 171 = .ok (.iconst 3, 1) := by decide +kernel
theorem d_lawm_172 : decode b_lawm 172 = .ok (.iadd, 1) := by decide +kernel
theorem d_lawm_173 : decode b_lawm 173 = .ok (.iaload, 1) := by decide +kernel
theorem d_lawm_174 : decode b_lawm 174 = .ok (.invokevirtual 65, 3) := by decide +kernel
theorem d_lawm_177 : decode b_lawm 177 = .ok (.pop, 1) := by decide +kernel
theorem d_lawm_178 : decode b_lawm 178 = .ok (.goto 387, 3) := by decide +kernel
theorem d_lawm_181 : decode b_lawm 181 = .ok (.aload_n 1, 1) := by decide +kernel
theorem d_lawm_182 : decode b_lawm 182 = .ok (.invokevirtual 66, 3) := by decide +kernel
theorem d_lawm_185 : decode b_lawm 185 = .ok (.pop, 1) := by decide +kernel
theorem d_lawm_186 : decode b_lawm 186 = .ok (.aload_n 2, 1) := by decide +kernel
theorem d_lawm_187 : decode b_lawm 187 = .ok (.invokevirtual 69, 3) := by decide +kernel
theorem d_lawm_190 : decode b_lawm 190 = .ok (.pop, 1) := by decide +kernel
theorem d_lawm_191 : decode b_lawm 191 = .ok (.goto 374, 3) := by decide +kernel
theorem d_lawm_194 : decode b_lawm 194 = .ok (.aload_n 1, 1) := by decide +kernel
theorem d_lawm_195 : decode b_lawm 195 = .ok (.invokevirtual 70, 3) := by decide +kernel
theorem d_lawm_198 : decode b_lawm 198 = .ok (.pop, 1) := by decide +kernel
theorem d_lawm_199 : decode b_lawm 199 = .ok (.aload_n 2, 1) := by decide +kernel
theorem d_lawm_200 : decode b_lawm 200 = .ok (.invokevirtual 73, 3) := by decide +kernel
theorem d_lawm_203 : decode b_lawm 203 = .ok (.pop, 1) := by decide +kernel
theorem d_lawm_204 : decode b_lawm 204 = .ok (.goto 361, 3) := by decide +kernel
theorem d_lawm_207 : decode b_lawm 207 = .ok (.aload_n 1, 1) := by decide +kernel
theorem d_lawm_208 : decode b_lawm 208 = .ok (.invokevirtual 74, 3) := by decide +kernel
theorem d_lawm_211 : decode b_lawm 211 = .ok (.pop, 1) := by decide +kernel
theorem d_lawm_212 : decode b_lawm 212 = .ok (.aload_n 2, 1) := by decide +kernel
theorem d_lawm_213 : decode b_lawm 213 = .ok (.invokevirtual 77, 3) := by decide +kernel
theorem d_lawm_216 : decode b_lawm 216 = .ok (.pop, 1) := by decide +kernel
theorem d_lawm_217 : decode b_lawm 217 = .ok (.goto 348, 3) := by decide +kernel
theorem d_lawm_220 : decode b_lawm 220 = .ok (.aload_n 1, 1) := by decide +kernel
theorem d_lawm_221 : decode b_lawm 221 = .ok (.aload_n 3, 1) := by decide +kernel
theorem d_lawm_222 : decode b_lawm 222 = .ok (.invokestatic 78, 3) := by decide +kernel
theorem d_lawm_225 : decode b_lawm 225 = .ok (.istore 5, 2) := by decide +kernel
theorem d_lawm_227 : decode b_lawm 227 = .ok (.aload_n 2, 1) := by decide +kernel
theorem d_lawm_228 : decode b_lawm 228 = .ok (.invokevirtual 83, 3) := by decide +kernel
theorem d_lawm_231 : decode b_lawm 231 = .ok (.istore 6, 2) := by decide +kernel
theorem d_lawm_233 : decode b_lawm 233 = .ok (.goto 332, 3) := by decide +kernel
theorem d_lawm_236 : decode b_lawm 236 = .ok (.aload_n 1, 1) := by decide +kernel
theorem d_lawm_237 : decode b_lawm 237 = .ok (.aload_n 0, 1) := by decide +kernel
theorem d_lawm_238 : decode b_lawm 238 = .ok (.iload 4, 2) := by decide +kernel
theorem d_lawm_240 : decode b_lawm 240 = .ok (.iconst 1, 1) := by decide +kernel
theorem d_lawm_241 : decode b_lawm 241 = .ok (.iadd, 1) := by decide +kernel
theorem d_lawm_242 : decode b_lawm 242 = .ok (.iaload, 1) := by decide +kernel
theorem d_lawm_243 : decode b_lawm 243 = .ok (.aload_n 0, 1) := by decide +kernel
theorem d_lawm_244 : decode b_lawm 244 = .ok (.iload 4, 2) := by decide +kernel
theorem d_lawm_246 : decode b_lawm 246 = .ok (.iconst 2, 1) := by decide +kernel
theorem d_lawm_247 : decode b_lawm 247 = .ok (.iadd, 1) := by decide +kernel
theorem d_lawm_248 : decode b_lawm 248 = .ok (.iaload, 1) := by decide +kernel
theorem d_lawm_249 : decode b_lawm 249 = .ok (.aload_n 3, 1) := by decide +kernel
theorem d_lawm_250 : decode b_lawm 250 = .ok (.invokestatic 84, 3) := by decide +kernel
theorem d_lawm_253 : decode b_lawm 253 = .ok (.istore 5, 2) := by decide +kernel
theorem d_lawm_255 : decode b_lawm 255 = .ok (.aload_n 2, 1) := by decide +kernel
theorem d_lawm_256 : decode b_lawm 256 = .ok (.aload_n 0, 1) := by decide +kernel
theorem d_lawm_257 : decode b_lawm 257 = .ok (.iload 4, 2) := by decide +kernel
theorem d_lawm_259 : decode b_lawm 259 = .ok (.iconst 1, 1) := by decide +kernel
theorem d_lawm_260 : decode b_lawm 260 = .ok (.iadd, 1) := by decide +kernel
theorem d_lawm_261 : decode b_lawm 261 = .ok (.iaload, 1) := by decide +kernel
theorem d_lawm_262 : decode b_lawm 262 = .ok (.aload_n 0, 1) := by decide +kernel
theorem d_lawm_263 : decode b_lawm 263 = .ok (.iload 4, 2) := by decide +kernel
theorem d_lawm_265 : decode b_lawm 265 = .ok (.iconst 2, 1) := by decide +kernel
theorem d_lawm_266 : decode b_lawm 266 = .ok (.iadd, 1) := by decide +kernel
theorem d_lawm_267 : decode b_lawm 267 = .ok (.iaload, 1) := by decide +kernel
theorem d_lawm_268 : decode b_lawm 268 = .ok (.invokevirtual 87, 3) := by decide +kernel
theorem d_lawm_271 : decode b_lawm 271 = .ok (.istore 6, 2) := by decide +kernel
theorem d_lawm_273 : decode b_lawm 273 = .ok (.aload_n 2, 1) := by decide +kernel
theorem d_lawm_274 : decode b_lawm 274 = .ok (.invokevirtual 88, 3) := by decide +kernel
theorem d_lawm_277 : decode b_lawm 277 = .ok (.iload 5, 2) := by decide +kernel
theorem d_lawm_279 : decode b_lawm 279 = .ok (.if_icmp .eq 5, 3) := by decide +kernel
theorem d_lawm_284 : decode b_lawm 284 = .ok (.iload 5, 2) := by decide +kernel
theorem d_lawm_286 : decode b_lawm 286 = .ok (.ifCond .ne 15, 3) := by decide +kernel
theorem d_lawm_289 : decode b_lawm 289 = .ok (.aload_n 3, 1) := by decide +kernel
theorem d_lawm_290 : decode b_lawm 290 = .ok (.iconst 0, 1) := by decide +kernel
theorem d_lawm_291 : decode b_lawm 291 = .ok (.laload, 1) := by decide +kernel
theorem d_lawm_292 : decode b_lawm 292 = .ok (.iload 6, 2) := by decide +kernel
theorem d_lawm_294 : decode b_lawm 294 = .ok (.i2l, 1) := by decide +kernel
theorem d_lawm_295 : decode b_lawm 295 = .ok (.lcmp, 1) := by decide +kernel
theorem d_lawm_296 : decode b_lawm 296 = .ok (.ifCond .eq 5, 3) := by decide +kernel
theorem d_lawm_301 : decode b_lawm 301 = .ok (.goto 264, 3) := by decide +kernel
theorem d_lawm_304 : decode b_lawm 304 = .ok (.aload_n 1, 1) := by decide +kernel
theorem d_lawm_305 : decode b_lawm 305 = .ok (.aload_n 0, 1) := by decide +kernel
theorem d_lawm_306 : decode b_lawm 306 = .ok (.iload 4, 2) := by decide +kernel
theorem d_lawm_308 : decode b_lawm 308 = .ok (.iconst 1, 1) := by decide +kernel
theorem d_lawm_309 : decode b_lawm 309 = .ok (.iadd, 1) := by decide +kernel
theorem d_lawm_310 : decode b_lawm 310 = .ok (.iaload, 1) := by decide +kernel
theorem d_lawm_311 : decode b_lawm 311 = .ok (.aload_n 3, 1) := by decide +kernel
theorem d_lawm_312 : decode b_lawm 312 = .ok (.invokestatic 91, 3) := by decide +kernel
theorem d_lawm_315 : decode b_lawm 315 = .ok (.istore 5, 2) := by decide +kernel
theorem d_lawm_317 : decode b_lawm 317 = .ok (.aload_n 2, 1) := by decide +kernel
theorem d_lawm_318 : decode b_lawm 318 = .ok (.aload_n 0, 1) := by decide +kernel
theorem d_lawm_319 : decode b_lawm 319 = .ok (.iload 4, 2) := by decide +kernel
theorem d_lawm_321 : decode b_lawm 321 = .ok (.iconst 1, 1) := by decide +kernel
theorem d_lawm_322 : decode b_lawm 322 = .ok (.iadd, 1) := by decide +kernel
theorem d_lawm_323 : decode b_lawm 323 = .ok (.iaload, 1) := by decide +kernel
theorem d_lawm_324 : decode b_lawm 324 = .ok (.invokevirtual 94, 3) := by decide +kernel
theorem d_lawm_327 : decode b_lawm 327 = .ok (.istore 6, 2) := by decide +kernel
theorem d_lawm_329 : decode b_lawm 329 = .ok (.goto 236, 3) := by decide +kernel
theorem d_lawm_332 : decode b_lawm 332 = .ok (.aload_n 1, 1) := by decide +kernel
theorem d_lawm_333 : decode b_lawm 333 = .ok (.aload_n 3, 1) := by decide +kernel
theorem d_lawm_334 : decode b_lawm 334 = .ok (.invokestatic 95, 3) := by decide +kernel
theorem d_lawm_337 : decode b_lawm 337 = .ok (.istore 5, 2) := by decide +kernel
theorem d_lawm_339 : decode b_lawm 339 = .ok (.aload_n 2, 1) := by decide +kernel
theorem d_lawm_340 : decode b_lawm 340 = .ok (.invokevirtual 97, 3) := by decide +kernel
theorem d_lawm_343 : decode b_lawm 343 = .ok (.istore 6, 2) := by decide +kernel
theorem d_lawm_345 : decode b_lawm 345 = .ok (.goto 220, 3) := by decide +kernel
theorem d_lawm_348 : decode b_lawm 348 = .ok (.aload_n 1, 1) := by decide +kernel
theorem d_lawm_349 : decode b_lawm 349 = .ok (.aload_n 0, 1) := by decide +kernel
theorem d_lawm_350 : decode b_lawm 350 = .ok (.iload 4, 2) := by decide +kernel
theorem d_lawm_352 : decode b_lawm 352 = .ok (.iconst 1, 1) := by decide +kernel
theorem d_lawm_353 : decode b_lawm 353 = .ok (.iadd, 1) := by decide +kernel
theorem d_lawm_354 : decode b_lawm 354 = .ok (.iaload, 1) := by decide +kernel
theorem d_lawm_355 : decode b_lawm 355 = .ok (.aload_n 0, 1) := by decide +kernel
theorem d_lawm_356 : decode b_lawm 356 = .ok (.iload 4, 2) := by decide +kernel
theorem d_lawm_358 : decode b_lawm 358 = .ok (.iconst 2, 1) := by decide +kernel
theorem d_lawm_359 : decode b_lawm 359 = .ok (.iadd, 1) := by decide +kernel
theorem d_lawm_360 : decode b_lawm 360 = .ok (.iaload, 1) := by decide +kernel
theorem d_lawm_361 : decode b_lawm 361 = .ok (.aload_n 3, 1) := by decide +kernel
theorem d_lawm_362 : decode b_lawm 362 = .ok (.invokestatic 98, 3) := by decide +kernel
theorem d_lawm_365 : decode b_lawm 365 = .ok (.istore 5, 2) := by decide +kernel
theorem d_lawm_367 : decode b_lawm 367 = .ok (.aload_n 2, 1) := by decide +kernel
theorem d_lawm_368 : decode b_lawm 368 = .ok (.aload_n 0, 1) := by decide +kernel
theorem d_lawm_369 : decode b_lawm 369 = .ok (.iload 4, 2) := by decide +kernel
theorem d_lawm_371 : decode b_lawm 371 = .ok (.iconst 1, 1) := by decide +kernel
theorem d_lawm_372 : decode b_lawm 372 = .ok (.iadd, 1) := by decide +kernel
theorem d_lawm_373 : decode b_lawm 373 = .ok (.iaload, 1) := by decide +kernel
theorem d_lawm_374 : decode b_lawm 374 = .ok (.aload_n 0, 1) := by decide +kernel
theorem d_lawm_375 : decode b_lawm 375 = .ok (.iload 4, 2) := by decide +kernel
theorem d_lawm_377 : decode b_lawm 377 = .ok (.iconst 2, 1) := by decide +kernel
theorem d_lawm_378 : decode b_lawm 378 = .ok (.iadd, 1) := by decide +kernel
theorem d_lawm_379 : decode b_lawm 379 = .ok (.iaload, 1) := by decide +kernel
theorem d_lawm_380 : decode b_lawm 380 = .ok (.invokevirtual 100, 3) := by decide +kernel
theorem d_lawm_383 : decode b_lawm 383 = .ok (.istore 6, 2) := by decide +kernel
theorem d_lawm_385 : decode b_lawm 385 = .ok (.goto 180, 3) := by decide +kernel
theorem d_lawm_388 : decode b_lawm 388 = .ok (.aload_n 1, 1) := by decide +kernel
theorem d_lawm_389 : decode b_lawm 389 = .ok (.aload_n 0, 1) := by decide +kernel
theorem d_lawm_390 : decode b_lawm 390 = .ok (.iload 4, 2) := by decide +kernel
theorem d_lawm_392 : decode b_lawm 392 = .ok (.iconst 1, 1) := by decide +kernel
theorem d_lawm_393 : decode b_lawm 393 = .ok (.iadd, 1) := by decide +kernel
theorem d_lawm_394 : decode b_lawm 394 = .ok (.iaload, 1) := by decide +kernel
theorem d_lawm_395 : decode b_lawm 395 = .ok (.aload_n 3, 1) := by decide +kernel
theorem d_lawm_396 : decode b_lawm 396 = .ok (.invokestatic 101, 3) := by decide +kernel
theorem d_lawm_399 : decode b_lawm 399 = .ok (.istore 5, 2) := by decide +kernel
theorem d_lawm_401 : decode b_lawm 401 = .ok (.aload_n 2, 1) := by decide +kernel
theorem d_lawm_402 : decode b_lawm 402 = .ok (.aload_n 0, 1) := by decide +kernel
theorem d_lawm_403 : decode b_lawm 403 = .ok (.iload 4, 2) := by decide +kernel
theorem d_lawm_405 : decode b_lawm 405 = .ok (.iconst 1, 1) := by decide +kernel
theorem d_lawm_406 : decode b_lawm 406 = .ok (.iadd, 1) := by decide +kernel
theorem d_lawm_407 : decode b_lawm 407 = .ok (.iaload, 1) := by decide +kernel
theorem d_lawm_408 : decode b_lawm 408 = .ok (.invokevirtual 103, 3) := by decide +kernel
theorem d_lawm_411 : decode b_lawm 411 = .ok (.istore 6, 2) := by decide +kernel
theorem d_lawm_413 : decode b_lawm 413 = .ok (.goto 152, 3) := by decide +kernel
theorem d_lawm_416 : decode b_lawm 416 = .ok (.aload_n 1, 1) := by decide +kernel
theorem d_lawm_417 : decode b_lawm 417 = .ok (.aload_n 0, 1) := by decide +kernel
theorem d_lawm_418 : decode b_lawm 418 = .ok (.iload 4, 2) := by decide +kernel
theorem d_lawm_420 : decode b_lawm 420 = .ok (.iconst 1, 1) := by decide +kernel
theorem d_lawm_421 : decode b_lawm 421 = .ok (.iadd, 1) := by decide +kernel
theorem d_lawm_422 : decode b_lawm 422 = .ok (.iaload, 1) := by decide +kernel
theorem d_lawm_423 : decode b_lawm 423 = .ok (.aload_n 3, 1) := by decide +kernel
theorem d_lawm_424 : decode b_lawm 424 = .ok (.invokestatic 104, 3) := by decide +kernel
theorem d_lawm_427 : decode b_lawm 427 = .ok (.istore 5, 2) := by decide +kernel
theorem d_lawm_429 : decode b_lawm 429 = .ok (.aload_n 2, 1) := by decide +kernel
theorem d_lawm_430 : decode b_lawm 430 = .ok (.aload_n 0, 1) := by decide +kernel
theorem d_lawm_431 : decode b_lawm 431 = .ok (.iload 4, 2) := by decide +kernel
theorem d_lawm_433 : decode b_lawm 433 = .ok (.iconst 1, 1) := by decide +kernel
theorem d_lawm_434 : decode b_lawm 434 = .ok (.iadd, 1) := by decide +kernel
theorem d_lawm_435 : decode b_lawm 435 = .ok (.iaload, 1) := by decide +kernel
theorem d_lawm_436 : decode b_lawm 436 = .ok (.invokevirtual 106, 3) := by decide +kernel
theorem d_lawm_439 : decode b_lawm 439 = .ok (.istore 6, 2) := by decide +kernel
theorem d_lawm_441 : decode b_lawm 441 = .ok (.goto 124, 3) := by decide +kernel
theorem d_lawm_444 : decode b_lawm 444 = .ok (.aload_n 1, 1) := by decide +kernel
theorem d_lawm_445 : decode b_lawm 445 = .ok (.aload_n 0, 1) := by decide +kernel
theorem d_lawm_446 : decode b_lawm 446 = .ok (.iload 4, 2) := by decide +kernel
theorem d_lawm_448 : decode b_lawm 448 = .ok (.iconst 1, 1) := by decide +kernel
theorem d_lawm_449 : decode b_lawm 449 = .ok (.iadd, 1) := by decide +kernel
theorem d_lawm_450 : decode b_lawm 450 = .ok (.iaload, 1) := by decide +kernel
theorem d_lawm_451 : decode b_lawm 451 = .ok (.aload_n 0, 1) := by decide +kernel
theorem d_lawm_452 : decode b_lawm 452 = .ok (.iload 4, 2) := by decide +kernel
theorem d_lawm_454 : decode b_lawm 454 = .ok (.iconst 2, 1) := by decide +kernel
theorem d_lawm_455 : decode b_lawm 455 = .ok (.iadd, 1) := by decide +kernel
theorem d_lawm_456 : decode b_lawm 456 = .ok (.iaload, 1) := by decide +kernel
theorem d_lawm_457 : decode b_lawm 457 = .ok (.invokestatic 107, 3) := by decide +kernel
theorem d_lawm_460 : decode b_lawm 460 = .ok (.istore 5, 2) := by decide +kernel
theorem d_lawm_462 : decode b_lawm 462 = .ok (.aload_n 2, 1) := by decide +kernel
theorem d_lawm_463 : decode b_lawm 463 = .ok (.aload_n 0, 1) := by decide +kernel
theorem d_lawm_464 : decode b_lawm 464 = .ok (.iload 4, 2) := by decide +kernel
theorem d_lawm_466 : decode b_lawm 466 = .ok (.iconst 1, 1) := by decide +kernel
theorem d_lawm_467 : decode b_lawm 467 = .ok (.iadd, 1) := by decide +kernel
theorem d_lawm_468 : decode b_lawm 468 = .ok (.iaload, 1) := by decide +kernel
theorem d_lawm_469 : decode b_lawm 469 = .ok (.aload_n 0, 1) := by decide +kernel
theorem d_lawm_470 : decode b_lawm 470 = .ok (.iload 4, 2) := by decide +kernel
theorem d_lawm_472 : decode b_lawm 472 = .ok (.iconst 2, 1) := by decide +kernel
theorem d_lawm_473 : decode b_lawm 473 = .ok (.iadd, 1) := by decide +kernel
theorem d_lawm_474 : decode b_lawm 474 = .ok (.iaload, 1) := by decide +kernel
theorem d_lawm_475 : decode b_lawm 475 = .ok (.invokevirtual 110, 3) := by decide +kernel
theorem d_lawm_478 : decode b_lawm 478 = .ok (.goto 87, 3) := by decide +kernel
theorem d_lawm_481 : decode b_lawm 481 = .ok (.aload_n 1, 1) := by decide +kernel
theorem d_lawm_482 : decode b_lawm 482 = .ok (.aload_n 0, 1) := by decide +kernel
theorem d_lawm_483 : decode b_lawm 483 = .ok (.iload 4, 2) := by decide +kernel
theorem d_lawm_485 : decode b_lawm 485 = .ok (.iconst 1, 1) := by decide +kernel
theorem d_lawm_486 : decode b_lawm 486 = .ok (.iadd, 1) := by decide +kernel
theorem d_lawm_487 : decode b_lawm 487 = .ok (.iaload, 1) := by decide +kernel
theorem d_lawm_488 : decode b_lawm 488 = .ok (.aload_n 3, 1) := by decide +kernel
theorem d_lawm_489 : decode b_lawm 489 = .ok (.invokestatic 111, 3) := by decide +kernel
theorem d_lawm_492 : decode b_lawm 492 = .ok (.istore 5, 2) := by decide +kernel
theorem d_lawm_494 : decode b_lawm 494 = .ok (.aload_n 2, 1) := by decide +kernel
theorem d_lawm_495 : decode b_lawm 495 = .ok (.aload_n 0, 1) := by decide +kernel
theorem d_lawm_496 : decode b_lawm 496 = .ok (.iload 4, 2) := by decide +kernel
theorem d_lawm_498 : decode b_lawm 498 = .ok (.iconst 1, 1) := by decide +kernel
theorem d_lawm_499 : decode b_lawm 499 = .ok (.iadd, 1) := by decide +kernel
theorem d_lawm_500 : decode b_lawm 500 = .ok (.iaload, 1) := by decide +kernel
theorem d_lawm_501 : decode b_lawm 501 = .ok (.invokevirtual 113, 3) := by decide +kernel
theorem d_lawm_504 : decode b_lawm 504 = .ok (.istore 6, 2) := by decide +kernel
theorem d_lawm_506 : decode b_lawm 506 = .ok (.goto 59, 3) := by decide +kernel
theorem d_lawm_509 : decode b_lawm 509 = .ok (.aload_n 1, 1) := by decide +kernel
theorem d_lawm_510 : decode b_lawm 510 = .ok (.aload_n 0, 1) := by decide +kernel
theorem d_lawm_511 : decode b_lawm 511 = .ok (.iload 4, 2) := by decide +kernel
theorem d_lawm_513 : decode b_lawm 513 = .ok (.iconst 1, 1) := by decide +kernel
theorem d_lawm_514 : decode b_lawm 514 = .ok (.iadd, 1) := by decide +kernel
theorem d_lawm_515 : decode b_lawm 515 = .ok (.iaload, 1) := by decide +kernel
theorem d_lawm_516 : decode b_lawm 516 = .ok (.aload_n 3, 1) := by decide +kernel
theorem d_lawm_517 : decode b_lawm 517 = .ok (.invokestatic 114, 3) := by decide +kernel
theorem d_lawm_520 : decode b_lawm 520 = .ok (.istore 5, 2) := by decide +kernel
theorem d_lawm_522 : decode b_lawm 522 = .ok (.aload_n 2, 1) := by decide +kernel
theorem d_lawm_523 : decode b_lawm 523 = .ok (.aload_n 0, 1) := by decide +kernel
theorem d_lawm_524 : decode b_lawm 524 = .ok (.iload 4, 2) := by decide +kernel
theorem d_lawm_526 : decode b_lawm 526 = .ok (.iconst 1, 1) := by decide +kernel
theorem d_lawm_527 : decode b_lawm 527 = .ok (.iadd, 1) := by decide +kernel
theorem d_lawm_528 : decode b_lawm 528 = .ok (.iaload, 1) := by decide +kernel
theorem d_lawm_529 : decode b_lawm 529 = .ok (.invokevirtual 116, 3) := by decide +kernel
theorem d_lawm_532 : decode b_lawm 532 = .ok (.lstore 6, 2) := by decide +kernel
theorem d_lawm_534 : decode b_lawm 534 = .ok (.goto 31, 3) := by decide +kernel
theorem d_lawm_537 : decode b_lawm 537 = .ok (.aload_n 1, 1) := by decide +kernel
theorem d_lawm_538 : decode b_lawm 538 = .ok (.aload_n 0, 1) := by decide +kernel
theorem d_lawm_539 : decode b_lawm 539 = .ok (.iload 4, 2) := by decide +kernel
theorem d_lawm_541 : decode b_lawm 541 = .ok (.iconst 1, 1) := by decide +kernel
theorem d_lawm_542 : decode b_lawm 542 = .ok (.iadd, 1) := by decide +kernel
theorem d_lawm_543 : decode b_lawm 543 = .ok (.iaload, 1) := by decide +kernel
theorem d_lawm_544 : decode b_lawm 544 = .ok (.aload_n 3, 1) := by decide +kernel
theorem d_lawm_545 : decode b_lawm 545 = .ok (.invokestatic 117, 3) := by decide +kernel
theorem d_lawm_548 : decode b_lawm 548 = .ok (.istore 5, 2) := by decide +kernel
theorem d_lawm_550 : decode b_lawm 550 = .ok (.aload_n 2, 1) := by decide +kernel
theorem d_lawm_551 : decode b_lawm 551 = .ok (.aload_n 0, 1) := by decide +kernel
theorem d_lawm_552 : decode b_lawm 552 = .ok (.iload 4, 2) := by decide +kernel
theorem d_lawm_554 : decode b_lawm 554 = .ok (.iconst 1, 1) := by decide +kernel
theorem d_lawm_555 : decode b_lawm 555 = .ok (.iadd, 1) := by decide +kernel
theorem d_lawm_556 : decode b_lawm 556 = .ok (.iaload, 1) := by decide +kernel
theorem d_lawm_557 : decode b_lawm 557 = .ok (.invokevirtual 119, 3) := by decide +kernel
theorem d_lawm_560 : decode b_lawm 560 = .ok (.istore 6, 2) := by decide +kernel
theorem d_lawm_562 : decode b_lawm 562 = .ok (.goto 3, 3) := by decide +kernel
theorem d_lawm_565 : decode b_lawm 565 = .ok (.iinc 4 4, 3) := by decide +kernel
theorem d_lawm_568 : decode b_lawm 568 = .ok (.goto (-545), 3) := by decide +kernel
theorem d_lawm_571 : decode b_lawm 571 = .ok (.iconst 1, 1) := by decide +kernel
theorem d_lawm_572 : decode b_lawm 572 = .ok (.ireturn, 1) := by decide +kernel
set_option maxHeartbeats 40000000 in
set_option maxRecDepth 100000 in
theorem lc_none {p : Program} {l : Launch} {e : Env} {s : State} {m : MethodId} {below : List Frame} {meth : Method} {c : Code} {D : va_G} {ax : Nat → ClassId} {b L : Nat} {xs : Nat → Int32} (hl : l.stackTraces = false) (C0 : lw_At p s m meth c b L xs) (hK : xk D ax s) {ad av : Nat → Nat} {fm : Nat} (hX : xsr ad av fm (fun q : Nat => s.heap.size ≤ q) s s.heap) (hnc : xnc s) {d0 m0 ot0 trn : Nat} (hL : L ≤ 2048) (hi1 : 4 * trn + 4 ≤ L) (hnext : LHd p l e s m below meth c b D ax d0 m0 ot0 23 (trn + 1)) {x1 x2 x3 : Int32} (hx1 : xs (Int32.toNatClampNeg (nI (4 * trn + 1))) = x1) (hx2 : xs (Int32.toNatClampNeg (nI (4 * trn + 2))) = x2) (hx3 : xs (Int32.toNatClampNeg (nI (4 * trn + 3))) = x3) : LHd p l e s m below meth c b D ax d0 m0 ot0 565 trn := by
  unfold LHd
  intro k0 r0 c0 p0 fd0 w0 e0 b0 a0 y0 g0 i0 ld k1 k2 ts gh9 at9 c1 n0 n1 n2 n3 cp z9 o0 q1 q2 q3 wt rl o1 o2 o3 bn fd1 fd2 fd3 fd4 w1 zw cw e1 b1 b2 b3 zb cb a1 a2 a3 za ca y1 y2 y3 zy cy h0 g1 g2 g3 g4 g5 g6 g7 g8 g9 ga gb cl ln br lp va h1 h2 h3 zs cs sy0 i1 i2 i3 i4 i5 i6 i7 i8 i9 ia ib cli lni bri lpi vai sy1 sy2 sy3 zt ct s_ahead s_at s_fault s_next s_amount s_made s_rows s_atoms s_first rv1 rv2 ml mf vf tb sd fo fl fr ro ix lv mo rw aa ff nb by9 bo bl bq ao al ar yo yl yr tm so sl sr tmi tno tnl tnr tk dm bw kd ow sb f1 f2 te kp nm ck co kdi owi sbi f1i f2i tei kpi nmi cki coi vs m1 m2 m3 m4 m5 m6 m7 m8 m9 m10 m11 m12 m13 m14 m15 m16 m17 m18 m19 m20 m21 m22 m23 m24 m25 m26 m27 m28 m29 m30 m31 m32 m33 m34 m35 m36 m37 m38 m39 m40 m41 m42 y_thrown y_taped y_size y_outSize y_kind y_value y_begin y_end y_failed y_isProgram y_half y_signs y_stacked y_name y_shift y_statements y_ifs y_whiles y_variants y_open y_isMade y_conditions y_kept y_tops y_used y_looked y_rows y_firstRow y_isBroken y_atoms z_tape z_out z_text z_textSize z_now z_items z_op z_number z_target z_termName z_termNumber z_first z_firstSize z_second z_secondSize z_hasVariant z_ghost z_link z_pool z_pooled z_sign z_stack z_opened z_conditionKind z_conditionNumber z_conditionAt z_conditionSize z_keep z_top z_work z_aside z_sizeOf z_whenTrue z_whenFalse z_path z_pathRow z_pathTrue z_bound z_isBound z_at z_values z_truth ov hc hs hts4 hgh hld hcy hcy2 hyo hcb8 hcb hbo hzb hb1 hb4 hbv hbt hca8 hca hao hza hz1 hz4 hav hat hcs8 hcs hso hzs hlo hct hct2 htno hzt hcp hz9 hmx hfo hsd hfm hrlo hbw hwt hrl2 hcw hcw2 hzw hby htie htb htt hg hv0 hst0 hhf hip0 him hlp hldq hbn han hpg hf8 hnm hcw7 hcv8 hfn8 hml8 htx0 htx1 hmd hos htr hrc hrs H locs ls hP hD hS hl1
  obtain ⟨hx, hb, hr, hml, hown, hts0, hXs, hbl, hlocks, hgv⟩ := id C0
  have hts : ∀ w ∈ lw_gd, w.before #[Value.ref b] s = true := fun w hw => hts0 w (List.mem_filter.mp hw).1
  have hA : ∀ q : Nat, s.heap.size ≤ q → (fun q : Nat => s.heap.size ≤ q) q := fun _ h => h
  have hbA : ¬ (fun q : Nat => s.heap.size ≤ q) b := Nat.not_le.mpr hbl
  have hN : ∀ (q : Nat) (cell : Cell), s.heap[q]? = some cell → cell.vm.isStatics = true → ¬ (fun q : Nat => s.heap.size ≤ q) q := fun q cell h _ => Nat.not_le.mpr (Array.getElem?_eq_some_iff.mp h).1
  refine lv_iinc (v := nI (4 * trn + 4)) (lv' := [(4, .int (nI (4 * trn + 4))), (3, .ref ot0), (2, .ref m0), (1, .ref d0), (0, .ref b)]) hx hb d_lawm_565 hl1 (k := 0) rfl (nI_add (4 * trn) 4) (by decide) rfl (fun ls hl2 => ?_)
  clear hl1; have hl1 := hl2; clear hl2
  refine lv_goto (tgt := 23) hx hb d_lawm_568 (by decide) ?_
  rw [show 4 * trn + 4 = 4 * (trn + 1) by omega] at hl1
  have hl1 : lv_has ls 8 [(4, .int (nI (4 * (trn + 1)))), (3, .ref ot0), (2, .ref m0), (1, .ref d0), (0, .ref b)] := hl1
  have iv0 : ts ≤ 400 := (by first | assumption | omega)
  have iv1 : gh9 ≤ 1 := (by first | assumption | omega)
  have iv2 : ld ≤ 1 := (by first | assumption | omega)
  have iv3 : 8 ≤ cy := (by first | assumption | omega)
  have iv4 : cy ≤ 1024 := (by first | assumption | omega)
  have iv5 : bts yo cy := (by first | assumption)
  have iv6 : 8 ≤ cb := (by first | assumption | omega)
  have iv7 : cb ≤ 1024 := (by first | assumption | omega)
  have iv8 : bts bo cb := (by first | assumption)
  have iv9 : zb ≤ cb := (by first | assumption | omega)
  have iv10 : 1 ≤ zb := (by first | assumption | omega)
  have iv11 : zb ≤ 450 := (by first | assumption | omega)
  have iv12 : ndv bo bl bq zb := (by first | assumption)
  have iv13 : tsn bo bl bq (zb - 1) ≤ 450 := (by first | assumption)
  have iv14 : 8 ≤ ca := (by first | assumption | omega)
  have iv15 : ca ≤ 1024 := (by first | assumption | omega)
  have iv16 : bts ao ca := (by first | assumption)
  have iv17 : za ≤ ca := (by first | assumption | omega)
  have iv18 : 1 ≤ za := (by first | assumption | omega)
  have iv19 : za ≤ 450 := (by first | assumption | omega)
  have iv20 : ndv ao al ar za := (by first | assumption)
  have iv21 : tsn ao al ar (za - 1) ≤ 450 := (by first | assumption)
  have iv22 : 8 ≤ cs := (by first | assumption | omega)
  have iv23 : cs ≤ 1024 := (by first | assumption | omega)
  have iv24 : bts so cs := (by first | assumption)
  have iv25 : zs ≤ cs := (by first | assumption | omega)
  have iv26 : lod ld cl ln br zs kd ow sb f1 f2 te kp nm ck co tm so sl sr := (by first | assumption)
  have iv27 : 8 ≤ ct := (by first | assumption | omega)
  have iv28 : ct ≤ 1024 := (by first | assumption | omega)
  have iv29 : bts tno ct := (by first | assumption)
  have iv30 : zt ≤ ct := (by first | assumption | omega)
  have iv31 : 8 ≤ cp := (by first | assumption | omega)
  have iv32 : z9 ≤ cp := (by first | assumption | omega)
  have iv33 : cp ≤ 65536 := (by first | assumption | omega)
  have iv34 : bts fo cp := (by first | assumption)
  have iv35 : (∀ j, j ≤ 10 → trm (sd j)) := (by first | assumption)
  have iv36 : fmk s_made z9 fo fl fr := (by first | assumption)
  have iv37 : rlo rl cp := (by first | assumption)
  have iv38 : bnv mo bw bn := (by first | assumption)
  have iv39 : wt ≤ 64 := (by first | assumption | omega)
  have iv40 : rl ≤ 131072 := (by first | assumption | omega)
  have iv41 : 8 ≤ cw := (by first | assumption | omega)
  have iv42 : cw ≤ 819300 := (by first | assumption | omega)
  have iv43 : zw ≤ cw := (by first | assumption | omega)
  have iv44 : bts by9 cw := (by first | assumption)
  have iv45 : ts = y_taped := (by first | assumption | omega)
  have iv46 : bts tb 400 := (by first | assumption)
  have iv47 : z_tape = gtb tb := (by first | assumption)
  have iv48 : (∀ j, z_tape j < 256) := (by first | assumption)
  have iv49 : y_value < 20000 := (by first | assumption | omega)
  have iv50 : (∀ j, z_stack j < 100) := (by first | assumption)
  have iv51 : y_half ≤ 1 := (by first | assumption | omega)
  have iv52 : y_isProgram ≤ 1 := (by first | assumption | omega)
  have iv53 : y_isMade ≤ 1 := (by first | assumption | omega)
  have iv54 : imp1 y_isProgram (lpg y_half (z_items y_half) (z_pooled y_half) z_op z_link z_first z_firstSize z_second z_secondSize z_target z_ghost z_termName z_hasVariant z_pool) := (by first | assumption)
  have iv55 : ld = y_isProgram := (by first | assumption | omega)
  have iv56 : ndw bo bl bq zb (tls z_text z_textSize z_now 0) := (by first | assumption)
  have iv57 : ndw ao al ar za (tls z_text z_textSize z_now 1) := (by first | assumption)
  have iv58 : imp1 ld (∃ L : List sgT, pgQ so sl sr zs ln cl kd ow sb f1 f2 te kp nm ck co tm L (itl z_op z_number z_target z_ghost z_link z_first z_firstSize z_second z_secondSize z_termName z_termNumber z_hasVariant z_pool (40 * y_half) (z_items y_half))) := (by first | assumption)
  have iv59 : imp1 ld (fqm8 s_made z9 fo fl fr (tls z_text z_textSize z_now 0) (tls z_text z_textSize z_now 1) (itl z_op z_number z_target z_ghost z_link z_first z_firstSize z_second z_secondSize z_termName z_termNumber z_hasVariant z_pool (40 * y_half) (z_items y_half))) := (by first | assumption)
  have iv60 : imp1 y_isProgram (nmb 0 (itl z_op z_number z_target z_ghost z_link z_first z_firstSize z_second z_secondSize z_termName z_termNumber z_hasVariant z_pool (40 * y_half) (z_items y_half))) := (by first | assumption)
  have iv61 : imp1 y_isProgram (imp1 y_isMade (cdl z_conditionKind z_conditionNumber z_conditionAt z_conditionSize z_keep y_conditions = ((0, 0, imp9 (tls z_text z_textSize z_now 0) (fFm (tls z_text z_textSize z_now 1) (itl z_op z_number z_target z_ghost z_link z_first z_firstSize z_second z_secondSize z_termName z_termNumber z_hasVariant z_pool (40 * y_half) (z_items y_half)))) :: gCd (tls z_text z_textSize z_now 1) (itl z_op z_number z_target z_ghost z_link z_first z_firstSize z_second z_secondSize z_termName z_termNumber z_hasVariant z_pool (40 * y_half) (z_items y_half))))) := (by first | assumption)
  have iv62 : bcv8 mo bw bn := (by first | assumption)
  have iv63 : imp1 ld (fnQ8 rw aa ff nb (tls z_text z_textSize z_now 0) (tls z_text z_textSize z_now 1) (itl z_op z_number z_target z_ghost z_link z_first z_firstSize z_second z_secondSize z_termName z_termNumber z_hasVariant z_pool (40 * y_half) (z_items y_half))) := (by first | assumption)
  have iv64 : imp1 y_isProgram (imp1 y_isMade (mlQ8 y_looked y_rows y_firstRow y_conditions z_conditionAt z_conditionSize z_keep z_sizeOf z_whenTrue z_whenFalse)) := (by first | assumption)
  have iv65 : txo z_text z_textSize z_now 0 := (by first | assumption)
  have iv66 : txo z_text z_textSize z_now 1 := (by first | assumption)
  have iv67 : imp1 y_isMade (mad y_looked y_conditions y_kept z_keep z_conditionAt z_conditionSize z_sizeOf z_whenTrue z_whenFalse) := (by first | assumption)
  have iv68 : y_outSize ≤ 200000 := (by first | assumption | omega)
  have iv69 : (∀ j, z_truth j ≤ 1) := (by first | assumption)
  have iv70 : hc + ((1024 - cy) + (1024 - cb) + (1024 - ca) + (1024 - cs) + (1024 - ct)) + (65536 - cp) + (131072 - rl) + (819300 - cw) / 8 ≤ 310000 + (trn + 1) := (by first | assumption | omega)
  have iv71 : hs + 6 * ((1024 - cy) + (1024 - cb) + (1024 - ca) + (1024 - cs) + (1024 - ct)) + 6 * (65536 - cp) + 2 * (131072 - rl) + 2 * (819300 - cw) ≤ 4000000 + 6 * (trn + 1) := (by first | assumption | omega)
  exact hnext k0 r0 c0 p0 fd0 w0 e0 b0 a0 y0 g0 i0 ld k1 k2 ts gh9 at9 c1 n0 n1 n2 n3 cp z9 o0 q1 q2 q3 wt rl o1 o2 o3 bn fd1 fd2 fd3 fd4 w1 zw cw e1 b1 b2 b3 zb cb a1 a2 a3 za ca y1 y2 y3 zy cy h0 g1 g2 g3 g4 g5 g6 g7 g8 g9 ga gb cl ln br lp va h1 h2 h3 zs cs sy0 i1 i2 i3 i4 i5 i6 i7 i8 i9 ia ib cli lni bri lpi vai sy1 sy2 sy3 zt ct s_ahead s_at s_fault s_next s_amount s_made s_rows s_atoms s_first rv1 rv2 ml mf vf tb sd fo fl fr ro ix lv mo rw aa ff nb by9 bo bl bq ao al ar yo yl yr tm so sl sr tmi tno tnl tnr tk dm bw kd ow sb f1 f2 te kp nm ck co kdi owi sbi f1i f2i tei kpi nmi cki coi vs m1 m2 m3 m4 m5 m6 m7 m8 m9 m10 m11 m12 m13 m14 m15 m16 m17 m18 m19 m20 m21 m22 m23 m24 m25 m26 m27 m28 m29 m30 m31 m32 m33 m34 m35 m36 m37 m38 m39 m40 m41 m42 y_thrown y_taped y_size y_outSize y_kind y_value y_begin y_end y_failed y_isProgram y_half y_signs y_stacked y_name y_shift y_statements y_ifs y_whiles y_variants y_open y_isMade y_conditions y_kept y_tops y_used y_looked y_rows y_firstRow y_isBroken y_atoms z_tape z_out z_text z_textSize z_now z_items z_op z_number z_target z_termName z_termNumber z_first z_firstSize z_second z_secondSize z_hasVariant z_ghost z_link z_pool z_pooled z_sign z_stack z_opened z_conditionKind z_conditionNumber z_conditionAt z_conditionSize z_keep z_top z_work z_aside z_sizeOf z_whenTrue z_whenFalse z_path z_pathRow z_pathTrue z_bound z_isBound z_at z_values z_truth ov hc hs iv0 iv1 iv2 iv3 iv4 iv5 iv6 iv7 iv8 iv9 iv10 iv11 iv12 iv13 iv14 iv15 iv16 iv17 iv18 iv19 iv20 iv21 iv22 iv23 iv24 iv25 iv26 iv27 iv28 iv29 iv30 iv31 iv32 iv33 iv34 iv35 iv36 iv37 iv38 iv39 iv40 iv41 iv42 iv43 iv44 iv45 iv46 iv47 iv48 iv49 iv50 iv51 iv52 iv53 iv54 iv55 iv56 iv57 iv58 iv59 iv60 iv61 iv62 iv63 iv64 iv65 iv66 iv67 iv68 iv69 iv70 iv71 _ _ _ (hP.sub [0, 1, 2, 3, 4, 5, 6, 7, 8, 9, 10, 11, 12, 13, 14, 15, 16, 17, 18, 19, 20, 21, 22, 23, 24, 25, 26, 27, 28, 29, 30, 31, 32, 33, 34, 35, 36, 37, 38, 39, 40, 41, 42, 43, 44, 45, 46, 47, 48, 49, 50, 51, 52, 53, 54, 55, 56, 57, 58, 59, 60, 61, 62, 63, 64, 65, 66, 67, 68, 69, 70, 71, 72, 73, 74, 75, 76, 77, 78, 79, 80, 81, 82, 83, 84, 85, 86, 87, 88, 89, 90, 91, 92, 93, 94, 95, 96, 97, 98, 99, 100, 101, 102, 103, 104, 105, 106, 107, 108, 109, 110, 111, 112, 113, 114, 115] rfl) (hD.sub [0, 1, 2, 3, 4, 5, 6, 7, 8, 9, 10, 11, 12, 13, 14, 15, 16, 17, 18, 19, 20, 21, 22, 23, 24, 25, 26, 27, 28, 29, 30, 31, 32, 33, 34, 35, 36, 37, 38, 39, 40, 41, 42, 43, 44, 45, 46, 47, 48, 49, 50, 51, 52, 53, 54, 55, 56, 57, 58, 59, 60, 61, 62, 63, 64, 65, 66, 67, 68, 69, 70, 71, 72, 73, 74, 75, 76, 77, 78, 79, 80, 81, 82, 83, 84, 85, 86, 87, 88, 89, 90, 91, 92, 93, 94, 95, 96, 97, 98, 99, 100, 101, 102, 103, 104, 105, 106, 107, 108, 109, 110, 111, 112, 113, 114, 115] (by decide) rfl) hS (lv_sub hl1 [0, 1, 2, 3, 4] rfl)
set_option maxHeartbeats 40000000 in
set_option maxRecDepth 100000 in
theorem lc_conditions {p : Program} {l : Launch} {e : Env} {s : State} {m : MethodId} {below : List Frame} {meth : Method} {c : Code} {D : va_G} {ax : Nat → ClassId} {b L : Nat} {xs : Nat → Int32} (hl : l.stackTraces = false) (C0 : lw_At p s m meth c b L xs) (hK : xk D ax s) {ad av : Nat → Nat} {fm : Nat} (hX : xsr ad av fm (fun q : Nat => s.heap.size ≤ q) s s.heap) (hnc : xnc s) {d0 m0 ot0 trn : Nat} (hL : L ≤ 2048) (hi1 : 4 * trn + 4 ≤ L) (hnext : LHd p l e s m below meth c b D ax d0 m0 ot0 23 (trn + 1)) {x1 x2 x3 : Int32} (hx1 : xs (Int32.toNatClampNeg (nI (4 * trn + 1))) = x1) (hx2 : xs (Int32.toNatClampNeg (nI (4 * trn + 2))) = x2) (hx3 : xs (Int32.toNatClampNeg (nI (4 * trn + 3))) = x3) : LHd p l e s m below meth c b D ax d0 m0 ot0 220 trn := by
  unfold LHd
  intro k0 r0 c0 p0 fd0 w0 e0 b0 a0 y0 g0 i0 ld k1 k2 ts gh9 at9 c1 n0 n1 n2 n3 cp z9 o0 q1 q2 q3 wt rl o1 o2 o3 bn fd1 fd2 fd3 fd4 w1 zw cw e1 b1 b2 b3 zb cb a1 a2 a3 za ca y1 y2 y3 zy cy h0 g1 g2 g3 g4 g5 g6 g7 g8 g9 ga gb cl ln br lp va h1 h2 h3 zs cs sy0 i1 i2 i3 i4 i5 i6 i7 i8 i9 ia ib cli lni bri lpi vai sy1 sy2 sy3 zt ct s_ahead s_at s_fault s_next s_amount s_made s_rows s_atoms s_first rv1 rv2 ml mf vf tb sd fo fl fr ro ix lv mo rw aa ff nb by9 bo bl bq ao al ar yo yl yr tm so sl sr tmi tno tnl tnr tk dm bw kd ow sb f1 f2 te kp nm ck co kdi owi sbi f1i f2i tei kpi nmi cki coi vs m1 m2 m3 m4 m5 m6 m7 m8 m9 m10 m11 m12 m13 m14 m15 m16 m17 m18 m19 m20 m21 m22 m23 m24 m25 m26 m27 m28 m29 m30 m31 m32 m33 m34 m35 m36 m37 m38 m39 m40 m41 m42 y_thrown y_taped y_size y_outSize y_kind y_value y_begin y_end y_failed y_isProgram y_half y_signs y_stacked y_name y_shift y_statements y_ifs y_whiles y_variants y_open y_isMade y_conditions y_kept y_tops y_used y_looked y_rows y_firstRow y_isBroken y_atoms z_tape z_out z_text z_textSize z_now z_items z_op z_number z_target z_termName z_termNumber z_first z_firstSize z_second z_secondSize z_hasVariant z_ghost z_link z_pool z_pooled z_sign z_stack z_opened z_conditionKind z_conditionNumber z_conditionAt z_conditionSize z_keep z_top z_work z_aside z_sizeOf z_whenTrue z_whenFalse z_path z_pathRow z_pathTrue z_bound z_isBound z_at z_values z_truth ov hc hs hts4 hgh hld hcy hcy2 hyo hcb8 hcb hbo hzb hb1 hb4 hbv hbt hca8 hca hao hza hz1 hz4 hav hat hcs8 hcs hso hzs hlo hct hct2 htno hzt hcp hz9 hmx hfo hsd hfm hrlo hbw hwt hrl2 hcw hcw2 hzw hby htie htb htt hg hv0 hst0 hhf hip0 him hlp hldq hbn han hpg hf8 hnm hcw7 hcv8 hfn8 hml8 htx0 htx1 hmd hos htr hrc hrs H locs ls hP hD hS hl1
  obtain ⟨hx, hb, hr, hml, hown, hts0, hXs, hbl, hlocks, hgv⟩ := id C0
  have hts : ∀ w ∈ lw_gd, w.before #[Value.ref b] s = true := fun w hw => hts0 w (List.mem_filter.mp hw).1
  have hA : ∀ q : Nat, s.heap.size ≤ q → (fun q : Nat => s.heap.size ≤ q) q := fun _ h => h
  have hbA : ¬ (fun q : Nat => s.heap.size ≤ q) b := Nat.not_le.mpr hbl
  have hN : ∀ (q : Nat) (cell : Cell), s.heap[q]? = some cell → cell.vm.isStatics = true → ¬ (fun q : Nat => s.heap.size ≤ q) q := fun q cell h _ => Nat.not_le.mpr (Array.getElem?_eq_some_iff.mp h).1
  refine lv_aload_n hx hb d_lawm_220 rfl (lv_at hl1 3 rfl) ?_
  refine lv_aload_n hx hb d_lawm_221 rfl (lv_at hl1 1 rfl) ?_
  obtain ⟨hPc, hDc, hFc, hCs⟩ := xw_sub3 (wc := [(d0, .inr (10, [.ref k0, .ref r0, .ref c0, .ref p0, .ref fd0, .ref w0, .ref e0, .ref b0, .ref a0, .ref y0, .ref g0, .ref i0, .int (nI ld)])), (g0, .inr (2, [.ref h0, .ref g1, .ref g2, .ref g3, .ref g4, .ref g5, .ref g6, .ref g7, .ref g8, .ref g9, .ref ga, .ref gb, .int (nI cl), .int (nI ln), .int (nI br), .int (nI lp), .int (nI va)])), (ot0, .inl (ax 4, 1, .inr (.inl ov)))]) hP hD hS hA [0, 40, 115] (by decide) rfl
  have hz := xz_of hN hS
  refine wk_know (fun hk8 hk9 => ?_)
  refine va_calli (xt_toRun (xt_runS (As := [.ref d0, .ref ot0]) (rest := []) (n := 2) ⟨hx, hb, hml, hown, hts⟩ (c_law_conditions l hl D ax d0 k0 r0 c0 p0 fd0 w0 e0 b0 a0 y0 g0 i0 ld h0 g1 g2 g3 g4 g5 g6 g7 g8 g9 ga gb cl ln br lp va ot0 ov H.size (tsl H) hld) wd_656 wd_0 wd_654 wd_655 rfl rfl (by decide +kernel) ⟨(show (60) + 1 ≤ (2048) by omega), (show 8 + (3 + 11) + (2400) ≤ (84000) by omega)⟩ (xpS5 (As := [.ref d0, .ref ot0]) hnc hPc hK hz hDc) rfl rfl hl1.1 rfl (lv_room (Nat.le_of_ble_eq_true rfl)) d_lawm_222 ⟨(show (hc) + (1) ≤ (601024) by omega), (show (hs) + (6) ≤ (7293034) by omega)⟩) xt_Qi_ret) hS (fun q _ h => hFc q h) hFc (fun r_3 u_1 t H_2 locs ht hvm hw hB hz1 hk1 hS1 => ?_)
  try dsimp only at hw
  obtain ⟨hw, hs_4⟩ := hw
  subst hw
  obtain ⟨x_5, hg8, hg9, hx_6, hP1, hD1⟩ := hB
  rw [ht] at hg8 hg9 hP1
  have hjn := xw_join3 (wl := [(k0, .inr (9, [.ref k1, .ref k2, .int (nI ts), .int s_ahead, .int s_at, .int s_fault, .int s_next, .int s_amount])), (k1, .inl (ax 1, 400, .inl tb)), (k2, .inl (ax 0, 401, .inl (fun j => nI (tk j)))), (r0, .inr (7, [.ref k0, rv1, rv2, .int (nI gh9), .int (nI at9)])), (c0, .inr (3, [.ref n0, .ref c1, ml, mf, .int s_made])), (c1, .inl (ax 0, 16, .inl sd)), (n0, .inr (4, [.ref n1, .ref n2, .ref n3, .int (nI z9)])), (n1, .inl (ax 1, cp, .inl fo)), (n2, .inl (ax 0, cp, .inl fl)), (n3, .inl (ax 0, cp, .inl fr)), (p0, .inr (6, [.ref o0, .int s_rows, .int s_atoms, .int s_first, vf, .ref q1, .ref q2, .ref q3, .int (nI wt)])), (q1, .inl (ax 2, rl, .inl ro)), (q2, .inl (ax 0, 64, .inl (fun j => nI (dm j)))), (q3, .inl (ax 0, 64, .inl ix)), (o0, .inr (0, [.ref o1, .ref o2, .ref o3, .int (nI bn)])), (o1, .inl (ax 0, 11, .inl lv)), (o2, .inl (ax 0, 121, .inl mo)), (o3, .inl (ax 0, 121, .inl (fun j => nI (bw j)))), (fd0, .inr (1, [.ref fd1, .ref fd2, .ref fd3, .ref fd4])), (fd1, .inl (ax 2, 29, .inl rw)), (fd2, .inl (ax 2, 29, .inl aa)), (fd3, .inl (ax 2, 29, .inl ff)), (fd4, .inl (ax 0, 290, .inl nb)), (w0, .inr (5, [.ref w1, .int (nI zw)])), (w1, .inl (ax 1, cw, .inl by9)), (e0, .inr (8, [.ref e1])), (e1, .inl (ax 4, 6, .inr (.inl vs))), (b0, .inr (4, [.ref b1, .ref b2, .ref b3, .int (nI zb)])), (b1, .inl (ax 1, cb, .inl bo)), (b2, .inl (ax 0, cb, .inl bl)), (b3, .inl (ax 0, cb, .inl bq)), (a0, .inr (4, [.ref a1, .ref a2, .ref a3, .int (nI za)])), (a1, .inl (ax 1, ca, .inl ao)), (a2, .inl (ax 0, ca, .inl al)), (a3, .inl (ax 0, ca, .inl ar)), (y0, .inr (4, [.ref y1, .ref y2, .ref y3, .int (nI zy)])), (y1, .inl (ax 1, cy, .inl yo)), (y2, .inl (ax 0, cy, .inl yl)), (y3, .inl (ax 0, cy, .inl yr)), (g1, .inl (ax 1, 20, .inl (fun j => nI (kd j)))), (g2, .inl (ax 1, 20, .inl (fun j => nI (ow j)))), (g3, .inl (ax 1, 20, .inl (fun j => nI (sb j)))), (g4, .inl (ax 1, 20, .inl (fun j => nI (f1 j)))), (g5, .inl (ax 1, 20, .inl (fun j => nI (f2 j)))), (g6, .inl (ax 2, 20, .inl (fun j => nI (te j)))), (g7, .inl (ax 2, 20, .inl (fun j => nI (kp j)))), (g8, .inl (ax 0, 20, .inl tm)), (g9, .inl (ax 1, 20, .inl (fun j => nI (nm j)))), (ga, .inl (ax 1, 29, .inl (fun j => nI (ck j)))), (gb, .inl (ax 1, 29, .inl (fun j => nI (co j)))), (h0, .inr (4, [.ref h1, .ref h2, .ref h3, .int (nI zs)])), (h1, .inl (ax 1, cs, .inl so)), (h2, .inl (ax 0, cs, .inl sl)), (h3, .inl (ax 0, cs, .inl sr)), (i0, .inr (2, [.ref sy0, .ref i1, .ref i2, .ref i3, .ref i4, .ref i5, .ref i6, .ref i7, .ref i8, .ref i9, .ref ia, .ref ib, .int (nI cli), .int (nI lni), .int (nI bri), .int (nI lpi), .int (nI vai)])), (i1, .inl (ax 1, 20, .inl (fun j => nI (kdi j)))), (i2, .inl (ax 1, 20, .inl (fun j => nI (owi j)))), (i3, .inl (ax 1, 20, .inl (fun j => nI (sbi j)))), (i4, .inl (ax 1, 20, .inl (fun j => nI (f1i j)))), (i5, .inl (ax 1, 20, .inl (fun j => nI (f2i j)))), (i6, .inl (ax 2, 20, .inl (fun j => nI (tei j)))), (i7, .inl (ax 2, 20, .inl (fun j => nI (kpi j)))), (i8, .inl (ax 0, 20, .inl tmi)), (i9, .inl (ax 1, 20, .inl (fun j => nI (nmi j)))), (ia, .inl (ax 1, 29, .inl (fun j => nI (cki j)))), (ib, .inl (ax 1, 29, .inl (fun j => nI (coi j)))), (sy0, .inr (4, [.ref sy1, .ref sy2, .ref sy3, .int (nI zt)])), (sy1, .inl (ax 1, ct, .inl tno)), (sy2, .inl (ax 0, ct, .inl tnl)), (sy3, .inl (ax 0, ct, .inl tnr)), (m0, .inr (11, [.int y_thrown, .int (nI y_taped), .ref m1, .int y_size, .int (nI y_outSize), .ref m2, .int y_kind, .int (nI y_value), .int y_begin, .int y_end, .int y_failed, .ref m3, .ref m4, .ref m5, .int (nI y_isProgram), .int (nI y_half), .ref m6, .ref m7, .ref m8, .ref m9, .ref m10, .ref m11, .ref m12, .ref m13, .ref m14, .ref m15, .ref m16, .ref m17, .ref m18, .ref m19, .ref m20, .int (nI y_signs), .ref m21, .int (nI y_stacked), .ref m22, .int y_name, .int y_shift, .int y_statements, .int y_ifs, .int y_whiles, .int y_variants, .int y_open, .ref m23, .int (nI y_isMade), .int (nI y_conditions), .ref m24, .ref m25, .ref m26, .ref m27, .int (nI y_kept), .ref m28, .int y_tops, .ref m29, .int y_used, .ref m30, .ref m31, .int y_looked, .int y_rows, .int y_firstRow, .ref m32, .ref m33, .ref m34, .ref m35, .ref m36, .ref m37, .ref m38, .ref m39, .ref m40, .int y_isBroken, .ref m41, .int (nI y_atoms), .ref m42])), (m1, .inl (ax 0, 400, .inl (fun j => nI (z_tape j)))), (m2, .inl (ax 0, 200000, .inl z_out)), (m3, .inl (ax 0, 3072, .inl z_text)), (m4, .inl (ax 0, 4, .inl (fun j => nI (z_textSize j)))), (m5, .inl (ax 0, 2, .inl (fun j => nI (z_now j)))), (m6, .inl (ax 0, 2, .inl (fun j => nI (z_items j)))), (m7, .inl (ax 0, 80, .inl (fun j => nI (z_op j)))), (m8, .inl (ax 0, 80, .inl (fun j => nI (z_number j)))), (m9, .inl (ax 0, 80, .inl (fun j => nI (z_target j)))), (m10, .inl (ax 0, 80, .inl z_termName)), (m11, .inl (ax 0, 80, .inl z_termNumber)), (m12, .inl (ax 0, 80, .inl (fun j => nI (z_first j)))), (m13, .inl (ax 0, 80, .inl (fun j => nI (z_firstSize j)))), (m14, .inl (ax 0, 80, .inl (fun j => nI (z_second j)))), (m15, .inl (ax 0, 80, .inl (fun j => nI (z_secondSize j)))), (m16, .inl (ax 3, 80, .inl z_hasVariant)), (m17, .inl (ax 0, 80, .inl (fun j => nI (z_ghost j)))), (m18, .inl (ax 0, 80, .inl (fun j => nI (z_link j)))), (m19, .inl (ax 0, 6000, .inl z_pool)), (m20, .inl (ax 0, 2, .inl (fun j => nI (z_pooled j)))), (m21, .inl (ax 0, 1200, .inl z_sign)), (m22, .inl (ax 0, 64, .inl (fun j => nI (z_stack j)))), (m23, .inl (ax 0, 16, .inl (fun j => nI (z_opened j)))), (m24, .inl (ax 0, 64, .inl (fun j => nI (z_conditionKind j)))), (m25, .inl (ax 0, 64, .inl (fun j => nI (z_conditionNumber j)))), (m26, .inl (ax 0, 64, .inl (fun j => nI (z_conditionAt j)))), (m27, .inl (ax 0, 64, .inl (fun j => nI (z_conditionSize j)))), (m28, .inl (ax 0, 180000, .inl z_keep)), (m29, .inl (ax 0, 16, .inl (fun j => nI (z_top j)))), (m30, .inl (ax 0, 180000, .inl z_work)), (m31, .inl (ax 0, 180000, .inl z_aside)), (m32, .inl (ax 0, 30000, .inl (fun j => nI (z_sizeOf j)))), (m33, .inl (ax 0, 30000, .inl (fun j => nI (z_whenTrue j)))), (m34, .inl (ax 0, 30000, .inl (fun j => nI (z_whenFalse j)))), (m35, .inl (ax 0, 20000, .inl (fun j => nI (z_path j)))), (m36, .inl (ax 0, 20000, .inl (fun j => nI (z_pathRow j)))), (m37, .inl (ax 3, 20000, .inl (fun j => nI (z_pathTrue j)))), (m38, .inl (ax 0, 121, .inl z_bound)), (m39, .inl (ax 3, 121, .inl z_isBound)), (m40, .inl (ax 0, 11, .inl z_at)), (m41, .inl (ax 4, 6, .inr (.inl z_values))), (m42, .inl (ax 3, 256, .inl (fun j => nI (z_truth j)))), (d0, .inr (10, [.ref k0, .ref r0, .ref c0, .ref p0, .ref fd0, .ref w0, .ref e0, .ref b0, .ref a0, .ref y0, .ref g0, .ref i0, .int (nI (u_1 31))])), (g0, .inr (2, [.ref h0, .ref g1, .ref g2, .ref g3, .ref g4, .ref g5, .ref g6, .ref g7, .ref g8, .ref g9, .ref ga, .ref gb, .int (nI cl), .int (nI ln), .int (nI br), .int (nI lp), .int (nI va)])), (ot0, .inl (ax 4, 1, .inr (.inl x_5)))]) hP hD [0, 40, 115] [1, 2, 3, 4, 5, 6, 7, 8, 9, 10, 11, 12, 13, 14, 15, 16, 17, 18, 19, 20, 21, 22, 23, 24, 25, 26, 27, 28, 29, 30, 31, 32, 33, 34, 35, 36, 37, 38, 39, 41, 42, 43, 44, 45, 46, 47, 48, 49, 50, 51, 52, 53, 54, 55, 56, 57, 58, 59, 60, 61, 62, 63, 64, 65, 66, 67, 68, 69, 70, 71, 72, 73, 74, 75, 76, 77, 78, 79, 80, 81, 82, 83, 84, 85, 86, 87, 88, 89, 90, 91, 92, 93, 94, 95, 96, 97, 98, 99, 100, 101, 102, 103, 104, 105, 106, 107, 108, 109, 110, 111, 112, 113, 114] hCs (by decide) (by decide) hk1 hFc hP1 hD1 rfl
  clear hP1 hD1
  clear hPc hDc hFc hCs hz hz1 hk1 ht hvm
  clear hP hD hS
  have hS := hS1
  obtain ⟨hP, hD⟩ := hjn
  clear hS1
  refine wk_narrow (k := hc + (1)) (n := hs + (6)) (by first | assumption | omega) (by first | assumption | omega) ?_
  clear hk8 hk9 hg8 hg9
  refine lv_istore (lv' := [(5, .int (nI (u_1 30))), (4, .int (nI (4 * trn))), (3, .ref ot0), (2, .ref m0), (1, .ref d0), (0, .ref b)]) hx hb d_lawm_225 hl1 (by decide) rfl (fun ls hl2 => ?_)
  clear hl1; have hl1 := hl2; clear hl2
  refine lv_aload_n hx hb d_lawm_227 rfl (lv_at hl1 3 rfl) ?_
  have hnb9 := nbi8 hlo hld (hpg.imp id (fun h => (⟨han, hbn, h⟩ : lgE so sl sr ao al ar bo bl bq zs za zb ln cl kd ow sb f1 f2 te kp nm ck co tm (tls z_text z_textSize z_now 0) (tls z_text z_textSize z_now 1) (itl z_op z_number z_target z_ghost z_link z_first z_firstSize z_second z_secondSize z_termName z_termNumber z_hasVariant z_pool (40 * y_half) (z_items y_half))))) hldq
  obtain ⟨hPc, hDc, hFc, hCs⟩ := xw_sub3 (wc := [(m0, .inr (11, [.int y_thrown, .int (nI y_taped), .ref m1, .int y_size, .int (nI y_outSize), .ref m2, .int y_kind, .int (nI y_value), .int y_begin, .int y_end, .int y_failed, .ref m3, .ref m4, .ref m5, .int (nI y_isProgram), .int (nI y_half), .ref m6, .ref m7, .ref m8, .ref m9, .ref m10, .ref m11, .ref m12, .ref m13, .ref m14, .ref m15, .ref m16, .ref m17, .ref m18, .ref m19, .ref m20, .int (nI y_signs), .ref m21, .int (nI y_stacked), .ref m22, .int y_name, .int y_shift, .int y_statements, .int y_ifs, .int y_whiles, .int y_variants, .int y_open, .ref m23, .int (nI y_isMade), .int (nI y_conditions), .ref m24, .ref m25, .ref m26, .ref m27, .int (nI y_kept), .ref m28, .int y_tops, .ref m29, .int y_used, .ref m30, .ref m31, .int y_looked, .int y_rows, .int y_firstRow, .ref m32, .ref m33, .ref m34, .ref m35, .ref m36, .ref m37, .ref m38, .ref m39, .ref m40, .int y_isBroken, .ref m41, .int (nI y_atoms), .ref m42])), (m6, .inl (ax 0, 2, .inl (fun j => nI (z_items j)))), (m7, .inl (ax 0, 80, .inl (fun j => nI (z_op j)))), (m18, .inl (ax 0, 80, .inl (fun j => nI (z_link j)))), (m12, .inl (ax 0, 80, .inl (fun j => nI (z_first j)))), (m13, .inl (ax 0, 80, .inl (fun j => nI (z_firstSize j)))), (m14, .inl (ax 0, 80, .inl (fun j => nI (z_second j)))), (m15, .inl (ax 0, 80, .inl (fun j => nI (z_secondSize j)))), (m9, .inl (ax 0, 80, .inl (fun j => nI (z_target j)))), (m17, .inl (ax 0, 80, .inl (fun j => nI (z_ghost j)))), (m8, .inl (ax 0, 80, .inl (fun j => nI (z_number j)))), (m5, .inl (ax 0, 2, .inl (fun j => nI (z_now j)))), (m4, .inl (ax 0, 4, .inl (fun j => nI (z_textSize j)))), (m10, .inl (ax 0, 80, .inl z_termName)), (m11, .inl (ax 0, 80, .inl z_termNumber)), (m16, .inl (ax 3, 80, .inl z_hasVariant)), (m19, .inl (ax 0, 6000, .inl z_pool)), (m3, .inl (ax 0, 3072, .inl z_text)), (m29, .inl (ax 0, 16, .inl (fun j => nI (z_top j)))), (m30, .inl (ax 0, 180000, .inl z_work)), (m31, .inl (ax 0, 180000, .inl z_aside)), (m24, .inl (ax 0, 64, .inl (fun j => nI (z_conditionKind j)))), (m25, .inl (ax 0, 64, .inl (fun j => nI (z_conditionNumber j)))), (m26, .inl (ax 0, 64, .inl (fun j => nI (z_conditionAt j)))), (m27, .inl (ax 0, 64, .inl (fun j => nI (z_conditionSize j)))), (m28, .inl (ax 0, 180000, .inl z_keep)), (m32, .inl (ax 0, 30000, .inl (fun j => nI (z_sizeOf j)))), (m33, .inl (ax 0, 30000, .inl (fun j => nI (z_whenTrue j)))), (m34, .inl (ax 0, 30000, .inl (fun j => nI (z_whenFalse j)))), (m35, .inl (ax 0, 20000, .inl (fun j => nI (z_path j)))), (m36, .inl (ax 0, 20000, .inl (fun j => nI (z_pathRow j)))), (m37, .inl (ax 3, 20000, .inl (fun j => nI (z_pathTrue j)))), (m38, .inl (ax 0, 121, .inl z_bound)), (m39, .inl (ax 3, 121, .inl z_isBound)), (m40, .inl (ax 0, 11, .inl z_at))]) hP hD hS hA [70, 76, 77, 88, 82, 83, 84, 85, 79, 87, 78, 75, 74, 80, 81, 86, 89, 73, 99, 100, 101, 94, 95, 96, 97, 98, 102, 103, 104, 105, 106, 107, 108, 109, 110] (by decide) rfl
  have hz := xz_of hN hS
  refine va_calli (va_runV (As := []) (rest := []) ⟨hx, hb, hml, hown, hts⟩ (c_M_conditions l D ax m0 m1 m2 m3 m4 m5 m6 m7 m8 m9 m10 m11 m12 m13 m14 m15 m16 m17 m18 m19 m20 m21 m22 m23 m24 m25 m26 m27 m28 m29 m30 m31 m32 m33 m34 m35 m36 m37 m38 m39 m40 m41 m42 y_thrown (nI y_taped) y_size (nI y_outSize) y_kind (nI y_value) y_begin y_end y_failed (nI y_signs) (nI y_stacked) y_name y_shift y_statements y_ifs y_whiles y_variants y_open y_tops y_used y_looked y_rows y_firstRow y_isBroken (nI y_atoms) y_isProgram y_isMade y_half y_conditions y_kept (z_pooled y_half) z_items z_op z_link z_first z_firstSize z_second z_secondSize z_target z_ghost z_number z_now z_textSize z_top z_conditionKind z_conditionNumber z_conditionAt z_conditionSize z_sizeOf z_whenTrue z_whenFalse z_path z_pathRow z_pathTrue z_termName z_termNumber z_hasVariant z_pool z_text z_work z_aside z_keep z_bound z_isBound z_at H_2.size hhf hip0 him hlp htx0 htx1 hmd hnm hcw7 hml8 hnb9) (xcV (n := 0) hts wd_1403 wd_15 wd_1400 wd_1401 wd_1402 rfl rfl (by decide +kernel) ⟨(show (100) + 1 ≤ (2048) by omega), (show 8 + (1 + 11) + (4000) ≤ (84000) by omega)⟩) (xpV (ci := 11) (q0 := 0) (As := []) hPc hK hz hDc rfl rfl) rfl rfl hl1.1 rfl (lv_room (Nat.le_of_ble_eq_true rfl)) d_lawm_228 ⟨(show (hc + (1)) + (0) ≤ (601024) by omega), (show (hs + (6)) + (0) ≤ (7293034) by omega)⟩) hS (fun q _ h => hFc q h) hFc (fun r_9 u_7 t H_8 locs ht hvm hw hB hz1 hk1 hS1 => ?_)
  try dsimp only at hw
  obtain ⟨hw, hs_10, hs_11⟩ := hw
  subst hw
  obtain ⟨x_12, x_13, x_14, x_15, x_16, x_17, x_18, x_19, x_20, x_21, x_22, x_23, x_24, x_25, x_26, x_27, x_28, x_29, x_30, x_31, x_32, x_33, x_34, x_35, hx_36, hx_37, hx_38, hP1, hD1⟩ := hB
  rw [ht] at hP1
  have hjn := xw_join3 (wl := [(k0, .inr (9, [.ref k1, .ref k2, .int (nI ts), .int s_ahead, .int s_at, .int s_fault, .int s_next, .int s_amount])), (k1, .inl (ax 1, 400, .inl tb)), (k2, .inl (ax 0, 401, .inl (fun j => nI (tk j)))), (r0, .inr (7, [.ref k0, rv1, rv2, .int (nI gh9), .int (nI at9)])), (c0, .inr (3, [.ref n0, .ref c1, ml, mf, .int s_made])), (c1, .inl (ax 0, 16, .inl sd)), (n0, .inr (4, [.ref n1, .ref n2, .ref n3, .int (nI z9)])), (n1, .inl (ax 1, cp, .inl fo)), (n2, .inl (ax 0, cp, .inl fl)), (n3, .inl (ax 0, cp, .inl fr)), (p0, .inr (6, [.ref o0, .int s_rows, .int s_atoms, .int s_first, vf, .ref q1, .ref q2, .ref q3, .int (nI wt)])), (q1, .inl (ax 2, rl, .inl ro)), (q2, .inl (ax 0, 64, .inl (fun j => nI (dm j)))), (q3, .inl (ax 0, 64, .inl ix)), (o0, .inr (0, [.ref o1, .ref o2, .ref o3, .int (nI bn)])), (o1, .inl (ax 0, 11, .inl lv)), (o2, .inl (ax 0, 121, .inl mo)), (o3, .inl (ax 0, 121, .inl (fun j => nI (bw j)))), (fd0, .inr (1, [.ref fd1, .ref fd2, .ref fd3, .ref fd4])), (fd1, .inl (ax 2, 29, .inl rw)), (fd2, .inl (ax 2, 29, .inl aa)), (fd3, .inl (ax 2, 29, .inl ff)), (fd4, .inl (ax 0, 290, .inl nb)), (w0, .inr (5, [.ref w1, .int (nI zw)])), (w1, .inl (ax 1, cw, .inl by9)), (e0, .inr (8, [.ref e1])), (e1, .inl (ax 4, 6, .inr (.inl vs))), (b0, .inr (4, [.ref b1, .ref b2, .ref b3, .int (nI zb)])), (b1, .inl (ax 1, cb, .inl bo)), (b2, .inl (ax 0, cb, .inl bl)), (b3, .inl (ax 0, cb, .inl bq)), (a0, .inr (4, [.ref a1, .ref a2, .ref a3, .int (nI za)])), (a1, .inl (ax 1, ca, .inl ao)), (a2, .inl (ax 0, ca, .inl al)), (a3, .inl (ax 0, ca, .inl ar)), (y0, .inr (4, [.ref y1, .ref y2, .ref y3, .int (nI zy)])), (y1, .inl (ax 1, cy, .inl yo)), (y2, .inl (ax 0, cy, .inl yl)), (y3, .inl (ax 0, cy, .inl yr)), (g1, .inl (ax 1, 20, .inl (fun j => nI (kd j)))), (g2, .inl (ax 1, 20, .inl (fun j => nI (ow j)))), (g3, .inl (ax 1, 20, .inl (fun j => nI (sb j)))), (g4, .inl (ax 1, 20, .inl (fun j => nI (f1 j)))), (g5, .inl (ax 1, 20, .inl (fun j => nI (f2 j)))), (g6, .inl (ax 2, 20, .inl (fun j => nI (te j)))), (g7, .inl (ax 2, 20, .inl (fun j => nI (kp j)))), (g8, .inl (ax 0, 20, .inl tm)), (g9, .inl (ax 1, 20, .inl (fun j => nI (nm j)))), (ga, .inl (ax 1, 29, .inl (fun j => nI (ck j)))), (gb, .inl (ax 1, 29, .inl (fun j => nI (co j)))), (h0, .inr (4, [.ref h1, .ref h2, .ref h3, .int (nI zs)])), (h1, .inl (ax 1, cs, .inl so)), (h2, .inl (ax 0, cs, .inl sl)), (h3, .inl (ax 0, cs, .inl sr)), (i0, .inr (2, [.ref sy0, .ref i1, .ref i2, .ref i3, .ref i4, .ref i5, .ref i6, .ref i7, .ref i8, .ref i9, .ref ia, .ref ib, .int (nI cli), .int (nI lni), .int (nI bri), .int (nI lpi), .int (nI vai)])), (i1, .inl (ax 1, 20, .inl (fun j => nI (kdi j)))), (i2, .inl (ax 1, 20, .inl (fun j => nI (owi j)))), (i3, .inl (ax 1, 20, .inl (fun j => nI (sbi j)))), (i4, .inl (ax 1, 20, .inl (fun j => nI (f1i j)))), (i5, .inl (ax 1, 20, .inl (fun j => nI (f2i j)))), (i6, .inl (ax 2, 20, .inl (fun j => nI (tei j)))), (i7, .inl (ax 2, 20, .inl (fun j => nI (kpi j)))), (i8, .inl (ax 0, 20, .inl tmi)), (i9, .inl (ax 1, 20, .inl (fun j => nI (nmi j)))), (ia, .inl (ax 1, 29, .inl (fun j => nI (cki j)))), (ib, .inl (ax 1, 29, .inl (fun j => nI (coi j)))), (sy0, .inr (4, [.ref sy1, .ref sy2, .ref sy3, .int (nI zt)])), (sy1, .inl (ax 1, ct, .inl tno)), (sy2, .inl (ax 0, ct, .inl tnl)), (sy3, .inl (ax 0, ct, .inl tnr)), (m1, .inl (ax 0, 400, .inl (fun j => nI (z_tape j)))), (m2, .inl (ax 0, 200000, .inl z_out)), (m20, .inl (ax 0, 2, .inl (fun j => nI (z_pooled j)))), (m21, .inl (ax 0, 1200, .inl z_sign)), (m22, .inl (ax 0, 64, .inl (fun j => nI (z_stack j)))), (m23, .inl (ax 0, 16, .inl (fun j => nI (z_opened j)))), (m41, .inl (ax 4, 6, .inr (.inl z_values))), (m42, .inl (ax 3, 256, .inl (fun j => nI (z_truth j)))), (d0, .inr (10, [.ref k0, .ref r0, .ref c0, .ref p0, .ref fd0, .ref w0, .ref e0, .ref b0, .ref a0, .ref y0, .ref g0, .ref i0, .int (nI (u_1 31))])), (g0, .inr (2, [.ref h0, .ref g1, .ref g2, .ref g3, .ref g4, .ref g5, .ref g6, .ref g7, .ref g8, .ref g9, .ref ga, .ref gb, .int (nI cl), .int (nI ln), .int (nI br), .int (nI lp), .int (nI va)])), (ot0, .inl (ax 4, 1, .inr (.inl x_5))), (m0, .inr (11, [.int x_12, .int (nI y_taped), .ref m1, .int y_size, .int (nI y_outSize), .ref m2, .int y_kind, .int (nI y_value), .int y_begin, .int y_end, .int y_failed, .ref m3, .ref m4, .ref m5, .int (nI (u_7 0)), .int (nI y_half), .ref m6, .ref m7, .ref m8, .ref m9, .ref m10, .ref m11, .ref m12, .ref m13, .ref m14, .ref m15, .ref m16, .ref m17, .ref m18, .ref m19, .ref m20, .int (nI y_signs), .ref m21, .int (nI y_stacked), .ref m22, .int y_name, .int y_shift, .int y_statements, .int y_ifs, .int y_whiles, .int y_variants, .int y_open, .ref m23, .int (nI (u_7 1)), .int (nI (u_7 2)), .ref m24, .ref m25, .ref m26, .ref m27, .int (nI (u_7 3)), .ref m28, .int x_13, .ref m29, .int x_14, .ref m30, .ref m31, .int x_15, .int x_16, .int x_17, .ref m32, .ref m33, .ref m34, .ref m35, .ref m36, .ref m37, .ref m38, .ref m39, .ref m40, .int x_18, .ref m41, .int (nI y_atoms), .ref m42])), (m6, .inl (ax 0, 2, .inl (fun j => nI (z_items j)))), (m7, .inl (ax 0, 80, .inl (fun j => nI (z_op j)))), (m18, .inl (ax 0, 80, .inl (fun j => nI (z_link j)))), (m12, .inl (ax 0, 80, .inl (fun j => nI (z_first j)))), (m13, .inl (ax 0, 80, .inl (fun j => nI (z_firstSize j)))), (m14, .inl (ax 0, 80, .inl (fun j => nI (z_second j)))), (m15, .inl (ax 0, 80, .inl (fun j => nI (z_secondSize j)))), (m9, .inl (ax 0, 80, .inl (fun j => nI (z_target j)))), (m17, .inl (ax 0, 80, .inl (fun j => nI (z_ghost j)))), (m8, .inl (ax 0, 80, .inl (fun j => nI (z_number j)))), (m5, .inl (ax 0, 2, .inl (fun j => nI (z_now j)))), (m4, .inl (ax 0, 4, .inl (fun j => nI (z_textSize j)))), (m10, .inl (ax 0, 80, .inl z_termName)), (m11, .inl (ax 0, 80, .inl z_termNumber)), (m16, .inl (ax 3, 80, .inl z_hasVariant)), (m19, .inl (ax 0, 6000, .inl z_pool)), (m3, .inl (ax 0, 3072, .inl z_text)), (m29, .inl (ax 0, 16, .inl (fun j => nI (x_19 j)))), (m30, .inl (ax 0, 180000, .inl x_30)), (m31, .inl (ax 0, 180000, .inl x_31)), (m24, .inl (ax 0, 64, .inl (fun j => nI (x_20 j)))), (m25, .inl (ax 0, 64, .inl (fun j => nI (x_21 j)))), (m26, .inl (ax 0, 64, .inl (fun j => nI (x_22 j)))), (m27, .inl (ax 0, 64, .inl (fun j => nI (x_23 j)))), (m28, .inl (ax 0, 180000, .inl x_32)), (m32, .inl (ax 0, 30000, .inl (fun j => nI (x_24 j)))), (m33, .inl (ax 0, 30000, .inl (fun j => nI (x_25 j)))), (m34, .inl (ax 0, 30000, .inl (fun j => nI (x_26 j)))), (m35, .inl (ax 0, 20000, .inl (fun j => nI (x_27 j)))), (m36, .inl (ax 0, 20000, .inl (fun j => nI (x_28 j)))), (m37, .inl (ax 3, 20000, .inl (fun j => nI (x_29 j)))), (m38, .inl (ax 0, 121, .inl x_33)), (m39, .inl (ax 3, 121, .inl x_34)), (m40, .inl (ax 0, 11, .inl x_35))]) hP hD [70, 76, 77, 88, 82, 83, 84, 85, 79, 87, 78, 75, 74, 80, 81, 86, 89, 73, 99, 100, 101, 94, 95, 96, 97, 98, 102, 103, 104, 105, 106, 107, 108, 109, 110] [0, 1, 2, 3, 4, 5, 6, 7, 8, 9, 10, 11, 12, 13, 14, 15, 16, 17, 18, 19, 20, 21, 22, 23, 24, 25, 26, 27, 28, 29, 30, 31, 32, 33, 34, 35, 36, 37, 38, 39, 40, 41, 42, 43, 44, 45, 46, 47, 48, 49, 50, 51, 52, 53, 54, 55, 56, 57, 58, 59, 60, 61, 62, 63, 64, 65, 66, 67, 68, 69, 71, 72, 90, 91, 92, 93, 111, 112, 113, 114, 115] hCs (by decide) (by decide) hk1 hFc hP1 hD1 rfl
  clear hP1 hD1
  clear hPc hDc hFc hCs hz hz1 hk1 ht hvm
  clear hP hD hS
  have hS := hS1
  obtain ⟨hP, hD⟩ := hjn
  clear hS1
  refine lv_istore (lv' := [(6, .int (nI (u_7 4))), (5, .int (nI (u_1 30))), (4, .int (nI (4 * trn))), (3, .ref ot0), (2, .ref m0), (1, .ref d0), (0, .ref b)]) hx hb d_lawm_231 hl1 (by decide) rfl (fun ls hl2 => ?_)
  clear hl1; have hl1 := hl2; clear hl2
  refine lv_goto (tgt := 565) hx hb d_lawm_233 (by decide) ?_
  refine lv_iinc (v := nI (4 * trn + 4)) (lv' := [(4, .int (nI (4 * trn + 4))), (6, .int (nI (u_7 4))), (5, .int (nI (u_1 30))), (3, .ref ot0), (2, .ref m0), (1, .ref d0), (0, .ref b)]) hx hb d_lawm_565 hl1 (k := 2) rfl (nI_add (4 * trn) 4) (by decide) rfl (fun ls hl2 => ?_)
  clear hl1; have hl1 := hl2; clear hl2
  refine lv_goto (tgt := 23) hx hb d_lawm_568 (by decide) ?_
  rw [show 4 * trn + 4 = 4 * (trn + 1) by omega] at hl1
  have hl1 : lv_has ls 8 [(4, .int (nI (4 * (trn + 1)))), (6, .int (nI (u_7 4))), (5, .int (nI (u_1 30))), (3, .ref ot0), (2, .ref m0), (1, .ref d0), (0, .ref b)] := hl1
  have iv0 : ts ≤ 400 := (by first | assumption | omega)
  have iv1 : gh9 ≤ 1 := (by first | assumption | omega)
  have iv2 : (u_1 31) ≤ 1 := (by first | assumption | omega)
  have iv3 : 8 ≤ cy := (by first | assumption | omega)
  have iv4 : cy ≤ 1024 := (by first | assumption | omega)
  have iv5 : bts yo cy := (by first | assumption | (rw [hs_4]; assumption) | (rw [hs_10]; assumption))
  have iv6 : 8 ≤ cb := (by first | assumption | omega)
  have iv7 : cb ≤ 1024 := (by first | assumption | omega)
  have iv8 : bts bo cb := (by first | assumption | (rw [hs_4]; assumption) | (rw [hs_10]; assumption))
  have iv9 : zb ≤ cb := (by first | assumption | omega)
  have iv10 : 1 ≤ zb := (by first | assumption | omega)
  have iv11 : zb ≤ 450 := (by first | assumption | omega)
  have iv12 : ndv bo bl bq zb := (by first | assumption | (rw [hs_4]; assumption) | (rw [hs_10]; assumption))
  have iv13 : tsn bo bl bq (zb - 1) ≤ 450 := (by first | assumption | (rw [hs_4]; assumption) | (rw [hs_10]; assumption))
  have iv14 : 8 ≤ ca := (by first | assumption | omega)
  have iv15 : ca ≤ 1024 := (by first | assumption | omega)
  have iv16 : bts ao ca := (by first | assumption | (rw [hs_4]; assumption) | (rw [hs_10]; assumption))
  have iv17 : za ≤ ca := (by first | assumption | omega)
  have iv18 : 1 ≤ za := (by first | assumption | omega)
  have iv19 : za ≤ 450 := (by first | assumption | omega)
  have iv20 : ndv ao al ar za := (by first | assumption | (rw [hs_4]; assumption) | (rw [hs_10]; assumption))
  have iv21 : tsn ao al ar (za - 1) ≤ 450 := (by first | assumption | (rw [hs_4]; assumption) | (rw [hs_10]; assumption))
  have iv22 : 8 ≤ cs := (by first | assumption | omega)
  have iv23 : cs ≤ 1024 := (by first | assumption | omega)
  have iv24 : bts so cs := (by first | assumption | (rw [hs_4]; assumption) | (rw [hs_10]; assumption))
  have iv25 : zs ≤ cs := (by first | assumption | omega)
  have iv26 : lod (u_1 31) cl ln br zs kd ow sb f1 f2 te kp nm ck co tm so sl sr := (by first | assumption | (rw [hs_4]; assumption) | (rw [hs_10]; assumption))
  have iv27 : 8 ≤ ct := (by first | assumption | omega)
  have iv28 : ct ≤ 1024 := (by first | assumption | omega)
  have iv29 : bts tno ct := (by first | assumption | (rw [hs_4]; assumption) | (rw [hs_10]; assumption))
  have iv30 : zt ≤ ct := (by first | assumption | omega)
  have iv31 : 8 ≤ cp := (by first | assumption | omega)
  have iv32 : z9 ≤ cp := (by first | assumption | omega)
  have iv33 : cp ≤ 65536 := (by first | assumption | omega)
  have iv34 : bts fo cp := (by first | assumption | (rw [hs_4]; assumption) | (rw [hs_10]; assumption))
  have iv35 : (∀ j, j ≤ 10 → trm (sd j)) := (by first | assumption | (rw [hs_4]; assumption) | (rw [hs_10]; assumption))
  have iv36 : fmk s_made z9 fo fl fr := (by first | assumption | (rw [hs_4]; assumption) | (rw [hs_10]; assumption))
  have iv37 : rlo rl cp := (by first | assumption | (rw [hs_4]; assumption) | (rw [hs_10]; assumption))
  have iv38 : bnv mo bw bn := (by first | assumption | (rw [hs_4]; assumption) | (rw [hs_10]; assumption))
  have iv39 : wt ≤ 64 := (by first | assumption | omega)
  have iv40 : rl ≤ 131072 := (by first | assumption | omega)
  have iv41 : 8 ≤ cw := (by first | assumption | omega)
  have iv42 : cw ≤ 819300 := (by first | assumption | omega)
  have iv43 : zw ≤ cw := (by first | assumption | omega)
  have iv44 : bts by9 cw := (by first | assumption | (rw [hs_4]; assumption) | (rw [hs_10]; assumption))
  have iv45 : ts = y_taped := (by first | assumption | omega)
  have iv46 : bts tb 400 := (by first | assumption | (rw [hs_4]; assumption) | (rw [hs_10]; assumption))
  have iv47 : z_tape = gtb tb := (by first | assumption | (rw [hs_4]; assumption) | (rw [hs_10]; assumption))
  have iv48 : (∀ j, z_tape j < 256) := (by first | assumption | (rw [hs_4]; assumption) | (rw [hs_10]; assumption))
  have iv49 : y_value < 20000 := (by first | assumption | omega)
  have iv50 : (∀ j, z_stack j < 100) := (by first | assumption | (rw [hs_4]; assumption) | (rw [hs_10]; assumption))
  have iv51 : y_half ≤ 1 := (by first | assumption | omega)
  have iv52 : (u_7 0) ≤ 1 := (by first | assumption | omega)
  have iv53 : (u_7 1) ≤ 1 := (by first | assumption | omega)
  have iv54 : imp1 (u_7 0) (lpg y_half (z_items y_half) (z_pooled y_half) z_op z_link z_first z_firstSize z_second z_secondSize z_target z_ghost z_termName z_hasVariant z_pool) := (by first | assumption | (rw [hs_4]; assumption) | (rw [hs_10]; assumption))
  have iv55 : (u_1 31) = (u_7 0) := (by first | assumption | omega)
  have iv56 : ndw bo bl bq zb (tls z_text z_textSize z_now 0) := (by first | assumption | (rw [hs_4]; assumption) | (rw [hs_10]; assumption))
  have iv57 : ndw ao al ar za (tls z_text z_textSize z_now 1) := (by first | assumption | (rw [hs_4]; assumption) | (rw [hs_10]; assumption))
  have iv58 : imp1 (u_1 31) (∃ L : List sgT, pgQ so sl sr zs ln cl kd ow sb f1 f2 te kp nm ck co tm L (itl z_op z_number z_target z_ghost z_link z_first z_firstSize z_second z_secondSize z_termName z_termNumber z_hasVariant z_pool (40 * y_half) (z_items y_half))) := (by first | assumption | (rw [hs_4]; assumption) | (rw [hs_10]; assumption))
  have iv59 : imp1 (u_1 31) (fqm8 s_made z9 fo fl fr (tls z_text z_textSize z_now 0) (tls z_text z_textSize z_now 1) (itl z_op z_number z_target z_ghost z_link z_first z_firstSize z_second z_secondSize z_termName z_termNumber z_hasVariant z_pool (40 * y_half) (z_items y_half))) := (by first | assumption | (rw [hs_4]; assumption) | (rw [hs_10]; assumption))
  have iv60 : imp1 (u_7 0) (nmb 0 (itl z_op z_number z_target z_ghost z_link z_first z_firstSize z_second z_secondSize z_termName z_termNumber z_hasVariant z_pool (40 * y_half) (z_items y_half))) := (by first | assumption | (rw [hs_4]; assumption) | (rw [hs_10]; assumption))
  have iv61 : imp1 (u_7 0) (imp1 (u_7 1) (cdl x_20 x_21 x_22 x_23 x_32 (u_7 2) = ((0, 0, imp9 (tls z_text z_textSize z_now 0) (fFm (tls z_text z_textSize z_now 1) (itl z_op z_number z_target z_ghost z_link z_first z_firstSize z_second z_secondSize z_termName z_termNumber z_hasVariant z_pool (40 * y_half) (z_items y_half)))) :: gCd (tls z_text z_textSize z_now 1) (itl z_op z_number z_target z_ghost z_link z_first z_firstSize z_second z_secondSize z_termName z_termNumber z_hasVariant z_pool (40 * y_half) (z_items y_half))))) := (by first | assumption | (rw [hs_4]; assumption) | (rw [hs_10]; assumption))
  have iv62 : bcv8 mo bw bn := (by first | assumption | (rw [hs_4]; assumption) | (rw [hs_10]; assumption))
  have iv63 : imp1 (u_1 31) (fnQ8 rw aa ff nb (tls z_text z_textSize z_now 0) (tls z_text z_textSize z_now 1) (itl z_op z_number z_target z_ghost z_link z_first z_firstSize z_second z_secondSize z_termName z_termNumber z_hasVariant z_pool (40 * y_half) (z_items y_half))) := (by first | assumption | (rw [hs_4]; assumption) | (rw [hs_10]; assumption))
  have iv64 : imp1 (u_7 0) (imp1 (u_7 1) (mlQ8 x_15 x_16 x_17 (u_7 2) x_22 x_23 x_32 x_24 x_25 x_26)) := (by first | assumption | (rw [hs_4]; assumption) | (rw [hs_10]; assumption))
  have iv65 : txo z_text z_textSize z_now 0 := (by first | assumption | (rw [hs_4]; assumption) | (rw [hs_10]; assumption))
  have iv66 : txo z_text z_textSize z_now 1 := (by first | assumption | (rw [hs_4]; assumption) | (rw [hs_10]; assumption))
  have iv67 : imp1 (u_7 1) (mad x_15 (u_7 2) (u_7 3) x_32 x_22 x_23 x_24 x_25 x_26) := (by first | assumption | (rw [hs_4]; assumption) | (rw [hs_10]; assumption))
  have iv68 : y_outSize ≤ 200000 := (by first | assumption | omega)
  have iv69 : (∀ j, z_truth j ≤ 1) := (by first | assumption | (rw [hs_4]; assumption) | (rw [hs_10]; assumption))
  have iv70 : (hc + (1)) + ((1024 - cy) + (1024 - cb) + (1024 - ca) + (1024 - cs) + (1024 - ct)) + (65536 - cp) + (131072 - rl) + (819300 - cw) / 8 ≤ 310000 + (trn + 1) := (by first | assumption | omega)
  have iv71 : (hs + (6)) + 6 * ((1024 - cy) + (1024 - cb) + (1024 - ca) + (1024 - cs) + (1024 - ct)) + 6 * (65536 - cp) + 2 * (131072 - rl) + 2 * (819300 - cw) ≤ 4000000 + 6 * (trn + 1) := (by first | assumption | omega)
  exact hnext k0 r0 c0 p0 fd0 w0 e0 b0 a0 y0 g0 i0 (u_1 31) k1 k2 ts gh9 at9 c1 n0 n1 n2 n3 cp z9 o0 q1 q2 q3 wt rl o1 o2 o3 bn fd1 fd2 fd3 fd4 w1 zw cw e1 b1 b2 b3 zb cb a1 a2 a3 za ca y1 y2 y3 zy cy h0 g1 g2 g3 g4 g5 g6 g7 g8 g9 ga gb cl ln br lp va h1 h2 h3 zs cs sy0 i1 i2 i3 i4 i5 i6 i7 i8 i9 ia ib cli lni bri lpi vai sy1 sy2 sy3 zt ct s_ahead s_at s_fault s_next s_amount s_made s_rows s_atoms s_first rv1 rv2 ml mf vf tb sd fo fl fr ro ix lv mo rw aa ff nb by9 bo bl bq ao al ar yo yl yr tm so sl sr tmi tno tnl tnr tk dm bw kd ow sb f1 f2 te kp nm ck co kdi owi sbi f1i f2i tei kpi nmi cki coi vs m1 m2 m3 m4 m5 m6 m7 m8 m9 m10 m11 m12 m13 m14 m15 m16 m17 m18 m19 m20 m21 m22 m23 m24 m25 m26 m27 m28 m29 m30 m31 m32 m33 m34 m35 m36 m37 m38 m39 m40 m41 m42 x_12 y_taped y_size y_outSize y_kind y_value y_begin y_end y_failed (u_7 0) y_half y_signs y_stacked y_name y_shift y_statements y_ifs y_whiles y_variants y_open (u_7 1) (u_7 2) (u_7 3) x_13 x_14 x_15 x_16 x_17 x_18 y_atoms z_tape z_out z_text z_textSize z_now z_items z_op z_number z_target z_termName z_termNumber z_first z_firstSize z_second z_secondSize z_hasVariant z_ghost z_link z_pool z_pooled z_sign z_stack z_opened x_20 x_21 x_22 x_23 x_32 x_19 x_30 x_31 x_24 x_25 x_26 x_27 x_28 x_29 x_33 x_34 x_35 z_values z_truth x_5 (hc + (1)) (hs + (6)) iv0 iv1 iv2 iv3 iv4 iv5 iv6 iv7 iv8 iv9 iv10 iv11 iv12 iv13 iv14 iv15 iv16 iv17 iv18 iv19 iv20 iv21 iv22 iv23 iv24 iv25 iv26 iv27 iv28 iv29 iv30 iv31 iv32 iv33 iv34 iv35 iv36 iv37 iv38 iv39 iv40 iv41 iv42 iv43 iv44 iv45 iv46 iv47 iv48 iv49 iv50 iv51 iv52 iv53 iv54 iv55 iv56 iv57 iv58 iv59 iv60 iv61 iv62 iv63 iv64 iv65 iv66 iv67 iv68 iv69 iv70 iv71 _ _ _ (hP.sub [78, 0, 1, 2, 3, 4, 5, 6, 7, 8, 9, 10, 11, 12, 13, 14, 15, 16, 17, 18, 19, 20, 21, 22, 23, 24, 25, 26, 27, 28, 29, 30, 31, 32, 33, 34, 35, 36, 37, 38, 79, 39, 40, 41, 42, 43, 44, 45, 46, 47, 48, 49, 50, 51, 52, 53, 54, 55, 56, 57, 58, 59, 60, 61, 62, 63, 64, 65, 66, 67, 68, 69, 81, 70, 71, 98, 93, 92, 82, 83, 91, 89, 94, 95, 85, 86, 87, 88, 96, 90, 84, 97, 72, 73, 74, 75, 102, 103, 104, 105, 106, 99, 100, 101, 107, 108, 109, 110, 111, 112, 113, 114, 115, 76, 77, 80] rfl) (hD.sub [78, 0, 1, 2, 3, 4, 5, 6, 7, 8, 9, 10, 11, 12, 13, 14, 15, 16, 17, 18, 19, 20, 21, 22, 23, 24, 25, 26, 27, 28, 29, 30, 31, 32, 33, 34, 35, 36, 37, 38, 79, 39, 40, 41, 42, 43, 44, 45, 46, 47, 48, 49, 50, 51, 52, 53, 54, 55, 56, 57, 58, 59, 60, 61, 62, 63, 64, 65, 66, 67, 68, 69, 81, 70, 71, 98, 93, 92, 82, 83, 91, 89, 94, 95, 85, 86, 87, 88, 96, 90, 84, 97, 72, 73, 74, 75, 102, 103, 104, 105, 106, 99, 100, 101, 107, 108, 109, 110, 111, 112, 113, 114, 115, 76, 77, 80] (by decide) rfl) hS (lv_sub hl1 [0, 3, 4, 5, 6] rfl)
