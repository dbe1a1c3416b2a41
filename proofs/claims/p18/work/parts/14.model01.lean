/-! X10_init -/
theorem dX10_init_0 : decode cX10_init 0 = .ok (.aload_n 0, 1) := by decide +kernel
theorem dX10_init_1 : decode cX10_init 1 = .ok (.invokespecial 1, 3) := by decide +kernel
theorem dX10_init_4 : decode cX10_init 4 = .ok (.aload_n 0, 1) := by decide +kernel
theorem dX10_init_5 : decode cX10_init 5 = .ok (.iconst 1, 1) := by decide +kernel
theorem dX10_init_6 : decode cX10_init 6 = .ok (.putfield 7, 3) := by decide +kernel
theorem dX10_init_9 : decode cX10_init 9 = .ok (.aload_n 0, 1) := by decide +kernel
theorem dX10_init_10 : decode cX10_init 10 = .ok (.bipush 8, 2) := by decide +kernel
theorem dX10_init_12 : decode cX10_init 12 = .ok (.newarray .boolean, 2) := by decide +kernel
theorem dX10_init_14 : decode cX10_init 14 = .ok (.putfield 13, 3) := by decide +kernel
theorem dX10_init_17 : decode cX10_init 17 = .ok (.aload_n 0, 1) := by decide +kernel
theorem dX10_init_18 : decode cX10_init 18 = .ok (.bipush 8, 2) := by decide +kernel
theorem dX10_init_20 : decode cX10_init 20 = .ok (.newarray .int, 2) := by decide +kernel
theorem dX10_init_22 : decode cX10_init 22 = .ok (.putfield 17, 3) := by decide +kernel
theorem dX10_init_25 : decode cX10_init 25 = .ok (.aload_n 0, 1) := by decide +kernel
theorem dX10_init_26 : decode cX10_init 26 = .ok (.bipush 8, 2) := by decide +kernel
theorem dX10_init_28 : decode cX10_init 28 = .ok (.newarray .int, 2) := by decide +kernel
theorem dX10_init_30 : decode cX10_init 30 = .ok (.putfield 21, 3) := by decide +kernel
theorem dX10_init_33 : decode cX10_init 33 = .ok (.aload_n 0, 1) := by decide +kernel
theorem dX10_init_34 : decode cX10_init 34 = .ok (.bipush 8, 2) := by decide +kernel
theorem dX10_init_36 : decode cX10_init 36 = .ok (.newarray .int, 2) := by decide +kernel
theorem dX10_init_38 : decode cX10_init 38 = .ok (.putfield 24, 3) := by decide +kernel
theorem dX10_init_41 : decode cX10_init 41 = .ok (.aload_n 0, 1) := by decide +kernel
theorem dX10_init_42 : decode cX10_init 42 = .ok (.sipush 128, 3) := by decide +kernel
theorem dX10_init_45 : decode cX10_init 45 = .ok (.newarray .int, 2) := by decide +kernel
theorem dX10_init_47 : decode cX10_init 47 = .ok (.putfield 27, 3) := by decide +kernel
theorem dX10_init_50 : decode cX10_init 50 = .ok (.aload_n 0, 1) := by decide +kernel
theorem dX10_init_51 : decode cX10_init 51 = .ok (.sipush 128, 3) := by decide +kernel
theorem dX10_init_54 : decode cX10_init 54 = .ok (.newarray .int, 2) := by decide +kernel
theorem dX10_init_56 : decode cX10_init 56 = .ok (.putfield 30, 3) := by decide +kernel
theorem dX10_init_59 : decode cX10_init 59 = .ok (.aload_n 0, 1) := by decide +kernel
theorem dX10_init_60 : decode cX10_init 60 = .ok (.sipush 128, 3) := by decide +kernel
theorem dX10_init_63 : decode cX10_init 63 = .ok (.newarray .int, 2) := by decide +kernel
theorem dX10_init_65 : decode cX10_init 65 = .ok (.putfield 33, 3) := by decide +kernel
theorem dX10_init_68 : decode cX10_init 68 = .ok (.aload_n 0, 1) := by decide +kernel
theorem dX10_init_69 : decode cX10_init 69 = .ok (.sipush 128, 3) := by decide +kernel
theorem dX10_init_72 : decode cX10_init 72 = .ok (.newarray .int, 2) := by decide +kernel
theorem dX10_init_74 : decode cX10_init 74 = .ok (.putfield 36, 3) := by decide +kernel
theorem dX10_init_77 : decode cX10_init 77 = .ok (.aload_n 0, 1) := by decide +kernel
theorem dX10_init_78 : decode cX10_init 78 = .ok (.sipush 128, 3) := by decide +kernel
theorem dX10_init_81 : decode cX10_init 81 = .ok (.newarray .int, 2) := by decide +kernel
theorem dX10_init_83 : decode cX10_init 83 = .ok (.putfield 39, 3) := by decide +kernel
theorem dX10_init_86 : decode cX10_init 86 = .ok (.aload_n 0, 1) := by decide +kernel
theorem dX10_init_87 : decode cX10_init 87 = .ok (.sipush 128, 3) := by decide +kernel
theorem dX10_init_90 : decode cX10_init 90 = .ok (.newarray .int, 2) := by decide +kernel
theorem dX10_init_92 : decode cX10_init 92 = .ok (.putfield 42, 3) := by decide +kernel
theorem dX10_init_95 : decode cX10_init 95 = .ok (.aload_n 0, 1) := by decide +kernel
theorem dX10_init_96 : decode cX10_init 96 = .ok (.bipush 64, 2) := by decide +kernel
theorem dX10_init_98 : decode cX10_init 98 = .ok (.newarray .long, 2) := by decide +kernel
theorem dX10_init_100 : decode cX10_init 100 = .ok (.putfield 45, 3) := by decide +kernel
theorem dX10_init_103 : decode cX10_init 103 = .ok (.aload_n 0, 1) := by decide +kernel
theorem dX10_init_104 : decode cX10_init 104 = .ok (.bipush 8, 2) := by decide +kernel
theorem dX10_init_106 : decode cX10_init 106 = .ok (.newarray .int, 2) := by decide +kernel
theorem dX10_init_108 : decode cX10_init 108 = .ok (.putfield 49, 3) := by decide +kernel
theorem dX10_init_111 : decode cX10_init 111 = .ok (.aload_n 0, 1) := by decide +kernel
theorem dX10_init_112 : decode cX10_init 112 = .ok (.bipush 8, 2) := by decide +kernel
theorem dX10_init_114 : decode cX10_init 114 = .ok (.newarray .int, 2) := by decide +kernel
theorem dX10_init_116 : decode cX10_init 116 = .ok (.putfield 52, 3) := by decide +kernel
theorem dX10_init_119 : decode cX10_init 119 = .ok (.aload_n 0, 1) := by decide +kernel
theorem dX10_init_120 : decode cX10_init 120 = .ok (.bipush 32, 2) := by decide +kernel
theorem dX10_init_122 : decode cX10_init 122 = .ok (.newarray .int, 2) := by decide +kernel
theorem dX10_init_124 : decode cX10_init 124 = .ok (.putfield 55, 3) := by decide +kernel
theorem dX10_init_127 : decode cX10_init 127 = .ok (.aload_n 0, 1) := by decide +kernel
theorem dX10_init_128 : decode cX10_init 128 = .ok (.bipush 32, 2) := by decide +kernel
theorem dX10_init_130 : decode cX10_init 130 = .ok (.newarray .int, 2) := by decide +kernel
theorem dX10_init_132 : decode cX10_init 132 = .ok (.putfield 58, 3) := by decide +kernel
theorem dX10_init_135 : decode cX10_init 135 = .ok (.aload_n 0, 1) := by decide +kernel
theorem dX10_init_136 : decode cX10_init 136 = .ok (.bipush 8, 2) := by decide +kernel
theorem dX10_init_138 : decode cX10_init 138 = .ok (.newarray .int, 2) := by decide +kernel
theorem dX10_init_140 : decode cX10_init 140 = .ok (.putfield 61, 3) := by decide +kernel
theorem dX10_init_143 : decode cX10_init 143 = .ok (.aload_n 0, 1) := by decide +kernel
theorem dX10_init_144 : decode cX10_init 144 = .ok (.bipush 48, 2) := by decide +kernel
theorem dX10_init_146 : decode cX10_init 146 = .ok (.newarray .int, 2) := by decide +kernel
theorem dX10_init_148 : decode cX10_init 148 = .ok (.putfield 64, 3) := by decide +kernel
theorem dX10_init_151 : decode cX10_init 151 = .ok (.aload_n 0, 1) := by decide +kernel
theorem dX10_init_152 : decode cX10_init 152 = .ok (.bipush 48, 2) := by decide +kernel
theorem dX10_init_154 : decode cX10_init 154 = .ok (.newarray .int, 2) := by decide +kernel
theorem dX10_init_156 : decode cX10_init 156 = .ok (.putfield 67, 3) := by decide +kernel
theorem dX10_init_159 : decode cX10_init 159 = .ok (.aload_n 0, 1) := by decide +kernel
theorem dX10_init_160 : decode cX10_init 160 = .ok (.bipush 48, 2) := by decide +kernel
theorem dX10_init_162 : decode cX10_init 162 = .ok (.newarray .int, 2) := by decide +kernel
theorem dX10_init_164 : decode cX10_init 164 = .ok (.putfield 70, 3) := by decide +kernel
theorem dX10_init_167 : decode cX10_init 167 = .ok (.aload_n 0, 1) := by decide +kernel
theorem dX10_init_168 : decode cX10_init 168 = .ok (.bipush 48, 2) := by decide +kernel
theorem dX10_init_170 : decode cX10_init 170 = .ok (.newarray .int, 2) := by decide +kernel
theorem dX10_init_172 : decode cX10_init 172 = .ok (.putfield 73, 3) := by decide +kernel
theorem dX10_init_175 : decode cX10_init 175 = .ok (.aload_n 0, 1) := by decide +kernel
theorem dX10_init_176 : decode cX10_init 176 = .ok (.bipush 48, 2) := by decide +kernel
theorem dX10_init_178 : decode cX10_init 178 = .ok (.newarray .int, 2) := by decide +kernel
theorem dX10_init_180 : decode cX10_init 180 = .ok (.putfield 76, 3) := by decide +kernel
theorem dX10_init_183 : decode cX10_init 183 = .ok (.aload_n 0, 1) := by decide +kernel
theorem dX10_init_184 : decode cX10_init 184 = .ok (.bipush 48, 2) := by decide +kernel
theorem dX10_init_186 : decode cX10_init 186 = .ok (.newarray .int, 2) := by decide +kernel
theorem dX10_init_188 : decode cX10_init 188 = .ok (.putfield 79, 3) := by decide +kernel
theorem dX10_init_191 : decode cX10_init 191 = .ok (.aload_n 0, 1) := by decide +kernel
theorem dX10_init_192 : decode cX10_init 192 = .ok (.bipush 16, 2) := by decide +kernel
theorem dX10_init_194 : decode cX10_init 194 = .ok (.newarray .int, 2) := by decide +kernel
theorem dX10_init_196 : decode cX10_init 196 = .ok (.putfield 82, 3) := by decide +kernel
theorem dX10_init_199 : decode cX10_init 199 = .ok (.aload_n 0, 1) := by decide +kernel
theorem dX10_init_200 : decode cX10_init 200 = .ok (.bipush 16, 2) := by decide +kernel
theorem dX10_init_202 : decode cX10_init 202 = .ok (.newarray .int, 2) := by decide +kernel
theorem dX10_init_204 : decode cX10_init 204 = .ok (.putfield 85, 3) := by decide +kernel
theorem dX10_init_207 : decode cX10_init 207 = .ok (.aload_n 0, 1) := by decide +kernel
theorem dX10_init_208 : decode cX10_init 208 = .ok (.sipush 201, 3) := by decide +kernel
theorem dX10_init_211 : decode cX10_init 211 = .ok (.newarray .int, 2) := by decide +kernel
theorem dX10_init_213 : decode cX10_init 213 = .ok (.putfield 88, 3) := by decide +kernel
theorem dX10_init_216 : decode cX10_init 216 = .ok (.aload_n 0, 1) := by decide +kernel
theorem dX10_init_217 : decode cX10_init 217 = .ok (.sipush 201, 3) := by decide +kernel
theorem dX10_init_220 : decode cX10_init 220 = .ok (.newarray .int, 2) := by decide +kernel
theorem dX10_init_222 : decode cX10_init 222 = .ok (.putfield 91, 3) := by decide +kernel
theorem dX10_init_225 : decode cX10_init 225 = .ok (.aload_n 0, 1) := by decide +kernel
theorem dX10_init_226 : decode cX10_init 226 = .ok (.sipush 201, 3) := by decide +kernel
theorem dX10_init_229 : decode cX10_init 229 = .ok (.newarray .int, 2) := by decide +kernel
theorem dX10_init_231 : decode cX10_init 231 = .ok (.putfield 94, 3) := by decide +kernel
theorem dX10_init_234 : decode cX10_init 234 = .ok (.aload_n 0, 1) := by decide +kernel
theorem dX10_init_235 : decode cX10_init 235 = .ok (.sipush 201, 3) := by decide +kernel
theorem dX10_init_238 : decode cX10_init 238 = .ok (.newarray .int, 2) := by decide +kernel
theorem dX10_init_240 : decode cX10_init 240 = .ok (.putfield 97, 3) := by decide +kernel
theorem dX10_init_243 : decode cX10_init 243 = .ok (.aload_n 0, 1) := by decide +kernel
theorem dX10_init_244 : decode cX10_init 244 = .ok (.sipush 201, 3) := by decide +kernel
theorem dX10_init_247 : decode cX10_init 247 = .ok (.newarray .int, 2) := by decide +kernel
theorem dX10_init_249 : decode cX10_init 249 = .ok (.putfield 100, 3) := by decide +kernel
theorem dX10_init_252 : decode cX10_init 252 = .ok (.aload_n 0, 1) := by decide +kernel
theorem dX10_init_253 : decode cX10_init 253 = .ok (.sipush 201, 3) := by decide +kernel
theorem dX10_init_256 : decode cX10_init 256 = .ok (.newarray .int, 2) := by decide +kernel
theorem dX10_init_258 : decode cX10_init 258 = .ok (.putfield 103, 3) := by decide +kernel
theorem dX10_init_261 : decode cX10_init 261 = .ok (.aload_n 0, 1) := by decide +kernel
theorem dX10_init_262 : decode cX10_init 262 = .ok (.sipush 201, 3) := by decide +kernel
theorem dX10_init_265 : decode cX10_init 265 = .ok (.newarray .int, 2) := by decide +kernel
theorem dX10_init_267 : decode cX10_init 267 = .ok (.putfield 106, 3) := by decide +kernel
theorem dX10_init_270 : decode cX10_init 270 = .ok (.aload_n 0, 1) := by decide +kernel
theorem dX10_init_271 : decode cX10_init 271 = .ok (.sipush 1608, 3) := by decide +kernel
theorem dX10_init_274 : decode cX10_init 274 = .ok (.newarray .int, 2) := by decide +kernel
theorem dX10_init_276 : decode cX10_init 276 = .ok (.putfield 109, 3) := by decide +kernel
theorem dX10_init_279 : decode cX10_init 279 = .ok (.aload_n 0, 1) := by decide +kernel
theorem dX10_init_280 : decode cX10_init 280 = .ok (.bipush 8, 2) := by decide +kernel
theorem dX10_init_282 : decode cX10_init 282 = .ok (.newarray .int, 2) := by decide +kernel
theorem dX10_init_284 : decode cX10_init 284 = .ok (.putfield 112, 3) := by decide +kernel
theorem dX10_init_287 : decode cX10_init 287 = .ok (.aload_n 0, 1) := by decide +kernel
theorem dX10_init_288 : decode cX10_init 288 = .ok (.getfield 13, 3) := by decide +kernel
theorem dX10_init_291 : decode cX10_init 291 = .ok (.iconst 0, 1) := by decide +kernel
theorem dX10_init_292 : decode cX10_init 292 = .ok (.iconst 1, 1) := by decide +kernel
theorem dX10_init_293 : decode cX10_init 293 = .ok (.bastore, 1) := by decide +kernel
theorem dX10_init_294 : decode cX10_init 294 = .ok (.iconst 0, 1) := by decide +kernel
theorem dX10_init_295 : decode cX10_init 295 = .ok (.istore_n 1, 1) := by decide +kernel
theorem dX10_init_296 : decode cX10_init 296 = .ok (.iload_n 1, 1) := by decide +kernel
theorem dX10_init_297 : decode cX10_init 297 = .ok (.bipush 8, 2) := by decide +kernel
theorem dX10_init_299 : decode cX10_init 299 = .ok (.if_icmp .ge 23, 3) := by decide +kernel
theorem dX10_init_302 : decode cX10_init 302 = .ok (.aload_n 0, 1) := by decide +kernel
theorem dX10_init_303 : decode cX10_init 303 = .ok (.getfield 24, 3) := by decide +kernel
theorem dX10_init_306 : decode cX10_init 306 = .ok (.iload_n 1, 1) := by decide +kernel
theorem dX10_init_307 : decode cX10_init 307 = .ok (.iconst (-1), 1) := by decide +kernel
theorem dX10_init_308 : decode cX10_init 308 = .ok (.iastore, 1) := by decide +kernel
theorem dX10_init_309 : decode cX10_init 309 = .ok (.aload_n 0, 1) := by decide +kernel
theorem dX10_init_310 : decode cX10_init 310 = .ok (.getfield 49, 3) := by decide +kernel
theorem dX10_init_313 : decode cX10_init 313 = .ok (.iload_n 1, 1) := by decide +kernel
theorem dX10_init_314 : decode cX10_init 314 = .ok (.iconst (-1), 1) := by decide +kernel
theorem dX10_init_315 : decode cX10_init 315 = .ok (.iastore, 1) := by decide +kernel
theorem dX10_init_316 : decode cX10_init 316 = .ok (.iinc 1 1, 3) := by decide +kernel
theorem dX10_init_319 : decode cX10_init 319 = .ok (.goto (-23), 3) := by decide +kernel
theorem dX10_init_322 : decode cX10_init 322 = .ok (.iconst 0, 1) := by decide +kernel
theorem dX10_init_323 : decode cX10_init 323 = .ok (.istore_n 1, 1) := by decide +kernel
theorem dX10_init_324 : decode cX10_init 324 = .ok (.iload_n 1, 1) := by decide +kernel
theorem dX10_init_325 : decode cX10_init 325 = .ok (.bipush 64, 2) := by decide +kernel
theorem dX10_init_327 : decode cX10_init 327 = .ok (.if_icmp .ge 18, 3) := by decide +kernel
theorem dX10_init_330 : decode cX10_init 330 = .ok (.aload_n 0, 1) := by decide +kernel
theorem dX10_init_331 : decode cX10_init 331 = .ok (.getfield 45, 3) := by decide +kernel
theorem dX10_init_334 : decode cX10_init 334 = .ok (.iload_n 1, 1) := by decide +kernel
theorem dX10_init_335 : decode cX10_init 335 = .ok (.ldc2_w 115, 3) := by decide +kernel
theorem dX10_init_338 : decode cX10_init 338 = .ok (.lastore, 1) := by decide +kernel
theorem dX10_init_339 : decode cX10_init 339 = .ok (.iinc 1 1, 3) := by decide +kernel
theorem dX10_init_342 : decode cX10_init 342 = .ok (.goto (-18), 3) := by decide +kernel
theorem dX10_init_345 : decode cX10_init 345 = .ok (.iconst 0, 1) := by decide +kernel
theorem dX10_init_346 : decode cX10_init 346 = .ok (.istore_n 1, 1) := by decide +kernel
theorem dX10_init_347 : decode cX10_init 347 = .ok (.iload_n 1, 1) := by decide +kernel
theorem dX10_init_348 : decode cX10_init 348 = .ok (.bipush 16, 2) := by decide +kernel
theorem dX10_init_350 : decode cX10_init 350 = .ok (.if_icmp .ge 16, 3) := by decide +kernel
theorem dX10_init_353 : decode cX10_init 353 = .ok (.aload_n 0, 1) := by decide +kernel
theorem dX10_init_354 : decode cX10_init 354 = .ok (.getfield 82, 3) := by decide +kernel
theorem dX10_init_357 : decode cX10_init 357 = .ok (.iload_n 1, 1) := by decide +kernel
theorem dX10_init_358 : decode cX10_init 358 = .ok (.iconst (-1), 1) := by decide +kernel
theorem dX10_init_359 : decode cX10_init 359 = .ok (.iastore, 1) := by decide +kernel
theorem dX10_init_360 : decode cX10_init 360 = .ok (.iinc 1 1, 3) := by decide +kernel
theorem dX10_init_363 : decode cX10_init 363 = .ok (.goto (-16), 3) := by decide +kernel
theorem dX10_init_366 : decode cX10_init 366 = .ok (.return_, 1) := by decide +kernel
def g_X10_init_347 : Nat → HS → Option Nat → Int32 → Option (Unit × HS)
  | 0, _, _, _ => none
  | n + 1, σ, l0, l1 =>
    if 16 ≤ l1 then
      some ((), σ)
    else
      h_b1 (h_gR σ l0 11 26) fun x177 =>
      h_b1 (h_sI σ x177 100 l1 (-1)) fun s179 =>
      g_X10_init_347 n s179 l0 (l1 + 1)
def g_X10_init_324 : Nat → HS → Option Nat → Int32 → Option (Unit × HS)
  | 0, _, _, _ => none
  | n + 1, σ, l0, l1 =>
    if 64 ≤ l1 then
      g_X10_init_347 h_hN σ l0 0
    else
      h_b1 (h_gR σ l0 11 13) fun x181 =>
      h_b1 (h_sL σ x181 101 l1 (-3000000000)) fun s183 =>
      g_X10_init_324 n s183 l0 (l1 + 1)
def g_X10_init_296 : Nat → HS → Option Nat → Int32 → Option (Unit × HS)
  | 0, _, _, _ => none
  | n + 1, σ, l0, l1 =>
    if 8 ≤ l1 then
      g_X10_init_324 h_hN σ l0 0
    else
      h_b1 (h_gR σ l0 11 6) fun x185 =>
      h_b1 (h_sI σ x185 100 l1 (-1)) fun s187 =>
      h_b1 (h_gR s187 l0 11 14) fun x189 =>
      h_b1 (h_sI s187 x189 100 l1 (-1)) fun s191 =>
      g_X10_init_296 n s191 l0 (l1 + 1)
def f_X10_init (σ : HS) (a0 : Option Nat) : Option (Unit × HS) :=
  h_b1 a0 fun y1 =>
  h_b1 (h_pI σ a0 11 2 1) fun s3 =>
  h_bd (h_mkA s3 102 8) fun x5 s6 =>
  h_b1 (h_pR s6 a0 11 3 x5) fun s8 =>
  h_bd (h_mkA s8 100 8) fun x10 s11 =>
  h_b1 (h_pR s11 a0 11 4 x10) fun s13 =>
  h_bd (h_mkA s13 100 8) fun x15 s16 =>
  h_b1 (h_pR s16 a0 11 5 x15) fun s18 =>
  h_bd (h_mkA s18 100 8) fun x20 s21 =>
  h_b1 (h_pR s21 a0 11 6 x20) fun s23 =>
  h_bd (h_mkA s23 100 128) fun x25 s26 =>
  h_b1 (h_pR s26 a0 11 7 x25) fun s28 =>
  h_bd (h_mkA s28 100 128) fun x30 s31 =>
  h_b1 (h_pR s31 a0 11 8 x30) fun s33 =>
  h_bd (h_mkA s33 100 128) fun x35 s36 =>
  h_b1 (h_pR s36 a0 11 9 x35) fun s38 =>
  h_bd (h_mkA s38 100 128) fun x40 s41 =>
  h_b1 (h_pR s41 a0 11 10 x40) fun s43 =>
  h_bd (h_mkA s43 100 128) fun x45 s46 =>
  h_b1 (h_pR s46 a0 11 11 x45) fun s48 =>
  h_bd (h_mkA s48 100 128) fun x50 s51 =>
  h_b1 (h_pR s51 a0 11 12 x50) fun s53 =>
  h_bd (h_mkA s53 101 64) fun x55 s56 =>
  h_b1 (h_pR s56 a0 11 13 x55) fun s58 =>
  h_bd (h_mkA s58 100 8) fun x60 s61 =>
  h_b1 (h_pR s61 a0 11 14 x60) fun s63 =>
  h_bd (h_mkA s63 100 8) fun x65 s66 =>
  h_b1 (h_pR s66 a0 11 15 x65) fun s68 =>
  h_bd (h_mkA s68 100 32) fun x70 s71 =>
  h_b1 (h_pR s71 a0 11 16 x70) fun s73 =>
  h_bd (h_mkA s73 100 32) fun x75 s76 =>
  h_b1 (h_pR s76 a0 11 17 x75) fun s78 =>
  h_bd (h_mkA s78 100 8) fun x80 s81 =>
  h_b1 (h_pR s81 a0 11 18 x80) fun s83 =>
  h_bd (h_mkA s83 100 48) fun x85 s86 =>
  h_b1 (h_pR s86 a0 11 19 x85) fun s88 =>
  h_bd (h_mkA s88 100 48) fun x90 s91 =>
  h_b1 (h_pR s91 a0 11 20 x90) fun s93 =>
  h_bd (h_mkA s93 100 48) fun x95 s96 =>
  h_b1 (h_pR s96 a0 11 21 x95) fun s98 =>
  h_bd (h_mkA s98 100 48) fun x100 s101 =>
  h_b1 (h_pR s101 a0 11 22 x100) fun s103 =>
  h_bd (h_mkA s103 100 48) fun x105 s106 =>
  h_b1 (h_pR s106 a0 11 23 x105) fun s108 =>
  h_bd (h_mkA s108 100 48) fun x110 s111 =>
  h_b1 (h_pR s111 a0 11 24 x110) fun s113 =>
  h_bd (h_mkA s113 100 16) fun x115 s116 =>
  h_b1 (h_pR s116 a0 11 26 x115) fun s118 =>
  h_bd (h_mkA s118 100 16) fun x120 s121 =>
  h_b1 (h_pR s121 a0 11 27 x120) fun s123 =>
  h_bd (h_mkA s123 100 201) fun x125 s126 =>
  h_b1 (h_pR s126 a0 11 29 x125) fun s128 =>
  h_bd (h_mkA s128 100 201) fun x130 s131 =>
  h_b1 (h_pR s131 a0 11 30 x130) fun s133 =>
  h_bd (h_mkA s133 100 201) fun x135 s136 =>
  h_b1 (h_pR s136 a0 11 31 x135) fun s138 =>
  h_bd (h_mkA s138 100 201) fun x140 s141 =>
  h_b1 (h_pR s141 a0 11 32 x140) fun s143 =>
  h_bd (h_mkA s143 100 201) fun x145 s146 =>
  h_b1 (h_pR s146 a0 11 33 x145) fun s148 =>
  h_bd (h_mkA s148 100 201) fun x150 s151 =>
  h_b1 (h_pR s151 a0 11 34 x150) fun s153 =>
  h_bd (h_mkA s153 100 201) fun x155 s156 =>
  h_b1 (h_pR s156 a0 11 35 x155) fun s158 =>
  h_bd (h_mkA s158 100 1608) fun x160 s161 =>
  h_b1 (h_pR s161 a0 11 37 x160) fun s163 =>
  h_bd (h_mkA s163 100 8) fun x165 s166 =>
  h_b1 (h_pR s166 a0 11 38 x165) fun s168 =>
  h_b1 (h_gR s168 a0 11 3) fun x170 =>
  h_b1 (h_sI s168 x170 102 0 1) fun s172 =>
  g_X10_init_296 h_hN s172 a0 0
set_option maxHeartbeats 4000000 in
set_option maxRecDepth 100000 in
theorem w_X10_init_347 {p : Program} {l : Launch} {e : Env} {R : Room} {s : State} {m : MethodId} {args : Array Value} {below : List Frame} {meth : Method} {c : Code} {D : va_G} {dA : Nat → ClassId} {bs : Nat} (C : h_C p m c cX10_init 2 s args RX10 D dA) {σ0 : HS} (B : h_B R s meth σ0 none 1 12) (hnm : meth.name = "<init>") {σ' : HS} : ∀ (n : Nat) (σ : HS) (l0 : Option Nat) (l1 : Int32), g_X10_init_347 n σ l0 l1 = some ((), σ') → V p l e R s m args below meth c D dA bs 2 (MQ below (h_Q D dA bs none σ0 σ') args s R.cells R.slots (fun q => bs ≤ q)) σ 347 [(0, va_rf l0), (1, .int l1)] [] := by
  intro n
  induction n with
  | zero =>
    intro σ l0 l1 h
    rw [g_X10_init_347] at h
    cases h
  | succ n ih =>
    intro σ l0 l1 h
    rw [g_X10_init_347] at h
    refine V_iload_n C 1 dX10_init_347 rfl rfl ?_
    refine V_bipush (v := 16) C dX10_init_348 (by decide) ?_
    refine V_icmp_ge (tgt := 366) C dX10_init_350 (by decide) (fun c176 => ?_) (fun c176 => ?_)
    · rw [if_pos c176] at h
      cases h
      exact V_vret C B dX10_init_366
    · rw [if_neg c176] at h
      refine V_aload_n C 0 dX10_init_353 rfl rfl ?_
      obtain ⟨x177, e178, h⟩ := h_b1_some h
      refine V_getR C fl_RX10_82 dX10_init_354 e178 ?_
      refine V_iload_n C 1 dX10_init_357 rfl rfl ?_
      refine V_iconst (v := (-1)) C dX10_init_358 (by decide) ?_
      obtain ⟨s179, e180, h⟩ := h_b1_some h
      refine V_iast C dX10_init_359 e180 ?_
      refine V_iinc (v := (l1 + 1)) (lv' := [(1, .int (l1 + 1)), (0, va_rf l0)]) C 1 dX10_init_360 rfl rfl (by decide) rfl ?_
      refine V_goto (tgt := 347) C dX10_init_363 (by decide) ?_
      exact V_sub [1, 0] rfl (ih s179 l0 (l1 + 1) h)
set_option maxHeartbeats 4000000 in
set_option maxRecDepth 100000 in
theorem w_X10_init_324 {p : Program} {l : Launch} {e : Env} {R : Room} {s : State} {m : MethodId} {args : Array Value} {below : List Frame} {meth : Method} {c : Code} {D : va_G} {dA : Nat → ClassId} {bs : Nat} (C : h_C p m c cX10_init 2 s args RX10 D dA) {σ0 : HS} (B : h_B R s meth σ0 none 1 12) (hnm : meth.name = "<init>") {σ' : HS} : ∀ (n : Nat) (σ : HS) (l0 : Option Nat) (l1 : Int32), g_X10_init_324 n σ l0 l1 = some ((), σ') → V p l e R s m args below meth c D dA bs 2 (MQ below (h_Q D dA bs none σ0 σ') args s R.cells R.slots (fun q => bs ≤ q)) σ 324 [(0, va_rf l0), (1, .int l1)] [] := by
  intro n
  induction n with
  | zero =>
    intro σ l0 l1 h
    rw [g_X10_init_324] at h
    cases h
  | succ n ih =>
    intro σ l0 l1 h
    rw [g_X10_init_324] at h
    refine V_iload_n C 1 dX10_init_324 rfl rfl ?_
    refine V_bipush (v := 64) C dX10_init_325 (by decide) ?_
    refine V_icmp_ge (tgt := 345) C dX10_init_327 (by decide) (fun c175 => ?_) (fun c175 => ?_)
    · rw [if_pos c175] at h
      refine V_iconst (v := 0) C dX10_init_345 (by decide) ?_
      refine V_istore_n (lv' := [(1, .int 0), (0, va_rf l0)]) C dX10_init_346 rfl (by decide) rfl ?_
      exact V_sub [1, 0] rfl (w_X10_init_347 C B hnm h_hN σ l0 0 h)
    · rw [if_neg c175] at h
      refine V_aload_n C 0 dX10_init_330 rfl rfl ?_
      obtain ⟨x181, e182, h⟩ := h_b1_some h
      refine V_getR C fl_RX10_45 dX10_init_331 e182 ?_
      refine V_iload_n C 1 dX10_init_334 rfl rfl ?_
      refine V_ldc2 (v := (-3000000000)) C dX10_init_335 ck_RX10_115 ?_
      obtain ⟨s183, e184, h⟩ := h_b1_some h
      refine V_last C dX10_init_338 e184 ?_
      refine V_iinc (v := (l1 + 1)) (lv' := [(1, .int (l1 + 1)), (0, va_rf l0)]) C 1 dX10_init_339 rfl rfl (by decide) rfl ?_
      refine V_goto (tgt := 324) C dX10_init_342 (by decide) ?_
      exact V_sub [1, 0] rfl (ih s183 l0 (l1 + 1) h)
set_option maxHeartbeats 4000000 in
set_option maxRecDepth 100000 in
theorem w_X10_init_296 {p : Program} {l : Launch} {e : Env} {R : Room} {s : State} {m : MethodId} {args : Array Value} {below : List Frame} {meth : Method} {c : Code} {D : va_G} {dA : Nat → ClassId} {bs : Nat} (C : h_C p m c cX10_init 2 s args RX10 D dA) {σ0 : HS} (B : h_B R s meth σ0 none 1 12) (hnm : meth.name = "<init>") {σ' : HS} : ∀ (n : Nat) (σ : HS) (l0 : Option Nat) (l1 : Int32), g_X10_init_296 n σ l0 l1 = some ((), σ') → V p l e R s m args below meth c D dA bs 2 (MQ below (h_Q D dA bs none σ0 σ') args s R.cells R.slots (fun q => bs ≤ q)) σ 296 [(0, va_rf l0), (1, .int l1)] [] := by
  intro n
  induction n with
  | zero =>
    intro σ l0 l1 h
    rw [g_X10_init_296] at h
    cases h
  | succ n ih =>
    intro σ l0 l1 h
    rw [g_X10_init_296] at h
    refine V_iload_n C 1 dX10_init_296 rfl rfl ?_
    refine V_bipush (v := 8) C dX10_init_297 (by decide) ?_
    refine V_icmp_ge (tgt := 322) C dX10_init_299 (by decide) (fun c174 => ?_) (fun c174 => ?_)
    · rw [if_pos c174] at h
      refine V_iconst (v := 0) C dX10_init_322 (by decide) ?_
      refine V_istore_n (lv' := [(1, .int 0), (0, va_rf l0)]) C dX10_init_323 rfl (by decide) rfl ?_
      exact V_sub [1, 0] rfl (w_X10_init_324 C B hnm h_hN σ l0 0 h)
    · rw [if_neg c174] at h
      refine V_aload_n C 0 dX10_init_302 rfl rfl ?_
      obtain ⟨x185, e186, h⟩ := h_b1_some h
      refine V_getR C fl_RX10_24 dX10_init_303 e186 ?_
      refine V_iload_n C 1 dX10_init_306 rfl rfl ?_
      refine V_iconst (v := (-1)) C dX10_init_307 (by decide) ?_
      obtain ⟨s187, e188, h⟩ := h_b1_some h
      refine V_iast C dX10_init_308 e188 ?_
      refine V_aload_n C 0 dX10_init_309 rfl rfl ?_
      obtain ⟨x189, e190, h⟩ := h_b1_some h
      refine V_getR C fl_RX10_49 dX10_init_310 e190 ?_
      refine V_iload_n C 1 dX10_init_313 rfl rfl ?_
      refine V_iconst (v := (-1)) C dX10_init_314 (by decide) ?_
      obtain ⟨s191, e192, h⟩ := h_b1_some h
      refine V_iast C dX10_init_315 e192 ?_
      refine V_iinc (v := (l1 + 1)) (lv' := [(1, .int (l1 + 1)), (0, va_rf l0)]) C 1 dX10_init_316 rfl rfl (by decide) rfl ?_
      refine V_goto (tgt := 296) C dX10_init_319 (by decide) ?_
      exact V_sub [1, 0] rfl (ih s191 l0 (l1 + 1) h)
set_option maxHeartbeats 4000000 in
set_option maxRecDepth 100000 in
theorem m_X10_init (l : Launch) (D : va_G) (dA : Nat → ClassId) (bs : Nat) {σ σ' : HS} {a0 : Option Nat} (h : f_X10_init σ a0 = some ((), σ')) : MetC l yX10_init cX10_init 2 none 1 12 D dA bs [va_rf a0] none σ σ' := by
  refine MetC.of (by decide) (h_avR h_av0) (Nat.le_of_ble_eq_true rfl) ?_
  intro p e R s m args below meth c C B hnm
  unfold f_X10_init at h
  refine V_sub (lv' := [(0, va_rf a0)]) [0] rfl ?_
  refine V_aload_n C 0 dX10_init_0 rfl rfl ?_
  obtain ⟨y1, e2, h⟩ := h_b1_some h
  refine V_objInit C ob_RX10 ob_i ob_c dX10_init_1 e2 (h_fr B (by decide)) (h_lo B (by decide)) ?_
  refine V_aload_n C 0 dX10_init_4 rfl rfl ?_
  refine V_iconst (v := 1) C dX10_init_5 (by decide) ?_
  obtain ⟨s3, e4, h⟩ := h_b1_some h
  refine V_putI C fw_RX10_7 dX10_init_6 e4 ?_
  refine V_aload_n C 0 dX10_init_9 rfl rfl ?_
  refine V_bipush (v := 8) C dX10_init_10 (by decide) ?_
  obtain ⟨x5, s6, e7, h⟩ := h_bd_some h
  refine V_newZ C ac_boolean dX10_init_12 e7 ?_
  obtain ⟨s8, e9, h⟩ := h_b1_some h
  refine V_putFR C hnm ff_RX10_13 dX10_init_14 e9 ?_
  refine V_aload_n C 0 dX10_init_17 rfl rfl ?_
  refine V_bipush (v := 8) C dX10_init_18 (by decide) ?_
  obtain ⟨x10, s11, e12, h⟩ := h_bd_some h
  refine V_newI C ac_int dX10_init_20 e12 ?_
  obtain ⟨s13, e14, h⟩ := h_b1_some h
  refine V_putFR C hnm ff_RX10_17 dX10_init_22 e14 ?_
  refine V_aload_n C 0 dX10_init_25 rfl rfl ?_
  refine V_bipush (v := 8) C dX10_init_26 (by decide) ?_
  obtain ⟨x15, s16, e17, h⟩ := h_bd_some h
  refine V_newI C ac_int dX10_init_28 e17 ?_
  obtain ⟨s18, e19, h⟩ := h_b1_some h
  refine V_putFR C hnm ff_RX10_21 dX10_init_30 e19 ?_
  refine V_aload_n C 0 dX10_init_33 rfl rfl ?_
  refine V_bipush (v := 8) C dX10_init_34 (by decide) ?_
  obtain ⟨x20, s21, e22, h⟩ := h_bd_some h
  refine V_newI C ac_int dX10_init_36 e22 ?_
  obtain ⟨s23, e24, h⟩ := h_b1_some h
  refine V_putFR C hnm ff_RX10_24 dX10_init_38 e24 ?_
  refine V_aload_n C 0 dX10_init_41 rfl rfl ?_
  refine V_sipush (v := 128) C dX10_init_42 (by decide) ?_
  obtain ⟨x25, s26, e27, h⟩ := h_bd_some h
  refine V_newI C ac_int dX10_init_45 e27 ?_
  obtain ⟨s28, e29, h⟩ := h_b1_some h
  refine V_putFR C hnm ff_RX10_27 dX10_init_47 e29 ?_
  refine V_aload_n C 0 dX10_init_50 rfl rfl ?_
  refine V_sipush (v := 128) C dX10_init_51 (by decide) ?_
  obtain ⟨x30, s31, e32, h⟩ := h_bd_some h
  refine V_newI C ac_int dX10_init_54 e32 ?_
  obtain ⟨s33, e34, h⟩ := h_b1_some h
  refine V_putFR C hnm ff_RX10_30 dX10_init_56 e34 ?_
  refine V_aload_n C 0 dX10_init_59 rfl rfl ?_
  refine V_sipush (v := 128) C dX10_init_60 (by decide) ?_
  obtain ⟨x35, s36, e37, h⟩ := h_bd_some h
  refine V_newI C ac_int dX10_init_63 e37 ?_
  obtain ⟨s38, e39, h⟩ := h_b1_some h
  refine V_putFR C hnm ff_RX10_33 dX10_init_65 e39 ?_
  refine V_aload_n C 0 dX10_init_68 rfl rfl ?_
  refine V_sipush (v := 128) C dX10_init_69 (by decide) ?_
  obtain ⟨x40, s41, e42, h⟩ := h_bd_some h
  refine V_newI C ac_int dX10_init_72 e42 ?_
  obtain ⟨s43, e44, h⟩ := h_b1_some h
  refine V_putFR C hnm ff_RX10_36 dX10_init_74 e44 ?_
  refine V_aload_n C 0 dX10_init_77 rfl rfl ?_
  refine V_sipush (v := 128) C dX10_init_78 (by decide) ?_
  obtain ⟨x45, s46, e47, h⟩ := h_bd_some h
  refine V_newI C ac_int dX10_init_81 e47 ?_
  obtain ⟨s48, e49, h⟩ := h_b1_some h
  refine V_putFR C hnm ff_RX10_39 dX10_init_83 e49 ?_
  refine V_aload_n C 0 dX10_init_86 rfl rfl ?_
  refine V_sipush (v := 128) C dX10_init_87 (by decide) ?_
  obtain ⟨x50, s51, e52, h⟩ := h_bd_some h
  refine V_newI C ac_int dX10_init_90 e52 ?_
  obtain ⟨s53, e54, h⟩ := h_b1_some h
  refine V_putFR C hnm ff_RX10_42 dX10_init_92 e54 ?_
  refine V_aload_n C 0 dX10_init_95 rfl rfl ?_
  refine V_bipush (v := 64) C dX10_init_96 (by decide) ?_
  obtain ⟨x55, s56, e57, h⟩ := h_bd_some h
  refine V_newL C ac_long dX10_init_98 e57 ?_
  obtain ⟨s58, e59, h⟩ := h_b1_some h
  refine V_putFR C hnm ff_RX10_45 dX10_init_100 e59 ?_
  refine V_aload_n C 0 dX10_init_103 rfl rfl ?_
  refine V_bipush (v := 8) C dX10_init_104 (by decide) ?_
  obtain ⟨x60, s61, e62, h⟩ := h_bd_some h
  refine V_newI C ac_int dX10_init_106 e62 ?_
  obtain ⟨s63, e64, h⟩ := h_b1_some h
  refine V_putFR C hnm ff_RX10_49 dX10_init_108 e64 ?_
  refine V_aload_n C 0 dX10_init_111 rfl rfl ?_
  refine V_bipush (v := 8) C dX10_init_112 (by decide) ?_
  obtain ⟨x65, s66, e67, h⟩ := h_bd_some h
  refine V_newI C ac_int dX10_init_114 e67 ?_
  obtain ⟨s68, e69, h⟩ := h_b1_some h
  refine V_putFR C hnm ff_RX10_52 dX10_init_116 e69 ?_
  refine V_aload_n C 0 dX10_init_119 rfl rfl ?_
  refine V_bipush (v := 32) C dX10_init_120 (by decide) ?_
  obtain ⟨x70, s71, e72, h⟩ := h_bd_some h
  refine V_newI C ac_int dX10_init_122 e72 ?_
  obtain ⟨s73, e74, h⟩ := h_b1_some h
  refine V_putFR C hnm ff_RX10_55 dX10_init_124 e74 ?_
  refine V_aload_n C 0 dX10_init_127 rfl rfl ?_
  refine V_bipush (v := 32) C dX10_init_128 (by decide) ?_
  obtain ⟨x75, s76, e77, h⟩ := h_bd_some h
  refine V_newI C ac_int dX10_init_130 e77 ?_
  obtain ⟨s78, e79, h⟩ := h_b1_some h
  refine V_putFR C hnm ff_RX10_58 dX10_init_132 e79 ?_
  refine V_aload_n C 0 dX10_init_135 rfl rfl ?_
  refine V_bipush (v := 8) C dX10_init_136 (by decide) ?_
  obtain ⟨x80, s81, e82, h⟩ := h_bd_some h
  refine V_newI C ac_int dX10_init_138 e82 ?_
  obtain ⟨s83, e84, h⟩ := h_b1_some h
  refine V_putFR C hnm ff_RX10_61 dX10_init_140 e84 ?_
  refine V_aload_n C 0 dX10_init_143 rfl rfl ?_
  refine V_bipush (v := 48) C dX10_init_144 (by decide) ?_
  obtain ⟨x85, s86, e87, h⟩ := h_bd_some h
  refine V_newI C ac_int dX10_init_146 e87 ?_
  obtain ⟨s88, e89, h⟩ := h_b1_some h
  refine V_putFR C hnm ff_RX10_64 dX10_init_148 e89 ?_
  refine V_aload_n C 0 dX10_init_151 rfl rfl ?_
  refine V_bipush (v := 48) C dX10_init_152 (by decide) ?_
  obtain ⟨x90, s91, e92, h⟩ := h_bd_some h
  refine V_newI C ac_int dX10_init_154 e92 ?_
  obtain ⟨s93, e94, h⟩ := h_b1_some h
  refine V_putFR C hnm ff_RX10_67 dX10_init_156 e94 ?_
  refine V_aload_n C 0 dX10_init_159 rfl rfl ?_
  refine V_bipush (v := 48) C dX10_init_160 (by decide) ?_
  obtain ⟨x95, s96, e97, h⟩ := h_bd_some h
  refine V_newI C ac_int dX10_init_162 e97 ?_
  obtain ⟨s98, e99, h⟩ := h_b1_some h
  refine V_putFR C hnm ff_RX10_70 dX10_init_164 e99 ?_
  refine V_aload_n C 0 dX10_init_167 rfl rfl ?_
  refine V_bipush (v := 48) C dX10_init_168 (by decide) ?_
  obtain ⟨x100, s101, e102, h⟩ := h_bd_some h
  refine V_newI C ac_int dX10_init_170 e102 ?_
  obtain ⟨s103, e104, h⟩ := h_b1_some h
  refine V_putFR C hnm ff_RX10_73 dX10_init_172 e104 ?_
  refine V_aload_n C 0 dX10_init_175 rfl rfl ?_
  refine V_bipush (v := 48) C dX10_init_176 (by decide) ?_
  obtain ⟨x105, s106, e107, h⟩ := h_bd_some h
  refine V_newI C ac_int dX10_init_178 e107 ?_
  obtain ⟨s108, e109, h⟩ := h_b1_some h
  refine V_putFR C hnm ff_RX10_76 dX10_init_180 e109 ?_
  refine V_aload_n C 0 dX10_init_183 rfl rfl ?_
  refine V_bipush (v := 48) C dX10_init_184 (by decide) ?_
  obtain ⟨x110, s111, e112, h⟩ := h_bd_some h
  refine V_newI C ac_int dX10_init_186 e112 ?_
  obtain ⟨s113, e114, h⟩ := h_b1_some h
  refine V_putFR C hnm ff_RX10_79 dX10_init_188 e114 ?_
  refine V_aload_n C 0 dX10_init_191 rfl rfl ?_
  refine V_bipush (v := 16) C dX10_init_192 (by decide) ?_
  obtain ⟨x115, s116, e117, h⟩ := h_bd_some h
  refine V_newI C ac_int dX10_init_194 e117 ?_
  obtain ⟨s118, e119, h⟩ := h_b1_some h
  refine V_putFR C hnm ff_RX10_82 dX10_init_196 e119 ?_
  refine V_aload_n C 0 dX10_init_199 rfl rfl ?_
  refine V_bipush (v := 16) C dX10_init_200 (by decide) ?_
  obtain ⟨x120, s121, e122, h⟩ := h_bd_some h
  refine V_newI C ac_int dX10_init_202 e122 ?_
  obtain ⟨s123, e124, h⟩ := h_b1_some h
  refine V_putFR C hnm ff_RX10_85 dX10_init_204 e124 ?_
  refine V_aload_n C 0 dX10_init_207 rfl rfl ?_
  refine V_sipush (v := 201) C dX10_init_208 (by decide) ?_
  obtain ⟨x125, s126, e127, h⟩ := h_bd_some h
  refine V_newI C ac_int dX10_init_211 e127 ?_
  obtain ⟨s128, e129, h⟩ := h_b1_some h
  refine V_putFR C hnm ff_RX10_88 dX10_init_213 e129 ?_
  refine V_aload_n C 0 dX10_init_216 rfl rfl ?_
  refine V_sipush (v := 201) C dX10_init_217 (by decide) ?_
  obtain ⟨x130, s131, e132, h⟩ := h_bd_some h
  refine V_newI C ac_int dX10_init_220 e132 ?_
  obtain ⟨s133, e134, h⟩ := h_b1_some h
  refine V_putFR C hnm ff_RX10_91 dX10_init_222 e134 ?_
  refine V_aload_n C 0 dX10_init_225 rfl rfl ?_
  refine V_sipush (v := 201) C dX10_init_226 (by decide) ?_
  obtain ⟨x135, s136, e137, h⟩ := h_bd_some h
  refine V_newI C ac_int dX10_init_229 e137 ?_
  obtain ⟨s138, e139, h⟩ := h_b1_some h
  refine V_putFR C hnm ff_RX10_94 dX10_init_231 e139 ?_
  refine V_aload_n C 0 dX10_init_234 rfl rfl ?_
  refine V_sipush (v := 201) C dX10_init_235 (by decide) ?_
  obtain ⟨x140, s141, e142, h⟩ := h_bd_some h
  refine V_newI C ac_int dX10_init_238 e142 ?_
  obtain ⟨s143, e144, h⟩ := h_b1_some h
  refine V_putFR C hnm ff_RX10_97 dX10_init_240 e144 ?_
  refine V_aload_n C 0 dX10_init_243 rfl rfl ?_
  refine V_sipush (v := 201) C dX10_init_244 (by decide) ?_
  obtain ⟨x145, s146, e147, h⟩ := h_bd_some h
  refine V_newI C ac_int dX10_init_247 e147 ?_
  obtain ⟨s148, e149, h⟩ := h_b1_some h
  refine V_putFR C hnm ff_RX10_100 dX10_init_249 e149 ?_
  refine V_aload_n C 0 dX10_init_252 rfl rfl ?_
  refine V_sipush (v := 201) C dX10_init_253 (by decide) ?_
  obtain ⟨x150, s151, e152, h⟩ := h_bd_some h
  refine V_newI C ac_int dX10_init_256 e152 ?_
  obtain ⟨s153, e154, h⟩ := h_b1_some h
  refine V_putFR C hnm ff_RX10_103 dX10_init_258 e154 ?_
  refine V_aload_n C 0 dX10_init_261 rfl rfl ?_
  refine V_sipush (v := 201) C dX10_init_262 (by decide) ?_
  obtain ⟨x155, s156, e157, h⟩ := h_bd_some h
  refine V_newI C ac_int dX10_init_265 e157 ?_
  obtain ⟨s158, e159, h⟩ := h_b1_some h
  refine V_putFR C hnm ff_RX10_106 dX10_init_267 e159 ?_
  refine V_aload_n C 0 dX10_init_270 rfl rfl ?_
  refine V_sipush (v := 1608) C dX10_init_271 (by decide) ?_
  obtain ⟨x160, s161, e162, h⟩ := h_bd_some h
  refine V_newI C ac_int dX10_init_274 e162 ?_
  obtain ⟨s163, e164, h⟩ := h_b1_some h
  refine V_putFR C hnm ff_RX10_109 dX10_init_276 e164 ?_
  refine V_aload_n C 0 dX10_init_279 rfl rfl ?_
  refine V_bipush (v := 8) C dX10_init_280 (by decide) ?_
  obtain ⟨x165, s166, e167, h⟩ := h_bd_some h
  refine V_newI C ac_int dX10_init_282 e167 ?_
  obtain ⟨s168, e169, h⟩ := h_b1_some h
  refine V_putFR C hnm ff_RX10_112 dX10_init_284 e169 ?_
  refine V_aload_n C 0 dX10_init_287 rfl rfl ?_
  obtain ⟨x170, e171, h⟩ := h_b1_some h
  refine V_getR C fl_RX10_13 dX10_init_288 e171 ?_
  refine V_iconst (v := 0) C dX10_init_291 (by decide) ?_
  refine V_iconst (v := 1) C dX10_init_292 (by decide) ?_
  obtain ⟨s172, e173, h⟩ := h_b1_some h
  refine V_zast C dX10_init_293 (Or.inr rfl) e173 ?_
  refine V_iconst (v := 0) C dX10_init_294 (by decide) ?_
  refine V_istore_n (lv' := [(1, .int 0), (0, va_rf a0)]) C dX10_init_295 rfl (by decide) rfl ?_
  exact V_sub [1, 0] rfl (w_X10_init_296 C B hnm h_hN s172 a0 0 h)
/-! X10_in -/
theorem dX10_in_0 : decode cX10_in 0 = .ok (.iload_n 0, 1) := by decide +kernel
theorem dX10_in_1 : decode cX10_in 1 = .ok (.iload_n 1, 1) := by decide +kernel
theorem dX10_in_2 : decode cX10_in 2 = .ok (.if_icmp .lt 12, 3) := by decide +kernel
theorem dX10_in_5 : decode cX10_in 5 = .ok (.iload_n 0, 1) := by decide +kernel
theorem dX10_in_6 : decode cX10_in 6 = .ok (.iload_n 2, 1) := by decide +kernel
theorem dX10_in_7 : decode cX10_in 7 = .ok (.if_icmp .gt 7, 3) := by decide +kernel
theorem dX10_in_10 : decode cX10_in 10 = .ok (.iconst 1, 1) := by decide +kernel
theorem dX10_in_11 : decode cX10_in 11 = .ok (.goto 4, 3) := by decide +kernel
theorem dX10_in_14 : decode cX10_in 14 = .ok (.iconst 0, 1) := by decide +kernel
theorem dX10_in_15 : decode cX10_in 15 = .ok (.ireturn, 1) := by decide +kernel
def f_X10_in (σ : HS) (a0 : Int32) (a1 : Int32) (a2 : Int32) : Option (Int32 × HS) :=
  if a0 < a1 then
    some (0, σ)
  else
    if a2 < a0 then
      some (0, σ)
    else
      some (1, σ)
set_option maxHeartbeats 4000000 in
set_option maxRecDepth 100000 in
theorem m_X10_in (l : Launch) (D : va_G) (dA : Nat → ClassId) (bs : Nat) {σ σ' : HS} {a0 : Int32} {a1 : Int32} {a2 : Int32} {r : Int32} (h : f_X10_in σ a0 a1 a2 = some (r, σ')) : MetC l yX10_in cX10_in 3 (some .boolean) 0 0 D dA bs [.int a0, .int a1, .int a2] (some (.int r)) σ σ' := by
  refine MetC.of (by decide) (h_avI (h_avI (h_avI h_av0))) (Nat.le_of_ble_eq_true rfl) ?_
  intro p e R s m args below meth c C B hnm
  unfold f_X10_in at h
  refine V_sub (lv' := [(0, .int a0), (1, .int a1), (2, .int a2)]) [0, 1, 2] rfl ?_
  refine V_iload_n C 0 dX10_in_0 rfl rfl ?_
  refine V_iload_n C 1 dX10_in_1 rfl rfl ?_
  refine V_icmp_lt (tgt := 14) C dX10_in_2 (by decide) (fun c1 => ?_) (fun c1 => ?_)
  · rw [if_pos c1] at h
    refine V_iconst (v := 0) C dX10_in_14 (by decide) ?_
    cases h
    exact V_zret C B dX10_in_15 (Or.inl rfl)
  · rw [if_neg c1] at h
    refine V_iload_n C 0 dX10_in_5 rfl rfl ?_
    refine V_iload_n C 2 dX10_in_6 rfl rfl ?_
    refine V_icmp_gt (tgt := 14) C dX10_in_7 (by decide) (fun c2 => ?_) (fun c2 => ?_)
    · rw [if_pos c2] at h
      refine V_iconst (v := 0) C dX10_in_14 (by decide) ?_
      cases h
      exact V_zret C B dX10_in_15 (Or.inl rfl)
    · rw [if_neg c2] at h
      refine V_iconst (v := 1) C dX10_in_10 (by decide) ?_
      refine V_goto (tgt := 15) C dX10_in_11 (by decide) ?_
      cases h
      exact V_zret C B dX10_in_15 (Or.inr rfl)
/-! X10_begin -/
theorem dX10_begin_0 : decode cX10_begin 0 = .ok (.iload_n 2, 1) := by decide +kernel
theorem dX10_begin_1 : decode cX10_begin 1 = .ok (.ifCond .eq 14, 3) := by decide +kernel
theorem dX10_begin_4 : decode cX10_begin 4 = .ok (.iload_n 0, 1) := by decide +kernel
theorem dX10_begin_5 : decode cX10_begin 5 = .ok (.iload_n 1, 1) := by decide +kernel
theorem dX10_begin_6 : decode cX10_begin 6 = .ok (.ixor, 1) := by decide +kernel
theorem dX10_begin_7 : decode cX10_begin 7 = .ok (.bipush 32, 2) := by decide +kernel
theorem dX10_begin_9 : decode cX10_begin 9 = .ok (.iload_n 2, 1) := by decide +kernel
theorem dX10_begin_10 : decode cX10_begin 10 = .ok (.isub, 1) := by decide +kernel
theorem dX10_begin_11 : decode cX10_begin 11 = .ok (.iushr, 1) := by decide +kernel
theorem dX10_begin_12 : decode cX10_begin 12 = .ok (.ifCond .ne 7, 3) := by decide +kernel
theorem dX10_begin_15 : decode cX10_begin 15 = .ok (.iconst 1, 1) := by decide +kernel
theorem dX10_begin_16 : decode cX10_begin 16 = .ok (.goto 4, 3) := by decide +kernel
theorem dX10_begin_19 : decode cX10_begin 19 = .ok (.iconst 0, 1) := by decide +kernel
theorem dX10_begin_20 : decode cX10_begin 20 = .ok (.ireturn, 1) := by decide +kernel
def f_X10_begin (σ : HS) (a0 : Int32) (a1 : Int32) (a2 : Int32) : Option (Int32 × HS) :=
  if a2 = 0 then
    some (1, σ)
  else
    if (h_ushr (a0 ^^^ a1) (32 - a2)) = 0 then
      some (1, σ)
    else
      some (0, σ)
set_option maxHeartbeats 4000000 in
set_option maxRecDepth 100000 in
theorem m_X10_begin (l : Launch) (D : va_G) (dA : Nat → ClassId) (bs : Nat) {σ σ' : HS} {a0 : Int32} {a1 : Int32} {a2 : Int32} {r : Int32} (h : f_X10_begin σ a0 a1 a2 = some (r, σ')) : MetC l yX10_begin cX10_begin 3 (some .boolean) 0 0 D dA bs [.int a0, .int a1, .int a2] (some (.int r)) σ σ' := by
  refine MetC.of (by decide) (h_avI (h_avI (h_avI h_av0))) (Nat.le_of_ble_eq_true rfl) ?_
  intro p e R s m args below meth c C B hnm
  unfold f_X10_begin at h
  refine V_sub (lv' := [(0, .int a0), (1, .int a1), (2, .int a2)]) [0, 1, 2] rfl ?_
  refine V_iload_n C 2 dX10_begin_0 rfl rfl ?_
  refine V_if_eq (tgt := 15) C dX10_begin_1 (by decide) (fun c1 => ?_) (fun c1 => ?_)
  · rw [if_pos c1] at h
    refine V_iconst (v := 1) C dX10_begin_15 (by decide) ?_
    refine V_goto (tgt := 20) C dX10_begin_16 (by decide) ?_
    cases h
    exact V_zret C B dX10_begin_20 (Or.inr rfl)
  · rw [if_neg c1] at h
    refine V_iload_n C 0 dX10_begin_4 rfl rfl ?_
    refine V_iload_n C 1 dX10_begin_5 rfl rfl ?_
    refine V_ixor C dX10_begin_6 ?_
    refine V_bipush (v := 32) C dX10_begin_7 (by decide) ?_
    refine V_iload_n C 2 dX10_begin_9 rfl rfl ?_
    refine V_isub C dX10_begin_10 ?_
    refine V_iushr C dX10_begin_11 ?_
    refine V_if_ne (tgt := 19) C dX10_begin_12 (by decide) (fun c2 => ?_) (fun c2 => ?_)
    · rw [if_neg c2] at h
      refine V_iconst (v := 0) C dX10_begin_19 (by decide) ?_
      cases h
      exact V_zret C B dX10_begin_20 (Or.inl rfl)
    · rw [if_pos c2] at h
      refine V_iconst (v := 1) C dX10_begin_15 (by decide) ?_
      refine V_goto (tgt := 20) C dX10_begin_16 (by decide) ?_
      cases h
      exact V_zret C B dX10_begin_20 (Or.inr rfl)
/-! X10_isPrefix -/
theorem dX10_isPrefix_0 : decode cX10_isPrefix 0 = .ok (.iload_n 1, 1) := by decide +kernel
theorem dX10_isPrefix_1 : decode cX10_isPrefix 1 = .ok (.iconst 0, 1) := by decide +kernel
theorem dX10_isPrefix_2 : decode cX10_isPrefix 2 = .ok (.bipush 32, 2) := by decide +kernel
theorem dX10_isPrefix_4 : decode cX10_isPrefix 4 = .ok (.invokestatic 120, 3) := by decide +kernel
theorem dX10_isPrefix_7 : decode cX10_isPrefix 7 = .ok (.ifCond .eq 30, 3) := by decide +kernel
theorem dX10_isPrefix_10 : decode cX10_isPrefix 10 = .ok (.iload_n 1, 1) := by decide +kernel
theorem dX10_isPrefix_11 : decode cX10_isPrefix 11 = .ok (.ifCond .ne 10, 3) := by decide +kernel
theorem dX10_isPrefix_14 : decode cX10_isPrefix 14 = .ok (.iload_n 0, 1) := by decide +kernel
theorem dX10_isPrefix_15 : decode cX10_isPrefix 15 = .ok (.ifCond .ne 22, 3) := by decide +kernel
theorem dX10_isPrefix_18 : decode cX10_isPrefix 18 = .ok (.goto 15, 3) := by decide +kernel
theorem dX10_isPrefix_21 : decode cX10_isPrefix 21 = .ok (.iload_n 1, 1) := by decide +kernel
theorem dX10_isPrefix_22 : decode cX10_isPrefix 22 = .ok (.bipush 32, 2) := by decide +kernel
theorem dX10_isPrefix_24 : decode cX10_isPrefix 24 = .ok (.if_icmp .eq 9, 3) := by decide +kernel
theorem dX10_isPrefix_27 : decode cX10_isPrefix 27 = .ok (.iload_n 0, 1) := by decide +kernel
theorem dX10_isPrefix_28 : decode cX10_isPrefix 28 = .ok (.iload_n 1, 1) := by decide +kernel
theorem dX10_isPrefix_29 : decode cX10_isPrefix 29 = .ok (.ishl, 1) := by decide +kernel
theorem dX10_isPrefix_30 : decode cX10_isPrefix 30 = .ok (.ifCond .ne 7, 3) := by decide +kernel
theorem dX10_isPrefix_33 : decode cX10_isPrefix 33 = .ok (.iconst 1, 1) := by decide +kernel
theorem dX10_isPrefix_34 : decode cX10_isPrefix 34 = .ok (.goto 4, 3) := by decide +kernel
theorem dX10_isPrefix_37 : decode cX10_isPrefix 37 = .ok (.iconst 0, 1) := by decide +kernel
theorem dX10_isPrefix_38 : decode cX10_isPrefix 38 = .ok (.ireturn, 1) := by decide +kernel
def f_X10_isPrefix (σ : HS) (a0 : Int32) (a1 : Int32) : Option (Int32 × HS) :=
  h_bd (f_X10_in σ a1 0 32) fun r1 s2 =>
  if r1 = 0 then
    some (0, s2)
  else
    if a1 = 0 then
      if a0 = 0 then
        some (1, s2)
      else
        some (0, s2)
    else
      if a1 = 32 then
        some (1, s2)
      else
        if (a0 <<< (a1 &&& 31)) = 0 then
          some (1, s2)
        else
          some (0, s2)
set_option maxHeartbeats 4000000 in
set_option maxRecDepth 100000 in
theorem m_X10_isPrefix (l : Launch) (D : va_G) (dA : Nat → ClassId) (bs : Nat) {σ σ' : HS} {a0 : Int32} {a1 : Int32} {r : Int32} (h : f_X10_isPrefix σ a0 a1 = some (r, σ')) : MetC l yX10_isPrefix cX10_isPrefix 2 (some .boolean) 1 22 D dA bs [.int a0, .int a1] (some (.int r)) σ σ' := by
  refine MetC.of (by decide) (h_avI (h_avI h_av0)) (Nat.le_of_ble_eq_true rfl) ?_
  intro p e R s m args below meth c C B hnm
  unfold f_X10_isPrefix at h
  refine V_sub (lv' := [(0, .int a0), (1, .int a1)]) [0, 1] rfl ?_
  refine V_iload_n C 1 dX10_isPrefix_0 rfl rfl ?_
  refine V_iconst (v := 0) C dX10_isPrefix_1 (by decide) ?_
  refine V_bipush (v := 32) C dX10_isPrefix_2 (by decide) ?_
  obtain ⟨r1, s2, e3, h⟩ := h_bd_some h
  refine V_cS (As := [.int a1, .int 0, .int 32]) (rest := []) C ms_RX10_120 (m_X10_in l D dA bs e3) rfl rfl (Nat.le_trans h_w0 (by decide)) (h_fr B (by decide)) (h_lo B (by decide)) dX10_isPrefix_4 ?_
  refine V_if_eq (tgt := 37) C dX10_isPrefix_7 (by decide) (fun c4 => ?_) (fun c4 => ?_)
  · rw [if_pos c4] at h
    refine V_iconst (v := 0) C dX10_isPrefix_37 (by decide) ?_
    cases h
    exact V_zret C B dX10_isPrefix_38 (Or.inl rfl)
  · rw [if_neg c4] at h
    refine V_iload_n C 1 dX10_isPrefix_10 rfl rfl ?_
    refine V_if_ne (tgt := 21) C dX10_isPrefix_11 (by decide) (fun c5 => ?_) (fun c5 => ?_)
    · rw [if_neg c5] at h
      refine V_iload_n C 1 dX10_isPrefix_21 rfl rfl ?_
      refine V_bipush (v := 32) C dX10_isPrefix_22 (by decide) ?_
      refine V_icmp_eq (tgt := 33) C dX10_isPrefix_24 (by decide) (fun c6 => ?_) (fun c6 => ?_)
      · rw [if_pos c6] at h
        refine V_iconst (v := 1) C dX10_isPrefix_33 (by decide) ?_
        refine V_goto (tgt := 38) C dX10_isPrefix_34 (by decide) ?_
        cases h
        exact V_zret C B dX10_isPrefix_38 (Or.inr rfl)
      · rw [if_neg c6] at h
        refine V_iload_n C 0 dX10_isPrefix_27 rfl rfl ?_
        refine V_iload_n C 1 dX10_isPrefix_28 rfl rfl ?_
        refine V_ishl C dX10_isPrefix_29 ?_
        refine V_if_ne (tgt := 37) C dX10_isPrefix_30 (by decide) (fun c7 => ?_) (fun c7 => ?_)
        · rw [if_neg c7] at h
          refine V_iconst (v := 0) C dX10_isPrefix_37 (by decide) ?_
          cases h
          exact V_zret C B dX10_isPrefix_38 (Or.inl rfl)
        · rw [if_pos c7] at h
          refine V_iconst (v := 1) C dX10_isPrefix_33 (by decide) ?_
          refine V_goto (tgt := 38) C dX10_isPrefix_34 (by decide) ?_
          cases h
          exact V_zret C B dX10_isPrefix_38 (Or.inr rfl)
    · rw [if_pos c5] at h
      refine V_iload_n C 0 dX10_isPrefix_14 rfl rfl ?_
      refine V_if_ne (tgt := 37) C dX10_isPrefix_15 (by decide) (fun c8 => ?_) (fun c8 => ?_)
      · rw [if_neg c8] at h
        refine V_iconst (v := 0) C dX10_isPrefix_37 (by decide) ?_
        cases h
        exact V_zret C B dX10_isPrefix_38 (Or.inl rfl)
      · rw [if_pos c8] at h
        refine V_goto (tgt := 33) C dX10_isPrefix_18 (by decide) ?_
        refine V_iconst (v := 1) C dX10_isPrefix_33 (by decide) ?_
        refine V_goto (tgt := 38) C dX10_isPrefix_34 (by decide) ?_
        cases h
        exact V_zret C B dX10_isPrefix_38 (Or.inr rfl)
/-! X10_holds -/
theorem dX10_holds_0 : decode cX10_holds 0 = .ok (.iload_n 3, 1) := by decide +kernel
theorem dX10_holds_1 : decode cX10_holds 1 = .ok (.iload_n 1, 1) := by decide +kernel
theorem dX10_holds_2 : decode cX10_holds 2 = .ok (.if_icmp .lt 16, 3) := by decide +kernel
theorem dX10_holds_5 : decode cX10_holds 5 = .ok (.iload_n 0, 1) := by decide +kernel
theorem dX10_holds_6 : decode cX10_holds 6 = .ok (.iload_n 2, 1) := by decide +kernel
theorem dX10_holds_7 : decode cX10_holds 7 = .ok (.iload_n 1, 1) := by decide +kernel
theorem dX10_holds_8 : decode cX10_holds 8 = .ok (.invokestatic 124, 3) := by decide +kernel
theorem dX10_holds_11 : decode cX10_holds 11 = .ok (.ifCond .eq 7, 3) := by decide +kernel
theorem dX10_holds_14 : decode cX10_holds 14 = .ok (.iconst 1, 1) := by decide +kernel
theorem dX10_holds_15 : decode cX10_holds 15 = .ok (.goto 4, 3) := by decide +kernel
theorem dX10_holds_18 : decode cX10_holds 18 = .ok (.iconst 0, 1) := by decide +kernel
theorem dX10_holds_19 : decode cX10_holds 19 = .ok (.ireturn, 1) := by decide +kernel
def f_X10_holds (σ : HS) (a0 : Int32) (a1 : Int32) (a2 : Int32) (a3 : Int32) : Option (Int32 × HS) :=
  if a3 < a1 then
    some (0, σ)
  else
    h_bd (f_X10_begin σ a0 a2 a1) fun r2 s3 =>
    if r2 = 0 then
      some (0, s3)
    else
      some (1, s3)
set_option maxHeartbeats 4000000 in
set_option maxRecDepth 100000 in
theorem m_X10_holds (l : Launch) (D : va_G) (dA : Nat → ClassId) (bs : Nat) {σ σ' : HS} {a0 : Int32} {a1 : Int32} {a2 : Int32} {a3 : Int32} {r : Int32} (h : f_X10_holds σ a0 a1 a2 a3 = some (r, σ')) : MetC l yX10_holds cX10_holds 4 (some .boolean) 1 22 D dA bs [.int a0, .int a1, .int a2, .int a3] (some (.int r)) σ σ' := by
  refine MetC.of (by decide) (h_avI (h_avI (h_avI (h_avI h_av0)))) (Nat.le_of_ble_eq_true rfl) ?_
  intro p e R s m args below meth c C B hnm
  unfold f_X10_holds at h
  refine V_sub (lv' := [(0, .int a0), (1, .int a1), (2, .int a2), (3, .int a3)]) [0, 1, 2, 3] rfl ?_
  refine V_iload_n C 3 dX10_holds_0 rfl rfl ?_
  refine V_iload_n C 1 dX10_holds_1 rfl rfl ?_
  refine V_icmp_lt (tgt := 18) C dX10_holds_2 (by decide) (fun c1 => ?_) (fun c1 => ?_)
  · rw [if_pos c1] at h
    refine V_iconst (v := 0) C dX10_holds_18 (by decide) ?_
    cases h
    exact V_zret C B dX10_holds_19 (Or.inl rfl)
  · rw [if_neg c1] at h
    refine V_iload_n C 0 dX10_holds_5 rfl rfl ?_
    refine V_iload_n C 2 dX10_holds_6 rfl rfl ?_
    refine V_iload_n C 1 dX10_holds_7 rfl rfl ?_
    obtain ⟨r2, s3, e4, h⟩ := h_bd_some h
    refine V_cS (As := [.int a0, .int a2, .int a1]) (rest := []) C ms_RX10_124 (m_X10_begin l D dA bs e4) rfl rfl (Nat.le_trans h_w0 (by decide)) (h_fr B (by decide)) (h_lo B (by decide)) dX10_holds_8 ?_
    refine V_if_eq (tgt := 18) C dX10_holds_11 (by decide) (fun c5 => ?_) (fun c5 => ?_)
    · rw [if_pos c5] at h
      refine V_iconst (v := 0) C dX10_holds_18 (by decide) ?_
      cases h
      exact V_zret C B dX10_holds_19 (Or.inl rfl)
    · rw [if_neg c5] at h
      refine V_iconst (v := 1) C dX10_holds_14 (by decide) ?_
      refine V_goto (tgt := 19) C dX10_holds_15 (by decide) ?_
      cases h
      exact V_zret C B dX10_holds_19 (Or.inr rfl)
/-! X10_isServerAt -/
theorem dX10_isServerAt_0 : decode cX10_isServerAt 0 = .ok (.iload_n 1, 1) := by decide +kernel
theorem dX10_isServerAt_1 : decode cX10_isServerAt 1 = .ok (.iconst 0, 1) := by decide +kernel
theorem dX10_isServerAt_2 : decode cX10_isServerAt 2 = .ok (.bipush 7, 2) := by decide +kernel
theorem dX10_isServerAt_4 : decode cX10_isServerAt 4 = .ok (.invokestatic 120, 3) := by decide +kernel
theorem dX10_isServerAt_7 : decode cX10_isServerAt 7 = .ok (.ifCond .eq 16, 3) := by decide +kernel
theorem dX10_isServerAt_10 : decode cX10_isServerAt 10 = .ok (.aload_n 0, 1) := by decide +kernel
theorem dX10_isServerAt_11 : decode cX10_isServerAt 11 = .ok (.getfield 13, 3) := by decide +kernel
theorem dX10_isServerAt_14 : decode cX10_isServerAt 14 = .ok (.iload_n 1, 1) := by decide +kernel
theorem dX10_isServerAt_15 : decode cX10_isServerAt 15 = .ok (.baload, 1) := by decide +kernel
theorem dX10_isServerAt_16 : decode cX10_isServerAt 16 = .ok (.ifCond .eq 7, 3) := by decide +kernel
theorem dX10_isServerAt_19 : decode cX10_isServerAt 19 = .ok (.iconst 1, 1) := by decide +kernel
theorem dX10_isServerAt_20 : decode cX10_isServerAt 20 = .ok (.goto 4, 3) := by decide +kernel
theorem dX10_isServerAt_23 : decode cX10_isServerAt 23 = .ok (.iconst 0, 1) := by decide +kernel
theorem dX10_isServerAt_24 : decode cX10_isServerAt 24 = .ok (.ireturn, 1) := by decide +kernel
def f_X10_isServerAt (σ : HS) (a0 : Option Nat) (a1 : Int32) : Option (Int32 × HS) :=
  h_bd (f_X10_in σ a1 0 7) fun r1 s2 =>
  if r1 = 0 then
    some (0, s2)
  else
    h_b1 (h_gR s2 a0 11 3) fun x5 =>
    h_b1 (h_aI s2 x5 102 a1) fun x7 =>
    if x7 = 0 then
      some (0, s2)
    else
      some (1, s2)
set_option maxHeartbeats 4000000 in
set_option maxRecDepth 100000 in
theorem m_X10_isServerAt (l : Launch) (D : va_G) (dA : Nat → ClassId) (bs : Nat) {σ σ' : HS} {a0 : Option Nat} {a1 : Int32} {r : Int32} (h : f_X10_isServerAt σ a0 a1 = some (r, σ')) : MetC l yX10_isServerAt cX10_isServerAt 2 (some .boolean) 1 22 D dA bs [va_rf a0, .int a1] (some (.int r)) σ σ' := by
  refine MetC.of (by decide) (h_avR (h_avI h_av0)) (Nat.le_of_ble_eq_true rfl) ?_
  intro p e R s m args below meth c C B hnm
  unfold f_X10_isServerAt at h
  refine V_sub (lv' := [(0, va_rf a0), (1, .int a1)]) [0, 1] rfl ?_
  refine V_iload_n C 1 dX10_isServerAt_0 rfl rfl ?_
  refine V_iconst (v := 0) C dX10_isServerAt_1 (by decide) ?_
  refine V_bipush (v := 7) C dX10_isServerAt_2 (by decide) ?_
  obtain ⟨r1, s2, e3, h⟩ := h_bd_some h
  refine V_cS (As := [.int a1, .int 0, .int 7]) (rest := []) C ms_RX10_120 (m_X10_in l D dA bs e3) rfl rfl (Nat.le_trans h_w0 (by decide)) (h_fr B (by decide)) (h_lo B (by decide)) dX10_isServerAt_4 ?_
  refine V_if_eq (tgt := 23) C dX10_isServerAt_7 (by decide) (fun c4 => ?_) (fun c4 => ?_)
  · rw [if_pos c4] at h
    refine V_iconst (v := 0) C dX10_isServerAt_23 (by decide) ?_
    cases h
    exact V_zret C B dX10_isServerAt_24 (Or.inl rfl)
  · rw [if_neg c4] at h
    refine V_aload_n C 0 dX10_isServerAt_10 rfl rfl ?_
    obtain ⟨x5, e6, h⟩ := h_b1_some h
    refine V_getR C fl_RX10_13 dX10_isServerAt_11 e6 ?_
    refine V_iload_n C 1 dX10_isServerAt_14 rfl rfl ?_
    obtain ⟨x7, e8, h⟩ := h_b1_some h
    refine V_zald C dX10_isServerAt_15 e8 ?_
    refine V_if_eq (tgt := 23) C dX10_isServerAt_16 (by decide) (fun c9 => ?_) (fun c9 => ?_)
    · rw [if_pos c9] at h
      refine V_iconst (v := 0) C dX10_isServerAt_23 (by decide) ?_
      cases h
      exact V_zret C B dX10_isServerAt_24 (Or.inl rfl)
    · rw [if_neg c9] at h
      refine V_iconst (v := 1) C dX10_isServerAt_19 (by decide) ?_
      refine V_goto (tgt := 24) C dX10_isServerAt_20 (by decide) ?_
      cases h
      exact V_zret C B dX10_isServerAt_24 (Or.inr rfl)
/-! X10_isSite -/
theorem dX10_isSite_0 : decode cX10_isSite 0 = .ok (.iload_n 1, 1) := by decide +kernel
theorem dX10_isSite_1 : decode cX10_isSite 1 = .ok (.iconst 0, 1) := by decide +kernel
theorem dX10_isSite_2 : decode cX10_isSite 2 = .ok (.bipush 7, 2) := by decide +kernel
theorem dX10_isSite_4 : decode cX10_isSite 4 = .ok (.invokestatic 120, 3) := by decide +kernel
theorem dX10_isSite_7 : decode cX10_isSite 7 = .ok (.ifCond .eq 17, 3) := by decide +kernel
theorem dX10_isSite_10 : decode cX10_isSite 10 = .ok (.aload_n 0, 1) := by decide +kernel
theorem dX10_isSite_11 : decode cX10_isSite 11 = .ok (.getfield 49, 3) := by decide +kernel
theorem dX10_isSite_14 : decode cX10_isSite 14 = .ok (.iload_n 1, 1) := by decide +kernel
theorem dX10_isSite_15 : decode cX10_isSite 15 = .ok (.iaload, 1) := by decide +kernel
theorem dX10_isSite_16 : decode cX10_isSite 16 = .ok (.iconst (-1), 1) := by decide +kernel
theorem dX10_isSite_17 : decode cX10_isSite 17 = .ok (.if_icmp .eq 7, 3) := by decide +kernel
theorem dX10_isSite_20 : decode cX10_isSite 20 = .ok (.iconst 1, 1) := by decide +kernel
theorem dX10_isSite_21 : decode cX10_isSite 21 = .ok (.goto 4, 3) := by decide +kernel
theorem dX10_isSite_24 : decode cX10_isSite 24 = .ok (.iconst 0, 1) := by decide +kernel
theorem dX10_isSite_25 : decode cX10_isSite 25 = .ok (.ireturn, 1) := by decide +kernel
def f_X10_isSite (σ : HS) (a0 : Option Nat) (a1 : Int32) : Option (Int32 × HS) :=
  h_bd (f_X10_in σ a1 0 7) fun r1 s2 =>
  if r1 = 0 then
    some (0, s2)
  else
    h_b1 (h_gR s2 a0 11 14) fun x5 =>
    h_b1 (h_aI s2 x5 100 a1) fun x7 =>
    if x7 = (-1) then
      some (0, s2)
    else
      some (1, s2)
set_option maxHeartbeats 4000000 in
set_option maxRecDepth 100000 in
theorem m_X10_isSite (l : Launch) (D : va_G) (dA : Nat → ClassId) (bs : Nat) {σ σ' : HS} {a0 : Option Nat} {a1 : Int32} {r : Int32} (h : f_X10_isSite σ a0 a1 = some (r, σ')) : MetC l yX10_isSite cX10_isSite 2 (some .boolean) 1 22 D dA bs [va_rf a0, .int a1] (some (.int r)) σ σ' := by
  refine MetC.of (by decide) (h_avR (h_avI h_av0)) (Nat.le_of_ble_eq_true rfl) ?_
  intro p e R s m args below meth c C B hnm
  unfold f_X10_isSite at h
  refine V_sub (lv' := [(0, va_rf a0), (1, .int a1)]) [0, 1] rfl ?_
  refine V_iload_n C 1 dX10_isSite_0 rfl rfl ?_
  refine V_iconst (v := 0) C dX10_isSite_1 (by decide) ?_
  refine V_bipush (v := 7) C dX10_isSite_2 (by decide) ?_
  obtain ⟨r1, s2, e3, h⟩ := h_bd_some h
  refine V_cS (As := [.int a1, .int 0, .int 7]) (rest := []) C ms_RX10_120 (m_X10_in l D dA bs e3) rfl rfl (Nat.le_trans h_w0 (by decide)) (h_fr B (by decide)) (h_lo B (by decide)) dX10_isSite_4 ?_
  refine V_if_eq (tgt := 24) C dX10_isSite_7 (by decide) (fun c4 => ?_) (fun c4 => ?_)
  · rw [if_pos c4] at h
    refine V_iconst (v := 0) C dX10_isSite_24 (by decide) ?_
    cases h
    exact V_zret C B dX10_isSite_25 (Or.inl rfl)
  · rw [if_neg c4] at h
    refine V_aload_n C 0 dX10_isSite_10 rfl rfl ?_
    obtain ⟨x5, e6, h⟩ := h_b1_some h
    refine V_getR C fl_RX10_49 dX10_isSite_11 e6 ?_
    refine V_iload_n C 1 dX10_isSite_14 rfl rfl ?_
    obtain ⟨x7, e8, h⟩ := h_b1_some h
    refine V_iald C dX10_isSite_15 e8 ?_
    refine V_iconst (v := (-1)) C dX10_isSite_16 (by decide) ?_
    refine V_icmp_eq (tgt := 24) C dX10_isSite_17 (by decide) (fun c9 => ?_) (fun c9 => ?_)
    · rw [if_pos c9] at h
      refine V_iconst (v := 0) C dX10_isSite_24 (by decide) ?_
      cases h
      exact V_zret C B dX10_isSite_25 (Or.inl rfl)
    · rw [if_neg c9] at h
      refine V_iconst (v := 1) C dX10_isSite_20 (by decide) ?_
      refine V_goto (tgt := 25) C dX10_isSite_21 (by decide) ?_
      cases h
      exact V_zret C B dX10_isSite_25 (Or.inr rfl)
/-! X10_owner -/
theorem dX10_owner_0 : decode cX10_owner 0 = .ok (.iconst 0, 1) := by decide +kernel
theorem dX10_owner_1 : decode cX10_owner 1 = .ok (.istore_n 3, 1) := by decide +kernel
theorem dX10_owner_2 : decode cX10_owner 2 = .ok (.iconst 0, 1) := by decide +kernel
theorem dX10_owner_3 : decode cX10_owner 3 = .ok (.istore 4, 2) := by decide +kernel
theorem dX10_owner_5 : decode cX10_owner 5 = .ok (.iload 4, 2) := by decide +kernel
theorem dX10_owner_7 : decode cX10_owner 7 = .ok (.bipush 8, 2) := by decide +kernel
theorem dX10_owner_9 : decode cX10_owner 9 = .ok (.if_icmp .ge 60, 3) := by decide +kernel
theorem dX10_owner_12 : decode cX10_owner 12 = .ok (.aload_n 0, 1) := by decide +kernel
theorem dX10_owner_13 : decode cX10_owner 13 = .ok (.getfield 13, 3) := by decide +kernel
theorem dX10_owner_16 : decode cX10_owner 16 = .ok (.iload 4, 2) := by decide +kernel
theorem dX10_owner_18 : decode cX10_owner 18 = .ok (.baload, 1) := by decide +kernel
theorem dX10_owner_19 : decode cX10_owner 19 = .ok (.ifCond .eq 44, 3) := by decide +kernel
theorem dX10_owner_22 : decode cX10_owner 22 = .ok (.aload_n 0, 1) := by decide +kernel
theorem dX10_owner_23 : decode cX10_owner 23 = .ok (.getfield 17, 3) := by decide +kernel
theorem dX10_owner_26 : decode cX10_owner 26 = .ok (.iload 4, 2) := by decide +kernel
theorem dX10_owner_28 : decode cX10_owner 28 = .ok (.iaload, 1) := by decide +kernel
theorem dX10_owner_29 : decode cX10_owner 29 = .ok (.aload_n 0, 1) := by decide +kernel
theorem dX10_owner_30 : decode cX10_owner 30 = .ok (.getfield 21, 3) := by decide +kernel
theorem dX10_owner_33 : decode cX10_owner 33 = .ok (.iload 4, 2) := by decide +kernel
theorem dX10_owner_35 : decode cX10_owner 35 = .ok (.iaload, 1) := by decide +kernel
theorem dX10_owner_36 : decode cX10_owner 36 = .ok (.iload_n 1, 1) := by decide +kernel
theorem dX10_owner_37 : decode cX10_owner 37 = .ok (.iload_n 2, 1) := by decide +kernel
theorem dX10_owner_38 : decode cX10_owner 38 = .ok (.invokestatic 127, 3) := by decide +kernel
theorem dX10_owner_41 : decode cX10_owner 41 = .ok (.ifCond .eq 22, 3) := by decide +kernel
theorem dX10_owner_44 : decode cX10_owner 44 = .ok (.aload_n 0, 1) := by decide +kernel
theorem dX10_owner_45 : decode cX10_owner 45 = .ok (.getfield 21, 3) := by decide +kernel
theorem dX10_owner_48 : decode cX10_owner 48 = .ok (.iload 4, 2) := by decide +kernel
theorem dX10_owner_50 : decode cX10_owner 50 = .ok (.iaload, 1) := by decide +kernel
theorem dX10_owner_51 : decode cX10_owner 51 = .ok (.aload_n 0, 1) := by decide +kernel
theorem dX10_owner_52 : decode cX10_owner 52 = .ok (.getfield 21, 3) := by decide +kernel
theorem dX10_owner_55 : decode cX10_owner 55 = .ok (.iload_n 3, 1) := by decide +kernel
theorem dX10_owner_56 : decode cX10_owner 56 = .ok (.iaload, 1) := by decide +kernel
theorem dX10_owner_57 : decode cX10_owner 57 = .ok (.if_icmp .lt 6, 3) := by decide +kernel
theorem dX10_owner_60 : decode cX10_owner 60 = .ok (.iload 4, 2) := by decide +kernel
theorem dX10_owner_62 : decode cX10_owner 62 = .ok (.istore_n 3, 1) := by decide +kernel
theorem dX10_owner_63 : decode cX10_owner 63 = .ok (.iinc 4 1, 3) := by decide +kernel
theorem dX10_owner_66 : decode cX10_owner 66 = .ok (.goto (-61), 3) := by decide +kernel
theorem dX10_owner_69 : decode cX10_owner 69 = .ok (.iconst 0, 1) := by decide +kernel
theorem dX10_owner_70 : decode cX10_owner 70 = .ok (.istore 4, 2) := by decide +kernel
theorem dX10_owner_72 : decode cX10_owner 72 = .ok (.iload 4, 2) := by decide +kernel
theorem dX10_owner_74 : decode cX10_owner 74 = .ok (.bipush 8, 2) := by decide +kernel
theorem dX10_owner_76 : decode cX10_owner 76 = .ok (.if_icmp .ge 49, 3) := by decide +kernel
theorem dX10_owner_79 : decode cX10_owner 79 = .ok (.iload 4, 2) := by decide +kernel
theorem dX10_owner_81 : decode cX10_owner 81 = .ok (.iload_n 3, 1) := by decide +kernel
theorem dX10_owner_82 : decode cX10_owner 82 = .ok (.if_icmp .eq 37, 3) := by decide +kernel
theorem dX10_owner_85 : decode cX10_owner 85 = .ok (.aload_n 0, 1) := by decide +kernel
theorem dX10_owner_86 : decode cX10_owner 86 = .ok (.getfield 13, 3) := by decide +kernel
theorem dX10_owner_89 : decode cX10_owner 89 = .ok (.iload 4, 2) := by decide +kernel
theorem dX10_owner_91 : decode cX10_owner 91 = .ok (.baload, 1) := by decide +kernel
theorem dX10_owner_92 : decode cX10_owner 92 = .ok (.ifCond .eq 27, 3) := by decide +kernel
theorem dX10_owner_95 : decode cX10_owner 95 = .ok (.iload_n 1, 1) := by decide +kernel
theorem dX10_owner_96 : decode cX10_owner 96 = .ok (.iload_n 2, 1) := by decide +kernel
theorem dX10_owner_97 : decode cX10_owner 97 = .ok (.aload_n 0, 1) := by decide +kernel
theorem dX10_owner_98 : decode cX10_owner 98 = .ok (.getfield 17, 3) := by decide +kernel
theorem dX10_owner_101 : decode cX10_owner 101 = .ok (.iload 4, 2) := by decide +kernel
theorem dX10_owner_103 : decode cX10_owner 103 = .ok (.iaload, 1) := by decide +kernel
theorem dX10_owner_104 : decode cX10_owner 104 = .ok (.aload_n 0, 1) := by decide +kernel
theorem dX10_owner_105 : decode cX10_owner 105 = .ok (.getfield 21, 3) := by decide +kernel
theorem dX10_owner_108 : decode cX10_owner 108 = .ok (.iload 4, 2) := by decide +kernel
theorem dX10_owner_110 : decode cX10_owner 110 = .ok (.iaload, 1) := by decide +kernel
theorem dX10_owner_111 : decode cX10_owner 111 = .ok (.invokestatic 127, 3) := by decide +kernel
theorem dX10_owner_114 : decode cX10_owner 114 = .ok (.ifCond .eq 5, 3) := by decide +kernel
theorem dX10_owner_117 : decode cX10_owner 117 = .ok (.iconst (-1), 1) := by decide +kernel
theorem dX10_owner_118 : decode cX10_owner 118 = .ok (.ireturn, 1) := by decide +kernel
theorem dX10_owner_119 : decode cX10_owner 119 = .ok (.iinc 4 1, 3) := by decide +kernel
theorem dX10_owner_122 : decode cX10_owner 122 = .ok (.goto (-50), 3) := by decide +kernel
theorem dX10_owner_125 : decode cX10_owner 125 = .ok (.iload_n 3, 1) := by decide +kernel
theorem dX10_owner_126 : decode cX10_owner 126 = .ok (.ireturn, 1) := by decide +kernel
def g_X10_owner_72 : Nat → HS → Option Nat → Int32 → Int32 → Int32 → Int32 → Option (Int32 × HS)
  | 0, _, _, _, _, _, _ => none
  | n + 1, σ, l0, l1, l2, l3, l4 =>
    if 8 ≤ l4 then
      some (l3, σ)
    else
      if l4 = l3 then
        g_X10_owner_72 n σ l0 l1 l2 l3 (l4 + 1)
      else
        h_b1 (h_gR σ l0 11 3) fun x4 =>
        h_b1 (h_aI σ x4 102 l4) fun x6 =>
        if x6 = 0 then
          g_X10_owner_72 n σ l0 l1 l2 l3 (l4 + 1)
        else
          h_b1 (h_gR σ l0 11 4) fun x9 =>
          h_b1 (h_aI σ x9 100 l4) fun x11 =>
          h_b1 (h_gR σ l0 11 5) fun x13 =>
          h_b1 (h_aI σ x13 100 l4) fun x15 =>
          h_bd (f_X10_holds σ l1 l2 x11 x15) fun r17 s18 =>
          if r17 = 0 then
            g_X10_owner_72 n s18 l0 l1 l2 l3 (l4 + 1)
          else
            some ((-1), s18)
def g_X10_owner_5 : Nat → HS → Option Nat → Int32 → Int32 → Int32 → Int32 → Option (Int32 × HS)
  | 0, _, _, _, _, _, _ => none
  | n + 1, σ, l0, l1, l2, l3, l4 =>
    if 8 ≤ l4 then
      g_X10_owner_72 h_hN σ l0 l1 l2 l3 0
    else
      h_b1 (h_gR σ l0 11 3) fun x21 =>
      h_b1 (h_aI σ x21 102 l4) fun x23 =>
      if x23 = 0 then
        g_X10_owner_5 n σ l0 l1 l2 l3 (l4 + 1)
      else
        h_b1 (h_gR σ l0 11 4) fun x26 =>
        h_b1 (h_aI σ x26 100 l4) fun x28 =>
        h_b1 (h_gR σ l0 11 5) fun x30 =>
        h_b1 (h_aI σ x30 100 l4) fun x32 =>
        h_bd (f_X10_holds σ x28 x32 l1 l2) fun r34 s35 =>
        if r34 = 0 then
          g_X10_owner_5 n s35 l0 l1 l2 l3 (l4 + 1)
        else
          h_b1 (h_gR s35 l0 11 5) fun x38 =>
          h_b1 (h_aI s35 x38 100 l4) fun x40 =>
          h_b1 (h_gR s35 l0 11 5) fun x42 =>
          h_b1 (h_aI s35 x42 100 l3) fun x44 =>
          if x40 < x44 then
            g_X10_owner_5 n s35 l0 l1 l2 l3 (l4 + 1)
          else
            g_X10_owner_5 n s35 l0 l1 l2 l4 (l4 + 1)
def f_X10_owner (σ : HS) (a0 : Option Nat) (a1 : Int32) (a2 : Int32) : Option (Int32 × HS) :=
  g_X10_owner_5 h_hN σ a0 a1 a2 0 0
set_option maxHeartbeats 4000000 in
set_option maxRecDepth 100000 in
theorem w_X10_owner_72 {p : Program} {l : Launch} {e : Env} {R : Room} {s : State} {m : MethodId} {args : Array Value} {below : List Frame} {meth : Method} {c : Code} {D : va_G} {dA : Nat → ClassId} {bs : Nat} (C : h_C p m c cX10_owner 5 s args RX10 D dA) {σ0 : HS} (B : h_B R s meth σ0 (some .int) 2 45) {σ' : HS} {r : Int32} : ∀ (n : Nat) (σ : HS) (l0 : Option Nat) (l1 : Int32) (l2 : Int32) (l3 : Int32) (l4 : Int32), g_X10_owner_72 n σ l0 l1 l2 l3 l4 = some (r, σ') → V p l e R s m args below meth c D dA bs 5 (MQ below (h_Q D dA bs (some (.int r)) σ0 σ') args s R.cells R.slots (fun q => bs ≤ q)) σ 72 [(0, va_rf l0), (1, .int l1), (2, .int l2), (3, .int l3), (4, .int l4)] [] := by
  intro n
  induction n with
  | zero =>
    intro σ l0 l1 l2 l3 l4 h
    rw [g_X10_owner_72] at h
    cases h
  | succ n ih =>
    intro σ l0 l1 l2 l3 l4 h
    rw [g_X10_owner_72] at h
    refine V_iload C 4 dX10_owner_72 rfl ?_
    refine V_bipush (v := 8) C dX10_owner_74 (by decide) ?_
    refine V_icmp_ge (tgt := 125) C dX10_owner_76 (by decide) (fun c2 => ?_) (fun c2 => ?_)
    · rw [if_pos c2] at h
      refine V_iload_n C 3 dX10_owner_125 rfl rfl ?_
      cases h
      exact V_iret C B dX10_owner_126
    · rw [if_neg c2] at h
      refine V_iload C 4 dX10_owner_79 rfl ?_
      refine V_iload_n C 3 dX10_owner_81 rfl rfl ?_
      refine V_icmp_eq (tgt := 119) C dX10_owner_82 (by decide) (fun c3 => ?_) (fun c3 => ?_)
      · rw [if_pos c3] at h
        refine V_iinc (v := (l4 + 1)) (lv' := [(4, .int (l4 + 1)), (0, va_rf l0), (1, .int l1), (2, .int l2), (3, .int l3)]) C 4 dX10_owner_119 rfl rfl (by decide) rfl ?_
        refine V_goto (tgt := 72) C dX10_owner_122 (by decide) ?_
        exact V_sub [1, 2, 3, 4, 0] rfl (ih σ l0 l1 l2 l3 (l4 + 1) h)
      · rw [if_neg c3] at h
        refine V_aload_n C 0 dX10_owner_85 rfl rfl ?_
        obtain ⟨x4, e5, h⟩ := h_b1_some h
        refine V_getR C fl_RX10_13 dX10_owner_86 e5 ?_
        refine V_iload C 4 dX10_owner_89 rfl ?_
        obtain ⟨x6, e7, h⟩ := h_b1_some h
        refine V_zald C dX10_owner_91 e7 ?_
        refine V_if_eq (tgt := 119) C dX10_owner_92 (by decide) (fun c8 => ?_) (fun c8 => ?_)
        · rw [if_pos c8] at h
          refine V_iinc (v := (l4 + 1)) (lv' := [(4, .int (l4 + 1)), (0, va_rf l0), (1, .int l1), (2, .int l2), (3, .int l3)]) C 4 dX10_owner_119 rfl rfl (by decide) rfl ?_
          refine V_goto (tgt := 72) C dX10_owner_122 (by decide) ?_
          exact V_sub [1, 2, 3, 4, 0] rfl (ih σ l0 l1 l2 l3 (l4 + 1) h)
        · rw [if_neg c8] at h
          refine V_iload_n C 1 dX10_owner_95 rfl rfl ?_
          refine V_iload_n C 2 dX10_owner_96 rfl rfl ?_
          refine V_aload_n C 0 dX10_owner_97 rfl rfl ?_
          obtain ⟨x9, e10, h⟩ := h_b1_some h
          refine V_getR C fl_RX10_17 dX10_owner_98 e10 ?_
          refine V_iload C 4 dX10_owner_101 rfl ?_
          obtain ⟨x11, e12, h⟩ := h_b1_some h
          refine V_iald C dX10_owner_103 e12 ?_
          refine V_aload_n C 0 dX10_owner_104 rfl rfl ?_
          obtain ⟨x13, e14, h⟩ := h_b1_some h
          refine V_getR C fl_RX10_21 dX10_owner_105 e14 ?_
          refine V_iload C 4 dX10_owner_108 rfl ?_
          obtain ⟨x15, e16, h⟩ := h_b1_some h
          refine V_iald C dX10_owner_110 e16 ?_
          obtain ⟨r17, s18, e19, h⟩ := h_bd_some h
          refine V_cS (As := [.int l1, .int l2, .int x11, .int x15]) (rest := []) C ms_RX10_127 (m_X10_holds l D dA bs e19) rfl rfl (Nat.le_trans h_w0 (by decide)) (h_fr B (by decide)) (h_lo B (by decide)) dX10_owner_111 ?_
          refine V_if_eq (tgt := 119) C dX10_owner_114 (by decide) (fun c20 => ?_) (fun c20 => ?_)
          · rw [if_pos c20] at h
            refine V_iinc (v := (l4 + 1)) (lv' := [(4, .int (l4 + 1)), (0, va_rf l0), (1, .int l1), (2, .int l2), (3, .int l3)]) C 4 dX10_owner_119 rfl rfl (by decide) rfl ?_
            refine V_goto (tgt := 72) C dX10_owner_122 (by decide) ?_
            exact V_sub [1, 2, 3, 4, 0] rfl (ih s18 l0 l1 l2 l3 (l4 + 1) h)
          · rw [if_neg c20] at h
            refine V_iconst (v := (-1)) C dX10_owner_117 (by decide) ?_
            cases h
            exact V_iret C B dX10_owner_118
set_option maxHeartbeats 4000000 in
set_option maxRecDepth 100000 in
theorem w_X10_owner_5 {p : Program} {l : Launch} {e : Env} {R : Room} {s : State} {m : MethodId} {args : Array Value} {below : List Frame} {meth : Method} {c : Code} {D : va_G} {dA : Nat → ClassId} {bs : Nat} (C : h_C p m c cX10_owner 5 s args RX10 D dA) {σ0 : HS} (B : h_B R s meth σ0 (some .int) 2 45) {σ' : HS} {r : Int32} : ∀ (n : Nat) (σ : HS) (l0 : Option Nat) (l1 : Int32) (l2 : Int32) (l3 : Int32) (l4 : Int32), g_X10_owner_5 n σ l0 l1 l2 l3 l4 = some (r, σ') → V p l e R s m args below meth c D dA bs 5 (MQ below (h_Q D dA bs (some (.int r)) σ0 σ') args s R.cells R.slots (fun q => bs ≤ q)) σ 5 [(0, va_rf l0), (1, .int l1), (2, .int l2), (3, .int l3), (4, .int l4)] [] := by
  intro n
  induction n with
  | zero =>
    intro σ l0 l1 l2 l3 l4 h
    rw [g_X10_owner_5] at h
    cases h
  | succ n ih =>
    intro σ l0 l1 l2 l3 l4 h
    rw [g_X10_owner_5] at h
    refine V_iload C 4 dX10_owner_5 rfl ?_
    refine V_bipush (v := 8) C dX10_owner_7 (by decide) ?_
    refine V_icmp_ge (tgt := 69) C dX10_owner_9 (by decide) (fun c1 => ?_) (fun c1 => ?_)
    · rw [if_pos c1] at h
      refine V_iconst (v := 0) C dX10_owner_69 (by decide) ?_
      refine V_istore (lv' := [(4, .int 0), (0, va_rf l0), (1, .int l1), (2, .int l2), (3, .int l3)]) C dX10_owner_70 (by decide) rfl ?_
      exact V_sub [1, 2, 3, 4, 0] rfl (w_X10_owner_72 C B h_hN σ l0 l1 l2 l3 0 h)
    · rw [if_neg c1] at h
      refine V_aload_n C 0 dX10_owner_12 rfl rfl ?_
      obtain ⟨x21, e22, h⟩ := h_b1_some h
      refine V_getR C fl_RX10_13 dX10_owner_13 e22 ?_
      refine V_iload C 4 dX10_owner_16 rfl ?_
      obtain ⟨x23, e24, h⟩ := h_b1_some h
      refine V_zald C dX10_owner_18 e24 ?_
      refine V_if_eq (tgt := 63) C dX10_owner_19 (by decide) (fun c25 => ?_) (fun c25 => ?_)
      · rw [if_pos c25] at h
        refine V_iinc (v := (l4 + 1)) (lv' := [(4, .int (l4 + 1)), (0, va_rf l0), (1, .int l1), (2, .int l2), (3, .int l3)]) C 4 dX10_owner_63 rfl rfl (by decide) rfl ?_
        refine V_goto (tgt := 5) C dX10_owner_66 (by decide) ?_
        exact V_sub [1, 2, 3, 4, 0] rfl (ih σ l0 l1 l2 l3 (l4 + 1) h)
      · rw [if_neg c25] at h
        refine V_aload_n C 0 dX10_owner_22 rfl rfl ?_
        obtain ⟨x26, e27, h⟩ := h_b1_some h
        refine V_getR C fl_RX10_17 dX10_owner_23 e27 ?_
        refine V_iload C 4 dX10_owner_26 rfl ?_
        obtain ⟨x28, e29, h⟩ := h_b1_some h
        refine V_iald C dX10_owner_28 e29 ?_
        refine V_aload_n C 0 dX10_owner_29 rfl rfl ?_
        obtain ⟨x30, e31, h⟩ := h_b1_some h
        refine V_getR C fl_RX10_21 dX10_owner_30 e31 ?_
        refine V_iload C 4 dX10_owner_33 rfl ?_
        obtain ⟨x32, e33, h⟩ := h_b1_some h
        refine V_iald C dX10_owner_35 e33 ?_
        refine V_iload_n C 1 dX10_owner_36 rfl rfl ?_
        refine V_iload_n C 2 dX10_owner_37 rfl rfl ?_
        obtain ⟨r34, s35, e36, h⟩ := h_bd_some h
        refine V_cS (As := [.int x28, .int x32, .int l1, .int l2]) (rest := []) C ms_RX10_127 (m_X10_holds l D dA bs e36) rfl rfl (Nat.le_trans h_w0 (by decide)) (h_fr B (by decide)) (h_lo B (by decide)) dX10_owner_38 ?_
        refine V_if_eq (tgt := 63) C dX10_owner_41 (by decide) (fun c37 => ?_) (fun c37 => ?_)
        · rw [if_pos c37] at h
          refine V_iinc (v := (l4 + 1)) (lv' := [(4, .int (l4 + 1)), (0, va_rf l0), (1, .int l1), (2, .int l2), (3, .int l3)]) C 4 dX10_owner_63 rfl rfl (by decide) rfl ?_
          refine V_goto (tgt := 5) C dX10_owner_66 (by decide) ?_
          exact V_sub [1, 2, 3, 4, 0] rfl (ih s35 l0 l1 l2 l3 (l4 + 1) h)
        · rw [if_neg c37] at h
          refine V_aload_n C 0 dX10_owner_44 rfl rfl ?_
          obtain ⟨x38, e39, h⟩ := h_b1_some h
          refine V_getR C fl_RX10_21 dX10_owner_45 e39 ?_
          refine V_iload C 4 dX10_owner_48 rfl ?_
          obtain ⟨x40, e41, h⟩ := h_b1_some h
          refine V_iald C dX10_owner_50 e41 ?_
          refine V_aload_n C 0 dX10_owner_51 rfl rfl ?_
          obtain ⟨x42, e43, h⟩ := h_b1_some h
          refine V_getR C fl_RX10_21 dX10_owner_52 e43 ?_
          refine V_iload_n C 3 dX10_owner_55 rfl rfl ?_
          obtain ⟨x44, e45, h⟩ := h_b1_some h
          refine V_iald C dX10_owner_56 e45 ?_
          refine V_icmp_lt (tgt := 63) C dX10_owner_57 (by decide) (fun c46 => ?_) (fun c46 => ?_)
          · rw [if_pos c46] at h
            refine V_iinc (v := (l4 + 1)) (lv' := [(4, .int (l4 + 1)), (0, va_rf l0), (1, .int l1), (2, .int l2), (3, .int l3)]) C 4 dX10_owner_63 rfl rfl (by decide) rfl ?_
            refine V_goto (tgt := 5) C dX10_owner_66 (by decide) ?_
            exact V_sub [1, 2, 3, 4, 0] rfl (ih s35 l0 l1 l2 l3 (l4 + 1) h)
          · rw [if_neg c46] at h
            refine V_iload C 4 dX10_owner_60 rfl ?_
            refine V_istore_n (lv' := [(3, .int l4), (0, va_rf l0), (1, .int l1), (2, .int l2), (4, .int l4)]) C dX10_owner_62 rfl (by decide) rfl ?_
            refine V_iinc (v := (l4 + 1)) (lv' := [(4, .int (l4 + 1)), (3, .int l4), (0, va_rf l0), (1, .int l1), (2, .int l2)]) C 4 dX10_owner_63 rfl rfl (by decide) rfl ?_
            refine V_goto (tgt := 5) C dX10_owner_66 (by decide) ?_
            exact V_sub [2, 3, 4, 1, 0] rfl (ih s35 l0 l1 l2 l4 (l4 + 1) h)
set_option maxHeartbeats 4000000 in
set_option maxRecDepth 100000 in
theorem m_X10_owner (l : Launch) (D : va_G) (dA : Nat → ClassId) (bs : Nat) {σ σ' : HS} {a0 : Option Nat} {a1 : Int32} {a2 : Int32} {r : Int32} (h : f_X10_owner σ a0 a1 a2 = some (r, σ')) : MetC l yX10_owner cX10_owner 5 (some .int) 2 45 D dA bs [va_rf a0, .int a1, .int a2] (some (.int r)) σ σ' := by
  refine MetC.of (by decide) (h_avR (h_avI (h_avI h_av0))) (Nat.le_of_ble_eq_true rfl) ?_
  intro p e R s m args below meth c C B hnm
  unfold f_X10_owner at h
  refine V_sub (lv' := [(0, va_rf a0), (1, .int a1), (2, .int a2)]) [0, 1, 2] rfl ?_
  refine V_iconst (v := 0) C dX10_owner_0 (by decide) ?_
  refine V_istore_n (lv' := [(3, .int 0), (0, va_rf a0), (1, .int a1), (2, .int a2)]) C dX10_owner_1 rfl (by decide) rfl ?_
  refine V_iconst (v := 0) C dX10_owner_2 (by decide) ?_
  refine V_istore (lv' := [(4, .int 0), (3, .int 0), (0, va_rf a0), (1, .int a1), (2, .int a2)]) C dX10_owner_3 (by decide) rfl ?_
  exact V_sub [2, 3, 4, 1, 0] rfl (w_X10_owner_5 C B h_hN σ a0 a1 a2 0 0 h)
/-! X10_delegate -/
theorem dX10_delegate_0 : decode cX10_delegate 0 = .ok (.aload_n 0, 1) := by decide +kernel
theorem dX10_delegate_1 : decode cX10_delegate 1 = .ok (.aload_n 0, 1) := by decide +kernel
theorem dX10_delegate_2 : decode cX10_delegate 2 = .ok (.iload_n 1, 1) := by decide +kernel
theorem dX10_delegate_3 : decode cX10_delegate 3 = .ok (.invokevirtual 131, 3) := by decide +kernel
theorem dX10_delegate_6 : decode cX10_delegate 6 = .ok (.ifCond .eq 35, 3) := by decide +kernel
theorem dX10_delegate_9 : decode cX10_delegate 9 = .ok (.iload_n 2, 1) := by decide +kernel
theorem dX10_delegate_10 : decode cX10_delegate 10 = .ok (.iconst 0, 1) := by decide +kernel
theorem dX10_delegate_11 : decode cX10_delegate 11 = .ok (.bipush 7, 2) := by decide +kernel
theorem dX10_delegate_13 : decode cX10_delegate 13 = .ok (.invokestatic 120, 3) := by decide +kernel
theorem dX10_delegate_16 : decode cX10_delegate 16 = .ok (.ifCond .eq 25, 3) := by decide +kernel
theorem dX10_delegate_19 : decode cX10_delegate 19 = .ok (.aload_n 0, 1) := by decide +kernel
theorem dX10_delegate_20 : decode cX10_delegate 20 = .ok (.getfield 13, 3) := by decide +kernel
theorem dX10_delegate_23 : decode cX10_delegate 23 = .ok (.iload_n 2, 1) := by decide +kernel
theorem dX10_delegate_24 : decode cX10_delegate 24 = .ok (.baload, 1) := by decide +kernel
theorem dX10_delegate_25 : decode cX10_delegate 25 = .ok (.ifCond .ne 16, 3) := by decide +kernel
theorem dX10_delegate_28 : decode cX10_delegate 28 = .ok (.iload_n 3, 1) := by decide +kernel
theorem dX10_delegate_29 : decode cX10_delegate 29 = .ok (.iload 4, 2) := by decide +kernel
theorem dX10_delegate_31 : decode cX10_delegate 31 = .ok (.invokestatic 135, 3) := by decide +kernel
theorem dX10_delegate_34 : decode cX10_delegate 34 = .ok (.ifCond .eq 7, 3) := by decide +kernel
theorem dX10_delegate_37 : decode cX10_delegate 37 = .ok (.iconst 0, 1) := by decide +kernel
theorem dX10_delegate_38 : decode cX10_delegate 38 = .ok (.goto 4, 3) := by decide +kernel
theorem dX10_delegate_41 : decode cX10_delegate 41 = .ok (.iconst 1, 1) := by decide +kernel
theorem dX10_delegate_42 : decode cX10_delegate 42 = .ok (.putfield 117, 3) := by decide +kernel
theorem dX10_delegate_45 : decode cX10_delegate 45 = .ok (.aload_n 0, 1) := by decide +kernel
theorem dX10_delegate_46 : decode cX10_delegate 46 = .ok (.getfield 117, 3) := by decide +kernel
theorem dX10_delegate_49 : decode cX10_delegate 49 = .ok (.ifCond .ne 30, 3) := by decide +kernel
theorem dX10_delegate_52 : decode cX10_delegate 52 = .ok (.aload_n 0, 1) := by decide +kernel
theorem dX10_delegate_53 : decode cX10_delegate 53 = .ok (.iload_n 3, 1) := by decide +kernel
theorem dX10_delegate_54 : decode cX10_delegate 54 = .ok (.iload 4, 2) := by decide +kernel
theorem dX10_delegate_56 : decode cX10_delegate 56 = .ok (.invokevirtual 139, 3) := by decide +kernel
theorem dX10_delegate_59 : decode cX10_delegate 59 = .ok (.iload_n 1, 1) := by decide +kernel
theorem dX10_delegate_60 : decode cX10_delegate 60 = .ok (.if_icmp .ne 14, 3) := by decide +kernel
theorem dX10_delegate_63 : decode cX10_delegate 63 = .ok (.aload_n 0, 1) := by decide +kernel
theorem dX10_delegate_64 : decode cX10_delegate 64 = .ok (.getfield 21, 3) := by decide +kernel
theorem dX10_delegate_67 : decode cX10_delegate 67 = .ok (.iload_n 1, 1) := by decide +kernel
theorem dX10_delegate_68 : decode cX10_delegate 68 = .ok (.iaload, 1) := by decide +kernel
theorem dX10_delegate_69 : decode cX10_delegate 69 = .ok (.iload 4, 2) := by decide +kernel
theorem dX10_delegate_71 : decode cX10_delegate 71 = .ok (.if_icmp .ne 8, 3) := by decide +kernel
theorem dX10_delegate_74 : decode cX10_delegate 74 = .ok (.aload_n 0, 1) := by decide +kernel
theorem dX10_delegate_75 : decode cX10_delegate 75 = .ok (.iconst 1, 1) := by decide +kernel
theorem dX10_delegate_76 : decode cX10_delegate 76 = .ok (.putfield 117, 3) := by decide +kernel
theorem dX10_delegate_79 : decode cX10_delegate 79 = .ok (.aload_n 0, 1) := by decide +kernel
theorem dX10_delegate_80 : decode cX10_delegate 80 = .ok (.getfield 117, 3) := by decide +kernel
theorem dX10_delegate_83 : decode cX10_delegate 83 = .ok (.ifCond .le 4, 3) := by decide +kernel
theorem dX10_delegate_86 : decode cX10_delegate 86 = .ok (.return_, 1) := by decide +kernel
theorem dX10_delegate_87 : decode cX10_delegate 87 = .ok (.aload_n 0, 1) := by decide +kernel
theorem dX10_delegate_88 : decode cX10_delegate 88 = .ok (.getfield 13, 3) := by decide +kernel
theorem dX10_delegate_91 : decode cX10_delegate 91 = .ok (.iload_n 2, 1) := by decide +kernel
theorem dX10_delegate_92 : decode cX10_delegate 92 = .ok (.iconst 1, 1) := by decide +kernel
theorem dX10_delegate_93 : decode cX10_delegate 93 = .ok (.bastore, 1) := by decide +kernel
theorem dX10_delegate_94 : decode cX10_delegate 94 = .ok (.aload_n 0, 1) := by decide +kernel
theorem dX10_delegate_95 : decode cX10_delegate 95 = .ok (.getfield 17, 3) := by decide +kernel
theorem dX10_delegate_98 : decode cX10_delegate 98 = .ok (.iload_n 2, 1) := by decide +kernel
theorem dX10_delegate_99 : decode cX10_delegate 99 = .ok (.iload_n 3, 1) := by decide +kernel
theorem dX10_delegate_100 : decode cX10_delegate 100 = .ok (.iastore, 1) := by decide +kernel
theorem dX10_delegate_101 : decode cX10_delegate 101 = .ok (.aload_n 0, 1) := by decide +kernel
theorem dX10_delegate_102 : decode cX10_delegate 102 = .ok (.getfield 21, 3) := by decide +kernel
theorem dX10_delegate_105 : decode cX10_delegate 105 = .ok (.iload_n 2, 1) := by decide +kernel
theorem dX10_delegate_106 : decode cX10_delegate 106 = .ok (.iload 4, 2) := by decide +kernel
theorem dX10_delegate_108 : decode cX10_delegate 108 = .ok (.iastore, 1) := by decide +kernel
theorem dX10_delegate_109 : decode cX10_delegate 109 = .ok (.aload_n 0, 1) := by decide +kernel
theorem dX10_delegate_110 : decode cX10_delegate 110 = .ok (.getfield 24, 3) := by decide +kernel
theorem dX10_delegate_113 : decode cX10_delegate 113 = .ok (.iload_n 2, 1) := by decide +kernel
theorem dX10_delegate_114 : decode cX10_delegate 114 = .ok (.iload_n 1, 1) := by decide +kernel
theorem dX10_delegate_115 : decode cX10_delegate 115 = .ok (.iastore, 1) := by decide +kernel
theorem dX10_delegate_116 : decode cX10_delegate 116 = .ok (.return_, 1) := by decide +kernel
def j_X10_delegate_79 (σ : HS) (l0 : Option Nat) (l1 : Int32) (l2 : Int32) (l3 : Int32) (l4 : Int32) : Option (Unit × HS) :=
  h_b1 (h_gI σ l0 11 0) fun x12 =>
  if x12 ≤ 0 then
    h_b1 (h_gR σ l0 11 3) fun x15 =>
    h_b1 (h_sI σ x15 102 l2 1) fun s17 =>
    h_b1 (h_gR s17 l0 11 4) fun x19 =>
    h_b1 (h_sI s17 x19 100 l2 l3) fun s21 =>
    h_b1 (h_gR s21 l0 11 5) fun x23 =>
    h_b1 (h_sI s21 x23 100 l2 l4) fun s25 =>
    h_b1 (h_gR s25 l0 11 6) fun x27 =>
    h_b1 (h_sI s25 x27 100 l2 l1) fun s29 =>
    some ((), s29)
  else
    some ((), σ)
def j_X10_delegate_74 (σ : HS) (l0 : Option Nat) (l1 : Int32) (l2 : Int32) (l3 : Int32) (l4 : Int32) : Option (Unit × HS) :=
  h_b1 (h_pI σ l0 11 0 1) fun s37 =>
  j_X10_delegate_79 s37 l0 l1 l2 l3 l4 
def j_X10_delegate_42 (σ : HS) (l0 : Option Nat) (l1 : Int32) (l2 : Int32) (l3 : Int32) (l4 : Int32) (t0 : Int32) (t1 : Option Nat) : Option (Unit × HS) :=
  h_b1 (h_pI σ t1 11 0 t0) fun s7 =>
  h_b1 (h_gI s7 l0 11 0) fun x9 =>
  if x9 = 0 then
    h_b1 (h_rcv s7 l0 11) fun y34 =>
    h_bd (f_X10_owner s7 l0 l3 l4) fun r31 s32 =>
    if r31 = l1 then
      h_b1 (h_gR s32 l0 11 5) fun x39 =>
      h_b1 (h_aI s32 x39 100 l1) fun x41 =>
      if x41 = l4 then
        j_X10_delegate_74 s32 l0 l1 l2 l3 l4 
      else
        j_X10_delegate_79 s32 l0 l1 l2 l3 l4 
    else
      j_X10_delegate_74 s32 l0 l1 l2 l3 l4 
  else
    j_X10_delegate_79 s7 l0 l1 l2 l3 l4 
def j_X10_delegate_41 (σ : HS) (l0 : Option Nat) (l1 : Int32) (l2 : Int32) (l3 : Int32) (l4 : Int32) (t0 : Option Nat) : Option (Unit × HS) :=
  j_X10_delegate_42 σ l0 l1 l2 l3 l4 1 t0
def f_X10_delegate (σ : HS) (a0 : Option Nat) (a1 : Int32) (a2 : Int32) (a3 : Int32) (a4 : Int32) : Option (Unit × HS) :=
  h_b1 (h_rcv σ a0 11) fun y4 =>
  h_bd (f_X10_isServerAt σ a0 a1) fun r1 s2 =>
  if r1 = 0 then
    j_X10_delegate_41 s2 a0 a1 a2 a3 a4 a0
  else
    h_bd (f_X10_in s2 a2 0 7) fun r44 s45 =>
    if r44 = 0 then
      j_X10_delegate_41 s45 a0 a1 a2 a3 a4 a0
    else
      h_b1 (h_gR s45 a0 11 3) fun x48 =>
      h_b1 (h_aI s45 x48 102 a2) fun x50 =>
      if x50 = 0 then
        h_bd (f_X10_isPrefix s45 a3 a4) fun r53 s54 =>
        if r53 = 0 then
          j_X10_delegate_41 s54 a0 a1 a2 a3 a4 a0
        else
          j_X10_delegate_42 s54 a0 a1 a2 a3 a4 0 a0
      else
        j_X10_delegate_41 s45 a0 a1 a2 a3 a4 a0
set_option maxHeartbeats 4000000 in
set_option maxRecDepth 100000 in
theorem jw_X10_delegate_79 {p : Program} {l : Launch} {e : Env} {R : Room} {s : State} {m : MethodId} {args : Array Value} {below : List Frame} {meth : Method} {c : Code} {D : va_G} {dA : Nat → ClassId} {bs : Nat} (C : h_C p m c cX10_delegate 5 s args RX10 D dA) {σ0 : HS} (B : h_B R s meth σ0 none 3 69) {σ' : HS} : ∀ (σ : HS) (l0 : Option Nat) (l1 : Int32) (l2 : Int32) (l3 : Int32) (l4 : Int32), j_X10_delegate_79 σ l0 l1 l2 l3 l4 = some ((), σ') → V p l e R s m args below meth c D dA bs 5 (MQ below (h_Q D dA bs none σ0 σ') args s R.cells R.slots (fun q => bs ≤ q)) σ 79 [(0, va_rf l0), (1, .int l1), (2, .int l2), (3, .int l3), (4, .int l4)] [] := by
  intro σ l0 l1 l2 l3 l4 h
  unfold j_X10_delegate_79 at h
  refine V_aload_n C 0 dX10_delegate_79 rfl rfl ?_
  obtain ⟨x12, e13, h⟩ := h_b1_some h
  refine V_getI C fl_RX10_117 dX10_delegate_80 e13 ?_
  refine V_if_le (tgt := 87) C dX10_delegate_83 (by decide) (fun c14 => ?_) (fun c14 => ?_)
  · rw [if_pos c14] at h
    refine V_aload_n C 0 dX10_delegate_87 rfl rfl ?_
    obtain ⟨x15, e16, h⟩ := h_b1_some h
    refine V_getR C fl_RX10_13 dX10_delegate_88 e16 ?_
    refine V_iload_n C 2 dX10_delegate_91 rfl rfl ?_
    refine V_iconst (v := 1) C dX10_delegate_92 (by decide) ?_
    obtain ⟨s17, e18, h⟩ := h_b1_some h
    refine V_zast C dX10_delegate_93 (Or.inr rfl) e18 ?_
    refine V_aload_n C 0 dX10_delegate_94 rfl rfl ?_
    obtain ⟨x19, e20, h⟩ := h_b1_some h
    refine V_getR C fl_RX10_17 dX10_delegate_95 e20 ?_
    refine V_iload_n C 2 dX10_delegate_98 rfl rfl ?_
    refine V_iload_n C 3 dX10_delegate_99 rfl rfl ?_
    obtain ⟨s21, e22, h⟩ := h_b1_some h
    refine V_iast C dX10_delegate_100 e22 ?_
    refine V_aload_n C 0 dX10_delegate_101 rfl rfl ?_
    obtain ⟨x23, e24, h⟩ := h_b1_some h
    refine V_getR C fl_RX10_21 dX10_delegate_102 e24 ?_
    refine V_iload_n C 2 dX10_delegate_105 rfl rfl ?_
    refine V_iload C 4 dX10_delegate_106 rfl ?_
    obtain ⟨s25, e26, h⟩ := h_b1_some h
    refine V_iast C dX10_delegate_108 e26 ?_
    refine V_aload_n C 0 dX10_delegate_109 rfl rfl ?_
    obtain ⟨x27, e28, h⟩ := h_b1_some h
    refine V_getR C fl_RX10_24 dX10_delegate_110 e28 ?_
    refine V_iload_n C 2 dX10_delegate_113 rfl rfl ?_
    refine V_iload_n C 1 dX10_delegate_114 rfl rfl ?_
    obtain ⟨s29, e30, h⟩ := h_b1_some h
    refine V_iast C dX10_delegate_115 e30 ?_
    cases h
    exact V_vret C B dX10_delegate_116
  · rw [if_neg c14] at h
    cases h
    exact V_vret C B dX10_delegate_86
set_option maxHeartbeats 4000000 in
set_option maxRecDepth 100000 in
theorem jw_X10_delegate_74 {p : Program} {l : Launch} {e : Env} {R : Room} {s : State} {m : MethodId} {args : Array Value} {below : List Frame} {meth : Method} {c : Code} {D : va_G} {dA : Nat → ClassId} {bs : Nat} (C : h_C p m c cX10_delegate 5 s args RX10 D dA) {σ0 : HS} (B : h_B R s meth σ0 none 3 69) {σ' : HS} : ∀ (σ : HS) (l0 : Option Nat) (l1 : Int32) (l2 : Int32) (l3 : Int32) (l4 : Int32), j_X10_delegate_74 σ l0 l1 l2 l3 l4 = some ((), σ') → V p l e R s m args below meth c D dA bs 5 (MQ below (h_Q D dA bs none σ0 σ') args s R.cells R.slots (fun q => bs ≤ q)) σ 74 [(0, va_rf l0), (1, .int l1), (2, .int l2), (3, .int l3), (4, .int l4)] [] := by
  intro σ l0 l1 l2 l3 l4 h
  unfold j_X10_delegate_74 at h
  refine V_aload_n C 0 dX10_delegate_74 rfl rfl ?_
  refine V_iconst (v := 1) C dX10_delegate_75 (by decide) ?_
  obtain ⟨s37, e38, h⟩ := h_b1_some h
  refine V_putI C fw_RX10_117 dX10_delegate_76 e38 ?_
  exact V_sub [0, 1, 2, 3, 4] rfl (jw_X10_delegate_79 C B s37 l0 l1 l2 l3 l4  h)
set_option maxHeartbeats 4000000 in
set_option maxRecDepth 100000 in
theorem jw_X10_delegate_42 {p : Program} {l : Launch} {e : Env} {R : Room} {s : State} {m : MethodId} {args : Array Value} {below : List Frame} {meth : Method} {c : Code} {D : va_G} {dA : Nat → ClassId} {bs : Nat} (C : h_C p m c cX10_delegate 5 s args RX10 D dA) {σ0 : HS} (B : h_B R s meth σ0 none 3 69) {σ' : HS} : ∀ (σ : HS) (l0 : Option Nat) (l1 : Int32) (l2 : Int32) (l3 : Int32) (l4 : Int32) (t0 : Int32) (t1 : Option Nat), j_X10_delegate_42 σ l0 l1 l2 l3 l4 t0 t1 = some ((), σ') → V p l e R s m args below meth c D dA bs 5 (MQ below (h_Q D dA bs none σ0 σ') args s R.cells R.slots (fun q => bs ≤ q)) σ 42 [(0, va_rf l0), (1, .int l1), (2, .int l2), (3, .int l3), (4, .int l4)] [.int t0, va_rf t1] := by
  intro σ l0 l1 l2 l3 l4 t0 t1 h
  unfold j_X10_delegate_42 at h
  obtain ⟨s7, e8, h⟩ := h_b1_some h
  refine V_putI C fw_RX10_117 dX10_delegate_42 e8 ?_
  refine V_aload_n C 0 dX10_delegate_45 rfl rfl ?_
  obtain ⟨x9, e10, h⟩ := h_b1_some h
  refine V_getI C fl_RX10_117 dX10_delegate_46 e10 ?_
  refine V_if_ne (tgt := 79) C dX10_delegate_49 (by decide) (fun c11 => ?_) (fun c11 => ?_)
  · rw [if_neg c11] at h
    exact V_sub [0, 1, 2, 3, 4] rfl (jw_X10_delegate_79 C B s7 l0 l1 l2 l3 l4  h)
  · rw [if_pos c11] at h
    refine V_aload_n C 0 dX10_delegate_52 rfl rfl ?_
    refine V_iload_n C 3 dX10_delegate_53 rfl rfl ?_
    refine V_iload C 4 dX10_delegate_54 rfl ?_
    obtain ⟨y34, e35, h⟩ := h_b1_some h
    obtain ⟨r31, s32, e33, h⟩ := h_bd_some h
    refine V_cV (As := [.int l3, .int l4]) (rest := []) C mv_RX10_139 (m_X10_owner l D dA bs e33) e35 rfl rfl (Nat.le_trans h_w0 (by decide)) (h_fr B (by decide)) (h_lo B (by decide)) dX10_delegate_56 ?_
    refine V_iload_n C 1 dX10_delegate_59 rfl rfl ?_
    refine V_icmp_ne (tgt := 74) C dX10_delegate_60 (by decide) (fun c36 => ?_) (fun c36 => ?_)
    · rw [if_neg c36] at h
      exact V_sub [0, 1, 2, 3, 4] rfl (jw_X10_delegate_74 C B s32 l0 l1 l2 l3 l4  h)
    · rw [if_pos c36] at h
      refine V_aload_n C 0 dX10_delegate_63 rfl rfl ?_
      obtain ⟨x39, e40, h⟩ := h_b1_some h
      refine V_getR C fl_RX10_21 dX10_delegate_64 e40 ?_
      refine V_iload_n C 1 dX10_delegate_67 rfl rfl ?_
      obtain ⟨x41, e42, h⟩ := h_b1_some h
      refine V_iald C dX10_delegate_68 e42 ?_
      refine V_iload C 4 dX10_delegate_69 rfl ?_
      refine V_icmp_ne (tgt := 79) C dX10_delegate_71 (by decide) (fun c43 => ?_) (fun c43 => ?_)
      · rw [if_neg c43] at h
        exact V_sub [0, 1, 2, 3, 4] rfl (jw_X10_delegate_79 C B s32 l0 l1 l2 l3 l4  h)
      · rw [if_pos c43] at h
        exact V_sub [0, 1, 2, 3, 4] rfl (jw_X10_delegate_74 C B s32 l0 l1 l2 l3 l4  h)
set_option maxHeartbeats 4000000 in
set_option maxRecDepth 100000 in
theorem jw_X10_delegate_41 {p : Program} {l : Launch} {e : Env} {R : Room} {s : State} {m : MethodId} {args : Array Value} {below : List Frame} {meth : Method} {c : Code} {D : va_G} {dA : Nat → ClassId} {bs : Nat} (C : h_C p m c cX10_delegate 5 s args RX10 D dA) {σ0 : HS} (B : h_B R s meth σ0 none 3 69) {σ' : HS} : ∀ (σ : HS) (l0 : Option Nat) (l1 : Int32) (l2 : Int32) (l3 : Int32) (l4 : Int32) (t0 : Option Nat), j_X10_delegate_41 σ l0 l1 l2 l3 l4 t0 = some ((), σ') → V p l e R s m args below meth c D dA bs 5 (MQ below (h_Q D dA bs none σ0 σ') args s R.cells R.slots (fun q => bs ≤ q)) σ 41 [(0, va_rf l0), (1, .int l1), (2, .int l2), (3, .int l3), (4, .int l4)] [va_rf t0] := by
  intro σ l0 l1 l2 l3 l4 t0 h
  unfold j_X10_delegate_41 at h
  refine V_iconst (v := 1) C dX10_delegate_41 (by decide) ?_
  exact V_sub [0, 1, 2, 3, 4] rfl (jw_X10_delegate_42 C B σ l0 l1 l2 l3 l4 1 t0 h)
set_option maxHeartbeats 4000000 in
set_option maxRecDepth 100000 in
theorem m_X10_delegate (l : Launch) (D : va_G) (dA : Nat → ClassId) (bs : Nat) {σ σ' : HS} {a0 : Option Nat} {a1 : Int32} {a2 : Int32} {a3 : Int32} {a4 : Int32} (h : f_X10_delegate σ a0 a1 a2 a3 a4 = some ((), σ')) : MetC l yX10_delegate cX10_delegate 5 none 3 69 D dA bs [va_rf a0, .int a1, .int a2, .int a3, .int a4] none σ σ' := by
  refine MetC.of (by decide) (h_avR (h_avI (h_avI (h_avI (h_avI h_av0))))) (Nat.le_of_ble_eq_true rfl) ?_
  intro p e R s m args below meth c C B hnm
  unfold f_X10_delegate at h
  refine V_sub (lv' := [(0, va_rf a0), (1, .int a1), (2, .int a2), (3, .int a3), (4, .int a4)]) [0, 1, 2, 3, 4] rfl ?_
  refine V_aload_n C 0 dX10_delegate_0 rfl rfl ?_
  refine V_aload_n C 0 dX10_delegate_1 rfl rfl ?_
  refine V_iload_n C 1 dX10_delegate_2 rfl rfl ?_
  obtain ⟨y4, e5, h⟩ := h_b1_some h
  obtain ⟨r1, s2, e3, h⟩ := h_bd_some h
  refine V_cV (As := [.int a1]) (rest := [va_rf a0]) C mv_RX10_131 (m_X10_isServerAt l D dA bs e3) e5 rfl rfl (Nat.le_trans (h_wR h_w0) (by decide)) (h_fr B (by decide)) (h_lo B (by decide)) dX10_delegate_3 ?_
  refine V_if_eq (tgt := 41) C dX10_delegate_6 (by decide) (fun c6 => ?_) (fun c6 => ?_)
  · rw [if_pos c6] at h
    exact V_sub [0, 1, 2, 3, 4] rfl (jw_X10_delegate_41 C B s2 a0 a1 a2 a3 a4 a0 h)
  · rw [if_neg c6] at h
    refine V_iload_n C 2 dX10_delegate_9 rfl rfl ?_
    refine V_iconst (v := 0) C dX10_delegate_10 (by decide) ?_
    refine V_bipush (v := 7) C dX10_delegate_11 (by decide) ?_
    obtain ⟨r44, s45, e46, h⟩ := h_bd_some h
    refine V_cS (As := [.int a2, .int 0, .int 7]) (rest := [va_rf a0]) C ms_RX10_120 (m_X10_in l D dA bs e46) rfl rfl (Nat.le_trans (h_wR h_w0) (by decide)) (h_fr B (by decide)) (h_lo B (by decide)) dX10_delegate_13 ?_
    refine V_if_eq (tgt := 41) C dX10_delegate_16 (by decide) (fun c47 => ?_) (fun c47 => ?_)
    · rw [if_pos c47] at h
      exact V_sub [0, 1, 2, 3, 4] rfl (jw_X10_delegate_41 C B s45 a0 a1 a2 a3 a4 a0 h)
    · rw [if_neg c47] at h
      refine V_aload_n C 0 dX10_delegate_19 rfl rfl ?_
      obtain ⟨x48, e49, h⟩ := h_b1_some h
      refine V_getR C fl_RX10_13 dX10_delegate_20 e49 ?_
      refine V_iload_n C 2 dX10_delegate_23 rfl rfl ?_
      obtain ⟨x50, e51, h⟩ := h_b1_some h
      refine V_zald C dX10_delegate_24 e51 ?_
      refine V_if_ne (tgt := 41) C dX10_delegate_25 (by decide) (fun c52 => ?_) (fun c52 => ?_)
      · rw [if_neg c52] at h
        exact V_sub [0, 1, 2, 3, 4] rfl (jw_X10_delegate_41 C B s45 a0 a1 a2 a3 a4 a0 h)
      · rw [if_pos c52] at h
        refine V_iload_n C 3 dX10_delegate_28 rfl rfl ?_
        refine V_iload C 4 dX10_delegate_29 rfl ?_
        obtain ⟨r53, s54, e55, h⟩ := h_bd_some h
        refine V_cS (As := [.int a3, .int a4]) (rest := [va_rf a0]) C ms_RX10_135 (m_X10_isPrefix l D dA bs e55) rfl rfl (Nat.le_trans (h_wR h_w0) (by decide)) (h_fr B (by decide)) (h_lo B (by decide)) dX10_delegate_31 ?_
        refine V_if_eq (tgt := 41) C dX10_delegate_34 (by decide) (fun c56 => ?_) (fun c56 => ?_)
        · rw [if_pos c56] at h
          exact V_sub [0, 1, 2, 3, 4] rfl (jw_X10_delegate_41 C B s54 a0 a1 a2 a3 a4 a0 h)
        · rw [if_neg c56] at h
          refine V_iconst (v := 0) C dX10_delegate_37 (by decide) ?_
          refine V_goto (tgt := 42) C dX10_delegate_38 (by decide) ?_
          exact V_sub [0, 1, 2, 3, 4] rfl (jw_X10_delegate_42 C B s54 a0 a1 a2 a3 a4 0 a0 h)
/-! X10_siteAt -/
theorem dX10_siteAt_0 : decode cX10_siteAt 0 = .ok (.iconst 0, 1) := by decide +kernel
theorem dX10_siteAt_1 : decode cX10_siteAt 1 = .ok (.istore_n 2, 1) := by decide +kernel
theorem dX10_siteAt_2 : decode cX10_siteAt 2 = .ok (.iload_n 2, 1) := by decide +kernel
theorem dX10_siteAt_3 : decode cX10_siteAt 3 = .ok (.bipush 8, 2) := by decide +kernel
theorem dX10_siteAt_5 : decode cX10_siteAt 5 = .ok (.if_icmp .ge 21, 3) := by decide +kernel
theorem dX10_siteAt_8 : decode cX10_siteAt 8 = .ok (.aload_n 0, 1) := by decide +kernel
theorem dX10_siteAt_9 : decode cX10_siteAt 9 = .ok (.getfield 49, 3) := by decide +kernel
theorem dX10_siteAt_12 : decode cX10_siteAt 12 = .ok (.iload_n 2, 1) := by decide +kernel
theorem dX10_siteAt_13 : decode cX10_siteAt 13 = .ok (.iaload, 1) := by decide +kernel
theorem dX10_siteAt_14 : decode cX10_siteAt 14 = .ok (.iload_n 1, 1) := by decide +kernel
theorem dX10_siteAt_15 : decode cX10_siteAt 15 = .ok (.if_icmp .ne 5, 3) := by decide +kernel
theorem dX10_siteAt_18 : decode cX10_siteAt 18 = .ok (.iload_n 2, 1) := by decide +kernel
theorem dX10_siteAt_19 : decode cX10_siteAt 19 = .ok (.ireturn, 1) := by decide +kernel
theorem dX10_siteAt_20 : decode cX10_siteAt 20 = .ok (.iinc 2 1, 3) := by decide +kernel
theorem dX10_siteAt_23 : decode cX10_siteAt 23 = .ok (.goto (-21), 3) := by decide +kernel
theorem dX10_siteAt_26 : decode cX10_siteAt 26 = .ok (.iconst (-1), 1) := by decide +kernel
theorem dX10_siteAt_27 : decode cX10_siteAt 27 = .ok (.ireturn, 1) := by decide +kernel
def g_X10_siteAt_2 : Nat → HS → Option Nat → Int32 → Int32 → Option (Int32 × HS)
  | 0, _, _, _, _ => none
  | n + 1, σ, l0, l1, l2 =>
    if 8 ≤ l2 then
      some ((-1), σ)
    else
      h_b1 (h_gR σ l0 11 14) fun x2 =>
      h_b1 (h_aI σ x2 100 l2) fun x4 =>
      if x4 = l1 then
        some (l2, σ)
      else
        g_X10_siteAt_2 n σ l0 l1 (l2 + 1)
def f_X10_siteAt (σ : HS) (a0 : Option Nat) (a1 : Int32) : Option (Int32 × HS) :=
  g_X10_siteAt_2 h_hN σ a0 a1 0
set_option maxHeartbeats 4000000 in
set_option maxRecDepth 100000 in
theorem w_X10_siteAt_2 {p : Program} {l : Launch} {e : Env} {R : Room} {s : State} {m : MethodId} {args : Array Value} {below : List Frame} {meth : Method} {c : Code} {D : va_G} {dA : Nat → ClassId} {bs : Nat} (C : h_C p m c cX10_siteAt 3 s args RX10 D dA) {σ0 : HS} (B : h_B R s meth σ0 (some .int) 0 0) {σ' : HS} {r : Int32} : ∀ (n : Nat) (σ : HS) (l0 : Option Nat) (l1 : Int32) (l2 : Int32), g_X10_siteAt_2 n σ l0 l1 l2 = some (r, σ') → V p l e R s m args below meth c D dA bs 3 (MQ below (h_Q D dA bs (some (.int r)) σ0 σ') args s R.cells R.slots (fun q => bs ≤ q)) σ 2 [(0, va_rf l0), (1, .int l1), (2, .int l2)] [] := by
  intro n
  induction n with
  | zero =>
    intro σ l0 l1 l2 h
    rw [g_X10_siteAt_2] at h
    cases h
  | succ n ih =>
    intro σ l0 l1 l2 h
    rw [g_X10_siteAt_2] at h
    refine V_iload_n C 2 dX10_siteAt_2 rfl rfl ?_
    refine V_bipush (v := 8) C dX10_siteAt_3 (by decide) ?_
    refine V_icmp_ge (tgt := 26) C dX10_siteAt_5 (by decide) (fun c1 => ?_) (fun c1 => ?_)
    · rw [if_pos c1] at h
      refine V_iconst (v := (-1)) C dX10_siteAt_26 (by decide) ?_
      cases h
      exact V_iret C B dX10_siteAt_27
    · rw [if_neg c1] at h
      refine V_aload_n C 0 dX10_siteAt_8 rfl rfl ?_
      obtain ⟨x2, e3, h⟩ := h_b1_some h
      refine V_getR C fl_RX10_49 dX10_siteAt_9 e3 ?_
      refine V_iload_n C 2 dX10_siteAt_12 rfl rfl ?_
      obtain ⟨x4, e5, h⟩ := h_b1_some h
      refine V_iald C dX10_siteAt_13 e5 ?_
      refine V_iload_n C 1 dX10_siteAt_14 rfl rfl ?_
      refine V_icmp_ne (tgt := 20) C dX10_siteAt_15 (by decide) (fun c6 => ?_) (fun c6 => ?_)
      · rw [if_neg c6] at h
        refine V_iinc (v := (l2 + 1)) (lv' := [(2, .int (l2 + 1)), (0, va_rf l0), (1, .int l1)]) C 2 dX10_siteAt_20 rfl rfl (by decide) rfl ?_
        refine V_goto (tgt := 2) C dX10_siteAt_23 (by decide) ?_
        exact V_sub [1, 2, 0] rfl (ih σ l0 l1 (l2 + 1) h)
      · rw [if_pos c6] at h
        refine V_iload_n C 2 dX10_siteAt_18 rfl rfl ?_
        cases h
        exact V_iret C B dX10_siteAt_19
set_option maxHeartbeats 4000000 in
set_option maxRecDepth 100000 in
theorem m_X10_siteAt (l : Launch) (D : va_G) (dA : Nat → ClassId) (bs : Nat) {σ σ' : HS} {a0 : Option Nat} {a1 : Int32} {r : Int32} (h : f_X10_siteAt σ a0 a1 = some (r, σ')) : MetC l yX10_siteAt cX10_siteAt 3 (some .int) 0 0 D dA bs [va_rf a0, .int a1] (some (.int r)) σ σ' := by
  refine MetC.of (by decide) (h_avR (h_avI h_av0)) (Nat.le_of_ble_eq_true rfl) ?_
  intro p e R s m args below meth c C B hnm
  unfold f_X10_siteAt at h
  refine V_sub (lv' := [(0, va_rf a0), (1, .int a1)]) [0, 1] rfl ?_
  refine V_iconst (v := 0) C dX10_siteAt_0 (by decide) ?_
  refine V_istore_n (lv' := [(2, .int 0), (0, va_rf a0), (1, .int a1)]) C dX10_siteAt_1 rfl (by decide) rfl ?_
  exact V_sub [1, 2, 0] rfl (w_X10_siteAt_2 C B h_hN σ a0 a1 0 h)
/-! X10_site -/
theorem dX10_site_0 : decode cX10_site 0 = .ok (.aload_n 0, 1) := by decide +kernel
theorem dX10_site_1 : decode cX10_site 1 = .ok (.iload_n 1, 1) := by decide +kernel
theorem dX10_site_2 : decode cX10_site 2 = .ok (.iconst 0, 1) := by decide +kernel
theorem dX10_site_3 : decode cX10_site 3 = .ok (.bipush 7, 2) := by decide +kernel
theorem dX10_site_5 : decode cX10_site 5 = .ok (.invokestatic 120, 3) := by decide +kernel
theorem dX10_site_8 : decode cX10_site 8 = .ok (.ifCond .eq 36, 3) := by decide +kernel
theorem dX10_site_11 : decode cX10_site 11 = .ok (.aload_n 0, 1) := by decide +kernel
theorem dX10_site_12 : decode cX10_site 12 = .ok (.getfield 49, 3) := by decide +kernel
theorem dX10_site_15 : decode cX10_site 15 = .ok (.iload_n 1, 1) := by decide +kernel
theorem dX10_site_16 : decode cX10_site 16 = .ok (.iaload, 1) := by decide +kernel
theorem dX10_site_17 : decode cX10_site 17 = .ok (.iconst (-1), 1) := by decide +kernel
theorem dX10_site_18 : decode cX10_site 18 = .ok (.if_icmp .ne 26, 3) := by decide +kernel
theorem dX10_site_21 : decode cX10_site 21 = .ok (.iload_n 2, 1) := by decide +kernel
theorem dX10_site_22 : decode cX10_site 22 = .ok (.iconst 0, 1) := by decide +kernel
theorem dX10_site_23 : decode cX10_site 23 = .ok (.bipush 15, 2) := by decide +kernel
theorem dX10_site_25 : decode cX10_site 25 = .ok (.invokestatic 120, 3) := by decide +kernel
theorem dX10_site_28 : decode cX10_site 28 = .ok (.ifCond .eq 16, 3) := by decide +kernel
theorem dX10_site_31 : decode cX10_site 31 = .ok (.aload_n 0, 1) := by decide +kernel
theorem dX10_site_32 : decode cX10_site 32 = .ok (.iload_n 2, 1) := by decide +kernel
theorem dX10_site_33 : decode cX10_site 33 = .ok (.invokevirtual 143, 3) := by decide +kernel
theorem dX10_site_36 : decode cX10_site 36 = .ok (.iconst (-1), 1) := by decide +kernel
theorem dX10_site_37 : decode cX10_site 37 = .ok (.if_icmp .ne 7, 3) := by decide +kernel
theorem dX10_site_40 : decode cX10_site 40 = .ok (.iconst 0, 1) := by decide +kernel
theorem dX10_site_41 : decode cX10_site 41 = .ok (.goto 4, 3) := by decide +kernel
theorem dX10_site_44 : decode cX10_site 44 = .ok (.iconst 1, 1) := by decide +kernel
theorem dX10_site_45 : decode cX10_site 45 = .ok (.putfield 117, 3) := by decide +kernel
theorem dX10_site_48 : decode cX10_site 48 = .ok (.aload_n 0, 1) := by decide +kernel
theorem dX10_site_49 : decode cX10_site 49 = .ok (.getfield 117, 3) := by decide +kernel
theorem dX10_site_52 : decode cX10_site 52 = .ok (.ifCond .ne 10, 3) := by decide +kernel
theorem dX10_site_55 : decode cX10_site 55 = .ok (.aload_n 0, 1) := by decide +kernel
theorem dX10_site_56 : decode cX10_site 56 = .ok (.getfield 49, 3) := by decide +kernel
theorem dX10_site_59 : decode cX10_site 59 = .ok (.iload_n 1, 1) := by decide +kernel
theorem dX10_site_60 : decode cX10_site 60 = .ok (.iload_n 2, 1) := by decide +kernel
theorem dX10_site_61 : decode cX10_site 61 = .ok (.iastore, 1) := by decide +kernel
theorem dX10_site_62 : decode cX10_site 62 = .ok (.return_, 1) := by decide +kernel
def j_X10_site_45 (σ : HS) (l0 : Option Nat) (l1 : Int32) (l2 : Int32) (t0 : Int32) (t1 : Option Nat) : Option (Unit × HS) :=
  h_b1 (h_pI σ t1 11 0 t0) fun s5 =>
  h_b1 (h_gI s5 l0 11 0) fun x7 =>
  if x7 = 0 then
    h_b1 (h_gR s5 l0 11 14) fun x10 =>
    h_b1 (h_sI s5 x10 100 l1 l2) fun s12 =>
    some ((), s12)
  else
    some ((), s5)
def j_X10_site_44 (σ : HS) (l0 : Option Nat) (l1 : Int32) (l2 : Int32) (t0 : Option Nat) : Option (Unit × HS) :=
  j_X10_site_45 σ l0 l1 l2 1 t0
def f_X10_site (σ : HS) (a0 : Option Nat) (a1 : Int32) (a2 : Int32) : Option (Unit × HS) :=
  h_bd (f_X10_in σ a1 0 7) fun r1 s2 =>
  if r1 = 0 then
    j_X10_site_44 s2 a0 a1 a2 a0
  else
    h_b1 (h_gR s2 a0 11 14) fun x14 =>
    h_b1 (h_aI s2 x14 100 a1) fun x16 =>
    if x16 = (-1) then
      h_bd (f_X10_in s2 a2 0 15) fun r19 s20 =>
      if r19 = 0 then
        j_X10_site_44 s20 a0 a1 a2 a0
      else
        h_b1 (h_rcv s20 a0 11) fun y26 =>
        h_bd (f_X10_siteAt s20 a0 a2) fun r23 s24 =>
        if r23 = (-1) then
          j_X10_site_45 s24 a0 a1 a2 0 a0
        else
          j_X10_site_44 s24 a0 a1 a2 a0
    else
      j_X10_site_44 s2 a0 a1 a2 a0
set_option maxHeartbeats 4000000 in
set_option maxRecDepth 100000 in
theorem jw_X10_site_45 {p : Program} {l : Launch} {e : Env} {R : Room} {s : State} {m : MethodId} {args : Array Value} {below : List Frame} {meth : Method} {c : Code} {D : va_G} {dA : Nat → ClassId} {bs : Nat} (C : h_C p m c cX10_site 3 s args RX10 D dA) {σ0 : HS} (B : h_B R s meth σ0 none 1 22) {σ' : HS} : ∀ (σ : HS) (l0 : Option Nat) (l1 : Int32) (l2 : Int32) (t0 : Int32) (t1 : Option Nat), j_X10_site_45 σ l0 l1 l2 t0 t1 = some ((), σ') → V p l e R s m args below meth c D dA bs 3 (MQ below (h_Q D dA bs none σ0 σ') args s R.cells R.slots (fun q => bs ≤ q)) σ 45 [(0, va_rf l0), (1, .int l1), (2, .int l2)] [.int t0, va_rf t1] := by
  intro σ l0 l1 l2 t0 t1 h
  unfold j_X10_site_45 at h
  obtain ⟨s5, e6, h⟩ := h_b1_some h
  refine V_putI C fw_RX10_117 dX10_site_45 e6 ?_
  refine V_aload_n C 0 dX10_site_48 rfl rfl ?_
  obtain ⟨x7, e8, h⟩ := h_b1_some h
  refine V_getI C fl_RX10_117 dX10_site_49 e8 ?_
  refine V_if_ne (tgt := 62) C dX10_site_52 (by decide) (fun c9 => ?_) (fun c9 => ?_)
  · rw [if_neg c9] at h
    cases h
    exact V_vret C B dX10_site_62
  · rw [if_pos c9] at h
    refine V_aload_n C 0 dX10_site_55 rfl rfl ?_
    obtain ⟨x10, e11, h⟩ := h_b1_some h
    refine V_getR C fl_RX10_49 dX10_site_56 e11 ?_
    refine V_iload_n C 1 dX10_site_59 rfl rfl ?_
    refine V_iload_n C 2 dX10_site_60 rfl rfl ?_
    obtain ⟨s12, e13, h⟩ := h_b1_some h
    refine V_iast C dX10_site_61 e13 ?_
    cases h
    exact V_vret C B dX10_site_62
set_option maxHeartbeats 4000000 in
set_option maxRecDepth 100000 in
theorem jw_X10_site_44 {p : Program} {l : Launch} {e : Env} {R : Room} {s : State} {m : MethodId} {args : Array Value} {below : List Frame} {meth : Method} {c : Code} {D : va_G} {dA : Nat → ClassId} {bs : Nat} (C : h_C p m c cX10_site 3 s args RX10 D dA) {σ0 : HS} (B : h_B R s meth σ0 none 1 22) {σ' : HS} : ∀ (σ : HS) (l0 : Option Nat) (l1 : Int32) (l2 : Int32) (t0 : Option Nat), j_X10_site_44 σ l0 l1 l2 t0 = some ((), σ') → V p l e R s m args below meth c D dA bs 3 (MQ below (h_Q D dA bs none σ0 σ') args s R.cells R.slots (fun q => bs ≤ q)) σ 44 [(0, va_rf l0), (1, .int l1), (2, .int l2)] [va_rf t0] := by
  intro σ l0 l1 l2 t0 h
  unfold j_X10_site_44 at h
  refine V_iconst (v := 1) C dX10_site_44 (by decide) ?_
  exact V_sub [0, 1, 2] rfl (jw_X10_site_45 C B σ l0 l1 l2 1 t0 h)
set_option maxHeartbeats 4000000 in
set_option maxRecDepth 100000 in
theorem m_X10_site (l : Launch) (D : va_G) (dA : Nat → ClassId) (bs : Nat) {σ σ' : HS} {a0 : Option Nat} {a1 : Int32} {a2 : Int32} (h : f_X10_site σ a0 a1 a2 = some ((), σ')) : MetC l yX10_site cX10_site 3 none 1 22 D dA bs [va_rf a0, .int a1, .int a2] none σ σ' := by
  refine MetC.of (by decide) (h_avR (h_avI (h_avI h_av0))) (Nat.le_of_ble_eq_true rfl) ?_
  intro p e R s m args below meth c C B hnm
  unfold f_X10_site at h
  refine V_sub (lv' := [(0, va_rf a0), (1, .int a1), (2, .int a2)]) [0, 1, 2] rfl ?_
  refine V_aload_n C 0 dX10_site_0 rfl rfl ?_
  refine V_iload_n C 1 dX10_site_1 rfl rfl ?_
  refine V_iconst (v := 0) C dX10_site_2 (by decide) ?_
  refine V_bipush (v := 7) C dX10_site_3 (by decide) ?_
  obtain ⟨r1, s2, e3, h⟩ := h_bd_some h
  refine V_cS (As := [.int a1, .int 0, .int 7]) (rest := [va_rf a0]) C ms_RX10_120 (m_X10_in l D dA bs e3) rfl rfl (Nat.le_trans (h_wR h_w0) (by decide)) (h_fr B (by decide)) (h_lo B (by decide)) dX10_site_5 ?_
  refine V_if_eq (tgt := 44) C dX10_site_8 (by decide) (fun c4 => ?_) (fun c4 => ?_)
  · rw [if_pos c4] at h
    exact V_sub [0, 1, 2] rfl (jw_X10_site_44 C B s2 a0 a1 a2 a0 h)
  · rw [if_neg c4] at h
    refine V_aload_n C 0 dX10_site_11 rfl rfl ?_
    obtain ⟨x14, e15, h⟩ := h_b1_some h
    refine V_getR C fl_RX10_49 dX10_site_12 e15 ?_
    refine V_iload_n C 1 dX10_site_15 rfl rfl ?_
    obtain ⟨x16, e17, h⟩ := h_b1_some h
    refine V_iald C dX10_site_16 e17 ?_
    refine V_iconst (v := (-1)) C dX10_site_17 (by decide) ?_
    refine V_icmp_ne (tgt := 44) C dX10_site_18 (by decide) (fun c18 => ?_) (fun c18 => ?_)
    · rw [if_neg c18] at h
      exact V_sub [0, 1, 2] rfl (jw_X10_site_44 C B s2 a0 a1 a2 a0 h)
    · rw [if_pos c18] at h
      refine V_iload_n C 2 dX10_site_21 rfl rfl ?_
      refine V_iconst (v := 0) C dX10_site_22 (by decide) ?_
      refine V_bipush (v := 15) C dX10_site_23 (by decide) ?_
      obtain ⟨r19, s20, e21, h⟩ := h_bd_some h
      refine V_cS (As := [.int a2, .int 0, .int 15]) (rest := [va_rf a0]) C ms_RX10_120 (m_X10_in l D dA bs e21) rfl rfl (Nat.le_trans (h_wR h_w0) (by decide)) (h_fr B (by decide)) (h_lo B (by decide)) dX10_site_25 ?_
      refine V_if_eq (tgt := 44) C dX10_site_28 (by decide) (fun c22 => ?_) (fun c22 => ?_)
      · rw [if_pos c22] at h
        exact V_sub [0, 1, 2] rfl (jw_X10_site_44 C B s20 a0 a1 a2 a0 h)
      · rw [if_neg c22] at h
        refine V_aload_n C 0 dX10_site_31 rfl rfl ?_
        refine V_iload_n C 2 dX10_site_32 rfl rfl ?_
        obtain ⟨y26, e27, h⟩ := h_b1_some h
        obtain ⟨r23, s24, e25, h⟩ := h_bd_some h
        refine V_cV (As := [.int a2]) (rest := [va_rf a0]) C mv_RX10_143 (m_X10_siteAt l D dA bs e25) e27 rfl rfl (Nat.le_trans (h_wR h_w0) (by decide)) (h_fr B (by decide)) (h_lo B (by decide)) dX10_site_33 ?_
        refine V_iconst (v := (-1)) C dX10_site_36 (by decide) ?_
        refine V_icmp_ne (tgt := 44) C dX10_site_37 (by decide) (fun c28 => ?_) (fun c28 => ?_)
        · rw [if_neg c28] at h
          exact V_sub [0, 1, 2] rfl (jw_X10_site_44 C B s24 a0 a1 a2 a0 h)
        · rw [if_pos c28] at h
          refine V_iconst (v := 0) C dX10_site_40 (by decide) ?_
          refine V_goto (tgt := 45) C dX10_site_41 (by decide) ?_
          exact V_sub [0, 1, 2] rfl (jw_X10_site_45 C B s24 a0 a1 a2 0 a0 h)
/-! X10_prefix -/
theorem dX10_prefix_0 : decode cX10_prefix 0 = .ok (.aload_n 0, 1) := by decide +kernel
theorem dX10_prefix_1 : decode cX10_prefix 1 = .ok (.aload_n 0, 1) := by decide +kernel
theorem dX10_prefix_2 : decode cX10_prefix 2 = .ok (.iload_n 1, 1) := by decide +kernel
theorem dX10_prefix_3 : decode cX10_prefix 3 = .ok (.invokevirtual 147, 3) := by decide +kernel
theorem dX10_prefix_6 : decode cX10_prefix 6 = .ok (.ifCond .eq 35, 3) := by decide +kernel
theorem dX10_prefix_9 : decode cX10_prefix 9 = .ok (.aload_n 0, 1) := by decide +kernel
theorem dX10_prefix_10 : decode cX10_prefix 10 = .ok (.getfield 52, 3) := by decide +kernel
theorem dX10_prefix_13 : decode cX10_prefix 13 = .ok (.iload_n 1, 1) := by decide +kernel
theorem dX10_prefix_14 : decode cX10_prefix 14 = .ok (.iaload, 1) := by decide +kernel
theorem dX10_prefix_15 : decode cX10_prefix 15 = .ok (.iconst 4, 1) := by decide +kernel
theorem dX10_prefix_16 : decode cX10_prefix 16 = .ok (.if_icmp .ge 25, 3) := by decide +kernel
theorem dX10_prefix_19 : decode cX10_prefix 19 = .ok (.iload_n 2, 1) := by decide +kernel
theorem dX10_prefix_20 : decode cX10_prefix 20 = .ok (.iload_n 3, 1) := by decide +kernel
theorem dX10_prefix_21 : decode cX10_prefix 21 = .ok (.invokestatic 135, 3) := by decide +kernel
theorem dX10_prefix_24 : decode cX10_prefix 24 = .ok (.ifCond .eq 17, 3) := by decide +kernel
theorem dX10_prefix_27 : decode cX10_prefix 27 = .ok (.aload_n 0, 1) := by decide +kernel
theorem dX10_prefix_28 : decode cX10_prefix 28 = .ok (.iload_n 2, 1) := by decide +kernel
theorem dX10_prefix_29 : decode cX10_prefix 29 = .ok (.iload_n 3, 1) := by decide +kernel
theorem dX10_prefix_30 : decode cX10_prefix 30 = .ok (.invokevirtual 139, 3) := by decide +kernel
theorem dX10_prefix_33 : decode cX10_prefix 33 = .ok (.iconst (-1), 1) := by decide +kernel
theorem dX10_prefix_34 : decode cX10_prefix 34 = .ok (.if_icmp .eq 7, 3) := by decide +kernel
theorem dX10_prefix_37 : decode cX10_prefix 37 = .ok (.iconst 0, 1) := by decide +kernel
theorem dX10_prefix_38 : decode cX10_prefix 38 = .ok (.goto 4, 3) := by decide +kernel
theorem dX10_prefix_41 : decode cX10_prefix 41 = .ok (.iconst 1, 1) := by decide +kernel
theorem dX10_prefix_42 : decode cX10_prefix 42 = .ok (.putfield 117, 3) := by decide +kernel
theorem dX10_prefix_45 : decode cX10_prefix 45 = .ok (.iconst 0, 1) := by decide +kernel
theorem dX10_prefix_46 : decode cX10_prefix 46 = .ok (.istore 4, 2) := by decide +kernel
theorem dX10_prefix_48 : decode cX10_prefix 48 = .ok (.iload 4, 2) := by decide +kernel
theorem dX10_prefix_50 : decode cX10_prefix 50 = .ok (.bipush 32, 2) := by decide +kernel
theorem dX10_prefix_52 : decode cX10_prefix 52 = .ok (.if_icmp .ge 59, 3) := by decide +kernel
theorem dX10_prefix_55 : decode cX10_prefix 55 = .ok (.aload_n 0, 1) := by decide +kernel
theorem dX10_prefix_56 : decode cX10_prefix 56 = .ok (.getfield 117, 3) := by decide +kernel
theorem dX10_prefix_59 : decode cX10_prefix 59 = .ok (.ifCond .ne 52, 3) := by decide +kernel
theorem dX10_prefix_62 : decode cX10_prefix 62 = .ok (.iload 4, 2) := by decide +kernel
theorem dX10_prefix_64 : decode cX10_prefix 64 = .ok (.iconst 4, 1) := by decide +kernel
theorem dX10_prefix_65 : decode cX10_prefix 65 = .ok (.irem, 1) := by decide +kernel
theorem dX10_prefix_66 : decode cX10_prefix 66 = .ok (.aload_n 0, 1) := by decide +kernel
theorem dX10_prefix_67 : decode cX10_prefix 67 = .ok (.getfield 52, 3) := by decide +kernel
theorem dX10_prefix_70 : decode cX10_prefix 70 = .ok (.iload 4, 2) := by decide +kernel
theorem dX10_prefix_72 : decode cX10_prefix 72 = .ok (.iconst 4, 1) := by decide +kernel
theorem dX10_prefix_73 : decode cX10_prefix 73 = .ok (.idiv, 1) := by decide +kernel
theorem dX10_prefix_74 : decode cX10_prefix 74 = .ok (.iaload, 1) := by decide +kernel
theorem dX10_prefix_75 : decode cX10_prefix 75 = .ok (.if_icmp .ge 30, 3) := by decide +kernel
theorem dX10_prefix_78 : decode cX10_prefix 78 = .ok (.aload_n 0, 1) := by decide +kernel
theorem dX10_prefix_79 : decode cX10_prefix 79 = .ok (.getfield 55, 3) := by decide +kernel
theorem dX10_prefix_82 : decode cX10_prefix 82 = .ok (.iload 4, 2) := by decide +kernel
theorem dX10_prefix_84 : decode cX10_prefix 84 = .ok (.iaload, 1) := by decide +kernel
theorem dX10_prefix_85 : decode cX10_prefix 85 = .ok (.iload_n 2, 1) := by decide +kernel
theorem dX10_prefix_86 : decode cX10_prefix 86 = .ok (.if_icmp .ne 19, 3) := by decide +kernel
theorem dX10_prefix_89 : decode cX10_prefix 89 = .ok (.aload_n 0, 1) := by decide +kernel
theorem dX10_prefix_90 : decode cX10_prefix 90 = .ok (.getfield 58, 3) := by decide +kernel
theorem dX10_prefix_93 : decode cX10_prefix 93 = .ok (.iload 4, 2) := by decide +kernel
theorem dX10_prefix_95 : decode cX10_prefix 95 = .ok (.iaload, 1) := by decide +kernel
theorem dX10_prefix_96 : decode cX10_prefix 96 = .ok (.iload_n 3, 1) := by decide +kernel
theorem dX10_prefix_97 : decode cX10_prefix 97 = .ok (.if_icmp .ne 8, 3) := by decide +kernel
theorem dX10_prefix_100 : decode cX10_prefix 100 = .ok (.aload_n 0, 1) := by decide +kernel
theorem dX10_prefix_101 : decode cX10_prefix 101 = .ok (.iconst 1, 1) := by decide +kernel
theorem dX10_prefix_102 : decode cX10_prefix 102 = .ok (.putfield 117, 3) := by decide +kernel
theorem dX10_prefix_105 : decode cX10_prefix 105 = .ok (.iinc 4 1, 3) := by decide +kernel
theorem dX10_prefix_108 : decode cX10_prefix 108 = .ok (.goto (-60), 3) := by decide +kernel
theorem dX10_prefix_111 : decode cX10_prefix 111 = .ok (.aload_n 0, 1) := by decide +kernel
theorem dX10_prefix_112 : decode cX10_prefix 112 = .ok (.getfield 117, 3) := by decide +kernel
theorem dX10_prefix_115 : decode cX10_prefix 115 = .ok (.ifCond .le 5, 3) := by decide +kernel
theorem dX10_prefix_118 : decode cX10_prefix 118 = .ok (.iconst 0, 1) := by decide +kernel
theorem dX10_prefix_119 : decode cX10_prefix 119 = .ok (.ireturn, 1) := by decide +kernel
theorem dX10_prefix_120 : decode cX10_prefix 120 = .ok (.aload_n 0, 1) := by decide +kernel
theorem dX10_prefix_121 : decode cX10_prefix 121 = .ok (.getfield 55, 3) := by decide +kernel
theorem dX10_prefix_124 : decode cX10_prefix 124 = .ok (.iconst 4, 1) := by decide +kernel
theorem dX10_prefix_125 : decode cX10_prefix 125 = .ok (.iload_n 1, 1) := by decide +kernel
theorem dX10_prefix_126 : decode cX10_prefix 126 = .ok (.imul, 1) := by decide +kernel
theorem dX10_prefix_127 : decode cX10_prefix 127 = .ok (.aload_n 0, 1) := by decide +kernel
theorem dX10_prefix_128 : decode cX10_prefix 128 = .ok (.getfield 52, 3) := by decide +kernel
theorem dX10_prefix_131 : decode cX10_prefix 131 = .ok (.iload_n 1, 1) := by decide +kernel
theorem dX10_prefix_132 : decode cX10_prefix 132 = .ok (.iaload, 1) := by decide +kernel
theorem dX10_prefix_133 : decode cX10_prefix 133 = .ok (.iadd, 1) := by decide +kernel
theorem dX10_prefix_134 : decode cX10_prefix 134 = .ok (.iload_n 2, 1) := by decide +kernel
theorem dX10_prefix_135 : decode cX10_prefix 135 = .ok (.iastore, 1) := by decide +kernel
theorem dX10_prefix_136 : decode cX10_prefix 136 = .ok (.aload_n 0, 1) := by decide +kernel
theorem dX10_prefix_137 : decode cX10_prefix 137 = .ok (.getfield 58, 3) := by decide +kernel
theorem dX10_prefix_140 : decode cX10_prefix 140 = .ok (.iconst 4, 1) := by decide +kernel
theorem dX10_prefix_141 : decode cX10_prefix 141 = .ok (.iload_n 1, 1) := by decide +kernel
theorem dX10_prefix_142 : decode cX10_prefix 142 = .ok (.imul, 1) := by decide +kernel
theorem dX10_prefix_143 : decode cX10_prefix 143 = .ok (.aload_n 0, 1) := by decide +kernel
theorem dX10_prefix_144 : decode cX10_prefix 144 = .ok (.getfield 52, 3) := by decide +kernel
theorem dX10_prefix_147 : decode cX10_prefix 147 = .ok (.iload_n 1, 1) := by decide +kernel
theorem dX10_prefix_148 : decode cX10_prefix 148 = .ok (.iaload, 1) := by decide +kernel
theorem dX10_prefix_149 : decode cX10_prefix 149 = .ok (.iadd, 1) := by decide +kernel
theorem dX10_prefix_150 : decode cX10_prefix 150 = .ok (.iload_n 3, 1) := by decide +kernel
theorem dX10_prefix_151 : decode cX10_prefix 151 = .ok (.iastore, 1) := by decide +kernel
theorem dX10_prefix_152 : decode cX10_prefix 152 = .ok (.aload_n 0, 1) := by decide +kernel
theorem dX10_prefix_153 : decode cX10_prefix 153 = .ok (.getfield 52, 3) := by decide +kernel
theorem dX10_prefix_156 : decode cX10_prefix 156 = .ok (.iload_n 1, 1) := by decide +kernel
theorem dX10_prefix_157 : decode cX10_prefix 157 = .ok (.dup2, 1) := by decide +kernel
theorem dX10_prefix_158 : decode cX10_prefix 158 = .ok (.iaload, 1) := by decide +kernel
theorem dX10_prefix_159 : decode cX10_prefix 159 = .ok (.iconst 1, 1) := by decide +kernel
theorem dX10_prefix_160 : decode cX10_prefix 160 = .ok (.iadd, 1) := by decide +kernel
theorem dX10_prefix_161 : decode cX10_prefix 161 = .ok (.iastore, 1) := by decide +kernel
theorem dX10_prefix_162 : decode cX10_prefix 162 = .ok (.aload_n 0, 1) := by decide +kernel
theorem dX10_prefix_163 : decode cX10_prefix 163 = .ok (.getfield 52, 3) := by decide +kernel
theorem dX10_prefix_166 : decode cX10_prefix 166 = .ok (.iload_n 1, 1) := by decide +kernel
theorem dX10_prefix_167 : decode cX10_prefix 167 = .ok (.iaload, 1) := by decide +kernel
theorem dX10_prefix_168 : decode cX10_prefix 168 = .ok (.iconst 1, 1) := by decide +kernel
theorem dX10_prefix_169 : decode cX10_prefix 169 = .ok (.isub, 1) := by decide +kernel
theorem dX10_prefix_170 : decode cX10_prefix 170 = .ok (.ireturn, 1) := by decide +kernel
def j_X10_prefix_111 (σ : HS) (l0 : Option Nat) (l1 : Int32) (l2 : Int32) (l3 : Int32) : Option (Int32 × HS) :=
  h_b1 (h_gI σ l0 11 0) fun x10 =>
  if x10 ≤ 0 then
    h_b1 (h_gR σ l0 11 16) fun x13 =>
    h_b1 (h_gR σ l0 11 15) fun x15 =>
    h_b1 (h_aI σ x15 100 l1) fun x17 =>
    h_b1 (h_sI σ x13 100 ((4 * l1) + x17) l2) fun s19 =>
    h_b1 (h_gR s19 l0 11 17) fun x21 =>
    h_b1 (h_gR s19 l0 11 15) fun x23 =>
    h_b1 (h_aI s19 x23 100 l1) fun x25 =>
    h_b1 (h_sI s19 x21 100 ((4 * l1) + x25) l3) fun s27 =>
    h_b1 (h_gR s27 l0 11 15) fun x29 =>
    h_b1 (h_aI s27 x29 100 l1) fun x31 =>
    h_b1 (h_sI s27 x29 100 l1 (x31 + 1)) fun s33 =>
    h_b1 (h_gR s33 l0 11 15) fun x35 =>
    h_b1 (h_aI s33 x35 100 l1) fun x37 =>
    some ((x37 - 1), s33)
  else
    some (0, σ)
def g_X10_prefix_48 : Nat → HS → Option Nat → Int32 → Int32 → Int32 → Int32 → Option (Int32 × HS)
  | 0, _, _, _, _, _, _ => none
  | n + 1, σ, l0, l1, l2, l3, l4 =>
    if 32 ≤ l4 then
      j_X10_prefix_111 σ l0 l1 l2 l3 
    else
      h_b1 (h_gI σ l0 11 0) fun x39 =>
      if x39 = 0 then
        h_b1 (h_gR σ l0 11 15) fun x42 =>
        h_b1 (h_aI σ x42 100 (l4 / 4)) fun x44 =>
        if x44 ≤ (l4 - l4 / 4 * 4) then
          g_X10_prefix_48 n σ l0 l1 l2 l3 (l4 + 1)
        else
          h_b1 (h_gR σ l0 11 16) fun x47 =>
          h_b1 (h_aI σ x47 100 l4) fun x49 =>
          if x49 = l2 then
            h_b1 (h_gR σ l0 11 17) fun x52 =>
            h_b1 (h_aI σ x52 100 l4) fun x54 =>
            if x54 = l3 then
              h_b1 (h_pI σ l0 11 0 1) fun s57 =>
              g_X10_prefix_48 n s57 l0 l1 l2 l3 (l4 + 1)
            else
              g_X10_prefix_48 n σ l0 l1 l2 l3 (l4 + 1)
          else
            g_X10_prefix_48 n σ l0 l1 l2 l3 (l4 + 1)
      else
        j_X10_prefix_111 σ l0 l1 l2 l3 
def f_X10_prefix (σ : HS) (a0 : Option Nat) (a1 : Int32) (a2 : Int32) (a3 : Int32) : Option (Int32 × HS) :=
  h_b1 (h_rcv σ a0 11) fun y4 =>
  h_bd (f_X10_isSite σ a0 a1) fun r1 s2 =>
  if r1 = 0 then
    h_b1 (h_pI s2 a0 11 0 1) fun s7 =>
    g_X10_prefix_48 h_hN s7 a0 a1 a2 a3 0
  else
    h_b1 (h_gR s2 a0 11 15) fun x59 =>
    h_b1 (h_aI s2 x59 100 a1) fun x61 =>
    if 4 ≤ x61 then
      h_b1 (h_pI s2 a0 11 0 1) fun s64 =>
      g_X10_prefix_48 h_hN s64 a0 a1 a2 a3 0
    else
      h_bd (f_X10_isPrefix s2 a2 a3) fun r66 s67 =>
      if r66 = 0 then
        h_b1 (h_pI s67 a0 11 0 1) fun s70 =>
        g_X10_prefix_48 h_hN s70 a0 a1 a2 a3 0
      else
        h_b1 (h_rcv s67 a0 11) fun y75 =>
        h_bd (f_X10_owner s67 a0 a2 a3) fun r72 s73 =>
        if r72 = (-1) then
          h_b1 (h_pI s73 a0 11 0 1) fun s78 =>
          g_X10_prefix_48 h_hN s78 a0 a1 a2 a3 0
        else
          h_b1 (h_pI s73 a0 11 0 0) fun s80 =>
          g_X10_prefix_48 h_hN s80 a0 a1 a2 a3 0
set_option maxHeartbeats 4000000 in
set_option maxRecDepth 100000 in
theorem jw_X10_prefix_111 {p : Program} {l : Launch} {e : Env} {R : Room} {s : State} {m : MethodId} {args : Array Value} {below : List Frame} {meth : Method} {c : Code} {D : va_G} {dA : Nat → ClassId} {bs : Nat} (C : h_C p m c cX10_prefix 5 s args RX10 D dA) {σ0 : HS} (B : h_B R s meth σ0 (some .int) 3 69) {σ' : HS} {r : Int32} : ∀ (σ : HS) (l0 : Option Nat) (l1 : Int32) (l2 : Int32) (l3 : Int32), j_X10_prefix_111 σ l0 l1 l2 l3 = some (r, σ') → V p l e R s m args below meth c D dA bs 5 (MQ below (h_Q D dA bs (some (.int r)) σ0 σ') args s R.cells R.slots (fun q => bs ≤ q)) σ 111 [(0, va_rf l0), (1, .int l1), (2, .int l2), (3, .int l3)] [] := by
  intro σ l0 l1 l2 l3 h
  unfold j_X10_prefix_111 at h
  refine V_aload_n C 0 dX10_prefix_111 rfl rfl ?_
  obtain ⟨x10, e11, h⟩ := h_b1_some h
  refine V_getI C fl_RX10_117 dX10_prefix_112 e11 ?_
  refine V_if_le (tgt := 120) C dX10_prefix_115 (by decide) (fun c12 => ?_) (fun c12 => ?_)
  · rw [if_pos c12] at h
    refine V_aload_n C 0 dX10_prefix_120 rfl rfl ?_
    obtain ⟨x13, e14, h⟩ := h_b1_some h
    refine V_getR C fl_RX10_55 dX10_prefix_121 e14 ?_
    refine V_iconst (v := 4) C dX10_prefix_124 (by decide) ?_
    refine V_iload_n C 1 dX10_prefix_125 rfl rfl ?_
    refine V_imul C dX10_prefix_126 ?_
    refine V_aload_n C 0 dX10_prefix_127 rfl rfl ?_
    obtain ⟨x15, e16, h⟩ := h_b1_some h
    refine V_getR C fl_RX10_52 dX10_prefix_128 e16 ?_
    refine V_iload_n C 1 dX10_prefix_131 rfl rfl ?_
    obtain ⟨x17, e18, h⟩ := h_b1_some h
    refine V_iald C dX10_prefix_132 e18 ?_
    refine V_iadd C dX10_prefix_133 ?_
    refine V_iload_n C 2 dX10_prefix_134 rfl rfl ?_
    obtain ⟨s19, e20, h⟩ := h_b1_some h
    refine V_iast C dX10_prefix_135 e20 ?_
    refine V_aload_n C 0 dX10_prefix_136 rfl rfl ?_
    obtain ⟨x21, e22, h⟩ := h_b1_some h
    refine V_getR C fl_RX10_58 dX10_prefix_137 e22 ?_
    refine V_iconst (v := 4) C dX10_prefix_140 (by decide) ?_
    refine V_iload_n C 1 dX10_prefix_141 rfl rfl ?_
    refine V_imul C dX10_prefix_142 ?_
    refine V_aload_n C 0 dX10_prefix_143 rfl rfl ?_
    obtain ⟨x23, e24, h⟩ := h_b1_some h
    refine V_getR C fl_RX10_52 dX10_prefix_144 e24 ?_
    refine V_iload_n C 1 dX10_prefix_147 rfl rfl ?_
    obtain ⟨x25, e26, h⟩ := h_b1_some h
    refine V_iald C dX10_prefix_148 e26 ?_
    refine V_iadd C dX10_prefix_149 ?_
    refine V_iload_n C 3 dX10_prefix_150 rfl rfl ?_
    obtain ⟨s27, e28, h⟩ := h_b1_some h
    refine V_iast C dX10_prefix_151 e28 ?_
    refine V_aload_n C 0 dX10_prefix_152 rfl rfl ?_
    obtain ⟨x29, e30, h⟩ := h_b1_some h
    refine V_getR C fl_RX10_52 dX10_prefix_153 e30 ?_
    refine V_iload_n C 1 dX10_prefix_156 rfl rfl ?_
    refine V_dup2IR C dX10_prefix_157 ?_
    obtain ⟨x31, e32, h⟩ := h_b1_some h
    refine V_iald C dX10_prefix_158 e32 ?_
    refine V_iconst (v := 1) C dX10_prefix_159 (by decide) ?_
    refine V_iadd C dX10_prefix_160 ?_
    obtain ⟨s33, e34, h⟩ := h_b1_some h
    refine V_iast C dX10_prefix_161 e34 ?_
    refine V_aload_n C 0 dX10_prefix_162 rfl rfl ?_
    obtain ⟨x35, e36, h⟩ := h_b1_some h
    refine V_getR C fl_RX10_52 dX10_prefix_163 e36 ?_
    refine V_iload_n C 1 dX10_prefix_166 rfl rfl ?_
    obtain ⟨x37, e38, h⟩ := h_b1_some h
    refine V_iald C dX10_prefix_167 e38 ?_
    refine V_iconst (v := 1) C dX10_prefix_168 (by decide) ?_
    refine V_isub C dX10_prefix_169 ?_
    cases h
    exact V_iret C B dX10_prefix_170
  · rw [if_neg c12] at h
    refine V_iconst (v := 0) C dX10_prefix_118 (by decide) ?_
    cases h
    exact V_iret C B dX10_prefix_119
set_option maxHeartbeats 4000000 in
set_option maxRecDepth 100000 in
theorem w_X10_prefix_48 {p : Program} {l : Launch} {e : Env} {R : Room} {s : State} {m : MethodId} {args : Array Value} {below : List Frame} {meth : Method} {c : Code} {D : va_G} {dA : Nat → ClassId} {bs : Nat} (C : h_C p m c cX10_prefix 5 s args RX10 D dA) {σ0 : HS} (B : h_B R s meth σ0 (some .int) 3 69) {σ' : HS} {r : Int32} : ∀ (n : Nat) (σ : HS) (l0 : Option Nat) (l1 : Int32) (l2 : Int32) (l3 : Int32) (l4 : Int32), g_X10_prefix_48 n σ l0 l1 l2 l3 l4 = some (r, σ') → V p l e R s m args below meth c D dA bs 5 (MQ below (h_Q D dA bs (some (.int r)) σ0 σ') args s R.cells R.slots (fun q => bs ≤ q)) σ 48 [(0, va_rf l0), (1, .int l1), (2, .int l2), (3, .int l3), (4, .int l4)] [] := by
  intro n
  induction n with
  | zero =>
    intro σ l0 l1 l2 l3 l4 h
    rw [g_X10_prefix_48] at h
    cases h
  | succ n ih =>
    intro σ l0 l1 l2 l3 l4 h
    rw [g_X10_prefix_48] at h
    refine V_iload C 4 dX10_prefix_48 rfl ?_
    refine V_bipush (v := 32) C dX10_prefix_50 (by decide) ?_
    refine V_icmp_ge (tgt := 111) C dX10_prefix_52 (by decide) (fun c9 => ?_) (fun c9 => ?_)
    · rw [if_pos c9] at h
      exact V_sub [0, 1, 2, 3] rfl (jw_X10_prefix_111 C B σ l0 l1 l2 l3  h)
    · rw [if_neg c9] at h
      refine V_aload_n C 0 dX10_prefix_55 rfl rfl ?_
      obtain ⟨x39, e40, h⟩ := h_b1_some h
      refine V_getI C fl_RX10_117 dX10_prefix_56 e40 ?_
      refine V_if_ne (tgt := 111) C dX10_prefix_59 (by decide) (fun c41 => ?_) (fun c41 => ?_)
      · rw [if_neg c41] at h
        exact V_sub [0, 1, 2, 3] rfl (jw_X10_prefix_111 C B σ l0 l1 l2 l3  h)
      · rw [if_pos c41] at h
        refine V_iload C 4 dX10_prefix_62 rfl ?_
        refine V_iconst (v := 4) C dX10_prefix_64 (by decide) ?_
        refine V_irem C dX10_prefix_65 (by decide) ?_
        refine V_aload_n C 0 dX10_prefix_66 rfl rfl ?_
        obtain ⟨x42, e43, h⟩ := h_b1_some h
        refine V_getR C fl_RX10_52 dX10_prefix_67 e43 ?_
        refine V_iload C 4 dX10_prefix_70 rfl ?_
        refine V_iconst (v := 4) C dX10_prefix_72 (by decide) ?_
        refine V_idiv C dX10_prefix_73 (by decide) ?_
        obtain ⟨x44, e45, h⟩ := h_b1_some h
        refine V_iald C dX10_prefix_74 e45 ?_
        refine V_icmp_ge (tgt := 105) C dX10_prefix_75 (by decide) (fun c46 => ?_) (fun c46 => ?_)
        · rw [if_pos c46] at h
          refine V_iinc (v := (l4 + 1)) (lv' := [(4, .int (l4 + 1)), (0, va_rf l0), (1, .int l1), (2, .int l2), (3, .int l3)]) C 4 dX10_prefix_105 rfl rfl (by decide) rfl ?_
          refine V_goto (tgt := 48) C dX10_prefix_108 (by decide) ?_
          exact V_sub [1, 2, 3, 4, 0] rfl (ih σ l0 l1 l2 l3 (l4 + 1) h)
        · rw [if_neg c46] at h
          refine V_aload_n C 0 dX10_prefix_78 rfl rfl ?_
          obtain ⟨x47, e48, h⟩ := h_b1_some h
          refine V_getR C fl_RX10_55 dX10_prefix_79 e48 ?_
          refine V_iload C 4 dX10_prefix_82 rfl ?_
          obtain ⟨x49, e50, h⟩ := h_b1_some h
          refine V_iald C dX10_prefix_84 e50 ?_
          refine V_iload_n C 2 dX10_prefix_85 rfl rfl ?_
          refine V_icmp_ne (tgt := 105) C dX10_prefix_86 (by decide) (fun c51 => ?_) (fun c51 => ?_)
          · rw [if_neg c51] at h
            refine V_iinc (v := (l4 + 1)) (lv' := [(4, .int (l4 + 1)), (0, va_rf l0), (1, .int l1), (2, .int l2), (3, .int l3)]) C 4 dX10_prefix_105 rfl rfl (by decide) rfl ?_
            refine V_goto (tgt := 48) C dX10_prefix_108 (by decide) ?_
            exact V_sub [1, 2, 3, 4, 0] rfl (ih σ l0 l1 l2 l3 (l4 + 1) h)
          · rw [if_pos c51] at h
            refine V_aload_n C 0 dX10_prefix_89 rfl rfl ?_
            obtain ⟨x52, e53, h⟩ := h_b1_some h
            refine V_getR C fl_RX10_58 dX10_prefix_90 e53 ?_
            refine V_iload C 4 dX10_prefix_93 rfl ?_
            obtain ⟨x54, e55, h⟩ := h_b1_some h
            refine V_iald C dX10_prefix_95 e55 ?_
            refine V_iload_n C 3 dX10_prefix_96 rfl rfl ?_
            refine V_icmp_ne (tgt := 105) C dX10_prefix_97 (by decide) (fun c56 => ?_) (fun c56 => ?_)
            · rw [if_neg c56] at h
              refine V_iinc (v := (l4 + 1)) (lv' := [(4, .int (l4 + 1)), (0, va_rf l0), (1, .int l1), (2, .int l2), (3, .int l3)]) C 4 dX10_prefix_105 rfl rfl (by decide) rfl ?_
              refine V_goto (tgt := 48) C dX10_prefix_108 (by decide) ?_
              exact V_sub [1, 2, 3, 4, 0] rfl (ih σ l0 l1 l2 l3 (l4 + 1) h)
            · rw [if_pos c56] at h
              refine V_aload_n C 0 dX10_prefix_100 rfl rfl ?_
              refine V_iconst (v := 1) C dX10_prefix_101 (by decide) ?_
              obtain ⟨s57, e58, h⟩ := h_b1_some h
              refine V_putI C fw_RX10_117 dX10_prefix_102 e58 ?_
              refine V_iinc (v := (l4 + 1)) (lv' := [(4, .int (l4 + 1)), (0, va_rf l0), (1, .int l1), (2, .int l2), (3, .int l3)]) C 4 dX10_prefix_105 rfl rfl (by decide) rfl ?_
              refine V_goto (tgt := 48) C dX10_prefix_108 (by decide) ?_
              exact V_sub [1, 2, 3, 4, 0] rfl (ih s57 l0 l1 l2 l3 (l4 + 1) h)
set_option maxHeartbeats 4000000 in
set_option maxRecDepth 100000 in
theorem m_X10_prefix (l : Launch) (D : va_G) (dA : Nat → ClassId) (bs : Nat) {σ σ' : HS} {a0 : Option Nat} {a1 : Int32} {a2 : Int32} {a3 : Int32} {r : Int32} (h : f_X10_prefix σ a0 a1 a2 a3 = some (r, σ')) : MetC l yX10_prefix cX10_prefix 5 (some .int) 3 69 D dA bs [va_rf a0, .int a1, .int a2, .int a3] (some (.int r)) σ σ' := by
  refine MetC.of (by decide) (h_avR (h_avI (h_avI (h_avI h_av0)))) (Nat.le_of_ble_eq_true rfl) ?_
  intro p e R s m args below meth c C B hnm
  unfold f_X10_prefix at h
  refine V_sub (lv' := [(0, va_rf a0), (1, .int a1), (2, .int a2), (3, .int a3)]) [0, 1, 2, 3] rfl ?_
  refine V_aload_n C 0 dX10_prefix_0 rfl rfl ?_
  refine V_aload_n C 0 dX10_prefix_1 rfl rfl ?_
  refine V_iload_n C 1 dX10_prefix_2 rfl rfl ?_
  obtain ⟨y4, e5, h⟩ := h_b1_some h
  obtain ⟨r1, s2, e3, h⟩ := h_bd_some h
  refine V_cV (As := [.int a1]) (rest := [va_rf a0]) C mv_RX10_147 (m_X10_isSite l D dA bs e3) e5 rfl rfl (Nat.le_trans (h_wR h_w0) (by decide)) (h_fr B (by decide)) (h_lo B (by decide)) dX10_prefix_3 ?_
  refine V_if_eq (tgt := 41) C dX10_prefix_6 (by decide) (fun c6 => ?_) (fun c6 => ?_)
  · rw [if_pos c6] at h
    refine V_iconst (v := 1) C dX10_prefix_41 (by decide) ?_
    obtain ⟨s7, e8, h⟩ := h_b1_some h
    refine V_putI C fw_RX10_117 dX10_prefix_42 e8 ?_
    refine V_iconst (v := 0) C dX10_prefix_45 (by decide) ?_
    refine V_istore (lv' := [(4, .int 0), (0, va_rf a0), (1, .int a1), (2, .int a2), (3, .int a3)]) C dX10_prefix_46 (by decide) rfl ?_
    exact V_sub [1, 2, 3, 4, 0] rfl (w_X10_prefix_48 C B h_hN s7 a0 a1 a2 a3 0 h)
  · rw [if_neg c6] at h
    refine V_aload_n C 0 dX10_prefix_9 rfl rfl ?_
    obtain ⟨x59, e60, h⟩ := h_b1_some h
    refine V_getR C fl_RX10_52 dX10_prefix_10 e60 ?_
    refine V_iload_n C 1 dX10_prefix_13 rfl rfl ?_
    obtain ⟨x61, e62, h⟩ := h_b1_some h
    refine V_iald C dX10_prefix_14 e62 ?_
    refine V_iconst (v := 4) C dX10_prefix_15 (by decide) ?_
    refine V_icmp_ge (tgt := 41) C dX10_prefix_16 (by decide) (fun c63 => ?_) (fun c63 => ?_)
    · rw [if_pos c63] at h
      refine V_iconst (v := 1) C dX10_prefix_41 (by decide) ?_
      obtain ⟨s64, e65, h⟩ := h_b1_some h
      refine V_putI C fw_RX10_117 dX10_prefix_42 e65 ?_
      refine V_iconst (v := 0) C dX10_prefix_45 (by decide) ?_
      refine V_istore (lv' := [(4, .int 0), (0, va_rf a0), (1, .int a1), (2, .int a2), (3, .int a3)]) C dX10_prefix_46 (by decide) rfl ?_
      exact V_sub [1, 2, 3, 4, 0] rfl (w_X10_prefix_48 C B h_hN s64 a0 a1 a2 a3 0 h)
    · rw [if_neg c63] at h
      refine V_iload_n C 2 dX10_prefix_19 rfl rfl ?_
      refine V_iload_n C 3 dX10_prefix_20 rfl rfl ?_
      obtain ⟨r66, s67, e68, h⟩ := h_bd_some h
      refine V_cS (As := [.int a2, .int a3]) (rest := [va_rf a0]) C ms_RX10_135 (m_X10_isPrefix l D dA bs e68) rfl rfl (Nat.le_trans (h_wR h_w0) (by decide)) (h_fr B (by decide)) (h_lo B (by decide)) dX10_prefix_21 ?_
      refine V_if_eq (tgt := 41) C dX10_prefix_24 (by decide) (fun c69 => ?_) (fun c69 => ?_)
      · rw [if_pos c69] at h
        refine V_iconst (v := 1) C dX10_prefix_41 (by decide) ?_
        obtain ⟨s70, e71, h⟩ := h_b1_some h
        refine V_putI C fw_RX10_117 dX10_prefix_42 e71 ?_
        refine V_iconst (v := 0) C dX10_prefix_45 (by decide) ?_
        refine V_istore (lv' := [(4, .int 0), (0, va_rf a0), (1, .int a1), (2, .int a2), (3, .int a3)]) C dX10_prefix_46 (by decide) rfl ?_
        exact V_sub [1, 2, 3, 4, 0] rfl (w_X10_prefix_48 C B h_hN s70 a0 a1 a2 a3 0 h)
      · rw [if_neg c69] at h
        refine V_aload_n C 0 dX10_prefix_27 rfl rfl ?_
        refine V_iload_n C 2 dX10_prefix_28 rfl rfl ?_
        refine V_iload_n C 3 dX10_prefix_29 rfl rfl ?_
        obtain ⟨y75, e76, h⟩ := h_b1_some h
        obtain ⟨r72, s73, e74, h⟩ := h_bd_some h
        refine V_cV (As := [.int a2, .int a3]) (rest := [va_rf a0]) C mv_RX10_139 (m_X10_owner l D dA bs e74) e76 rfl rfl (Nat.le_trans (h_wR h_w0) (by decide)) (h_fr B (by decide)) (h_lo B (by decide)) dX10_prefix_30 ?_
        refine V_iconst (v := (-1)) C dX10_prefix_33 (by decide) ?_
        refine V_icmp_eq (tgt := 41) C dX10_prefix_34 (by decide) (fun c77 => ?_) (fun c77 => ?_)
        · rw [if_pos c77] at h
          refine V_iconst (v := 1) C dX10_prefix_41 (by decide) ?_
          obtain ⟨s78, e79, h⟩ := h_b1_some h
          refine V_putI C fw_RX10_117 dX10_prefix_42 e79 ?_
          refine V_iconst (v := 0) C dX10_prefix_45 (by decide) ?_
          refine V_istore (lv' := [(4, .int 0), (0, va_rf a0), (1, .int a1), (2, .int a2), (3, .int a3)]) C dX10_prefix_46 (by decide) rfl ?_
          exact V_sub [1, 2, 3, 4, 0] rfl (w_X10_prefix_48 C B h_hN s78 a0 a1 a2 a3 0 h)
        · rw [if_neg c77] at h
          refine V_iconst (v := 0) C dX10_prefix_37 (by decide) ?_
          refine V_goto (tgt := 42) C dX10_prefix_38 (by decide) ?_
          obtain ⟨s80, e81, h⟩ := h_b1_some h
          refine V_putI C fw_RX10_117 dX10_prefix_42 e81 ?_
          refine V_iconst (v := 0) C dX10_prefix_45 (by decide) ?_
          refine V_istore (lv' := [(4, .int 0), (0, va_rf a0), (1, .int a1), (2, .int a2), (3, .int a3)]) C dX10_prefix_46 (by decide) rfl ?_
          exact V_sub [1, 2, 3, 4, 0] rfl (w_X10_prefix_48 C B h_hN s80 a0 a1 a2 a3 0 h)
