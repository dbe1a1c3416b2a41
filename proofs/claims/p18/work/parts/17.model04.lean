/-! X10_replied -/
theorem dX10_replied_0 : decode cX10_replied 0 = .ok (.aload_n 0, 1) := by decide +kernel
theorem dX10_replied_1 : decode cX10_replied 1 = .ok (.getfield 112, 3) := by decide +kernel
theorem dX10_replied_4 : decode cX10_replied 4 = .ok (.bipush 7, 2) := by decide +kernel
theorem dX10_replied_6 : decode cX10_replied 6 = .ok (.iaload, 1) := by decide +kernel
theorem dX10_replied_7 : decode cX10_replied 7 = .ok (.istore_n 1, 1) := by decide +kernel
theorem dX10_replied_8 : decode cX10_replied 8 = .ok (.aload_n 0, 1) := by decide +kernel
theorem dX10_replied_9 : decode cX10_replied 9 = .ok (.iload_n 1, 1) := by decide +kernel
theorem dX10_replied_10 : decode cX10_replied 10 = .ok (.invokevirtual 147, 3) := by decide +kernel
theorem dX10_replied_13 : decode cX10_replied 13 = .ok (.ifCond .ne 4, 3) := by decide +kernel
theorem dX10_replied_16 : decode cX10_replied 16 = .ok (.return_, 1) := by decide +kernel
theorem dX10_replied_17 : decode cX10_replied 17 = .ok (.iconst 0, 1) := by decide +kernel
theorem dX10_replied_18 : decode cX10_replied 18 = .ok (.istore_n 2, 1) := by decide +kernel
theorem dX10_replied_19 : decode cX10_replied 19 = .ok (.iconst 1, 1) := by decide +kernel
theorem dX10_replied_20 : decode cX10_replied 20 = .ok (.istore_n 3, 1) := by decide +kernel
theorem dX10_replied_21 : decode cX10_replied 21 = .ok (.iload_n 3, 1) := by decide +kernel
theorem dX10_replied_22 : decode cX10_replied 22 = .ok (.aload_n 0, 1) := by decide +kernel
theorem dX10_replied_23 : decode cX10_replied 23 = .ok (.getfield 231, 3) := by decide +kernel
theorem dX10_replied_26 : decode cX10_replied 26 = .ok (.if_icmp .gt 45, 3) := by decide +kernel
theorem dX10_replied_29 : decode cX10_replied 29 = .ok (.aload_n 0, 1) := by decide +kernel
theorem dX10_replied_30 : decode cX10_replied 30 = .ok (.getfield 88, 3) := by decide +kernel
theorem dX10_replied_33 : decode cX10_replied 33 = .ok (.iload_n 3, 1) := by decide +kernel
theorem dX10_replied_34 : decode cX10_replied 34 = .ok (.iaload, 1) := by decide +kernel
theorem dX10_replied_35 : decode cX10_replied 35 = .ok (.iload_n 1, 1) := by decide +kernel
theorem dX10_replied_36 : decode cX10_replied 36 = .ok (.if_icmp .ne 29, 3) := by decide +kernel
theorem dX10_replied_39 : decode cX10_replied 39 = .ok (.aload_n 0, 1) := by decide +kernel
theorem dX10_replied_40 : decode cX10_replied 40 = .ok (.getfield 94, 3) := by decide +kernel
theorem dX10_replied_43 : decode cX10_replied 43 = .ok (.iload_n 3, 1) := by decide +kernel
theorem dX10_replied_44 : decode cX10_replied 44 = .ok (.iaload, 1) := by decide +kernel
theorem dX10_replied_45 : decode cX10_replied 45 = .ok (.ifCond .ne 20, 3) := by decide +kernel
theorem dX10_replied_48 : decode cX10_replied 48 = .ok (.aload_n 0, 1) := by decide +kernel
theorem dX10_replied_49 : decode cX10_replied 49 = .ok (.getfield 97, 3) := by decide +kernel
theorem dX10_replied_52 : decode cX10_replied 52 = .ok (.iload_n 3, 1) := by decide +kernel
theorem dX10_replied_53 : decode cX10_replied 53 = .ok (.iaload, 1) := by decide +kernel
theorem dX10_replied_54 : decode cX10_replied 54 = .ok (.aload_n 0, 1) := by decide +kernel
theorem dX10_replied_55 : decode cX10_replied 55 = .ok (.getfield 112, 3) := by decide +kernel
theorem dX10_replied_58 : decode cX10_replied 58 = .ok (.iconst 0, 1) := by decide +kernel
theorem dX10_replied_59 : decode cX10_replied 59 = .ok (.iaload, 1) := by decide +kernel
theorem dX10_replied_60 : decode cX10_replied 60 = .ok (.if_icmp .ne 5, 3) := by decide +kernel
theorem dX10_replied_63 : decode cX10_replied 63 = .ok (.iload_n 3, 1) := by decide +kernel
theorem dX10_replied_64 : decode cX10_replied 64 = .ok (.istore_n 2, 1) := by decide +kernel
theorem dX10_replied_65 : decode cX10_replied 65 = .ok (.iinc 3 1, 3) := by decide +kernel
theorem dX10_replied_68 : decode cX10_replied 68 = .ok (.goto (-47), 3) := by decide +kernel
theorem dX10_replied_71 : decode cX10_replied 71 = .ok (.aload_n 0, 1) := by decide +kernel
theorem dX10_replied_72 : decode cX10_replied 72 = .ok (.getfield 112, 3) := by decide +kernel
theorem dX10_replied_75 : decode cX10_replied 75 = .ok (.iconst 1, 1) := by decide +kernel
theorem dX10_replied_76 : decode cX10_replied 76 = .ok (.iaload, 1) := by decide +kernel
theorem dX10_replied_77 : decode cX10_replied 77 = .ok (.istore_n 3, 1) := by decide +kernel
theorem dX10_replied_78 : decode cX10_replied 78 = .ok (.iload_n 2, 1) := by decide +kernel
theorem dX10_replied_79 : decode cX10_replied 79 = .ok (.ifCond .le 58, 3) := by decide +kernel
theorem dX10_replied_82 : decode cX10_replied 82 = .ok (.iload_n 3, 1) := by decide +kernel
theorem dX10_replied_83 : decode cX10_replied 83 = .ok (.iconst 0, 1) := by decide +kernel
theorem dX10_replied_84 : decode cX10_replied 84 = .ok (.iconst 2, 1) := by decide +kernel
theorem dX10_replied_85 : decode cX10_replied 85 = .ok (.invokestatic 120, 3) := by decide +kernel
theorem dX10_replied_88 : decode cX10_replied 88 = .ok (.ifCond .eq 49, 3) := by decide +kernel
theorem dX10_replied_91 : decode cX10_replied 91 = .ok (.aload_n 0, 1) := by decide +kernel
theorem dX10_replied_92 : decode cX10_replied 92 = .ok (.getfield 112, 3) := by decide +kernel
theorem dX10_replied_95 : decode cX10_replied 95 = .ok (.iconst 2, 1) := by decide +kernel
theorem dX10_replied_96 : decode cX10_replied 96 = .ok (.iaload, 1) := by decide +kernel
theorem dX10_replied_97 : decode cX10_replied 97 = .ok (.aload_n 0, 1) := by decide +kernel
theorem dX10_replied_98 : decode cX10_replied 98 = .ok (.getfield 112, 3) := by decide +kernel
theorem dX10_replied_101 : decode cX10_replied 101 = .ok (.iconst 3, 1) := by decide +kernel
theorem dX10_replied_102 : decode cX10_replied 102 = .ok (.iaload, 1) := by decide +kernel
theorem dX10_replied_103 : decode cX10_replied 103 = .ok (.invokestatic 135, 3) := by decide +kernel
theorem dX10_replied_106 : decode cX10_replied 106 = .ok (.ifCond .eq 31, 3) := by decide +kernel
theorem dX10_replied_109 : decode cX10_replied 109 = .ok (.aload_n 0, 1) := by decide +kernel
theorem dX10_replied_110 : decode cX10_replied 110 = .ok (.getfield 112, 3) := by decide +kernel
theorem dX10_replied_113 : decode cX10_replied 113 = .ok (.iconst 2, 1) := by decide +kernel
theorem dX10_replied_114 : decode cX10_replied 114 = .ok (.iaload, 1) := by decide +kernel
theorem dX10_replied_115 : decode cX10_replied 115 = .ok (.aload_n 0, 1) := by decide +kernel
theorem dX10_replied_116 : decode cX10_replied 116 = .ok (.getfield 91, 3) := by decide +kernel
theorem dX10_replied_119 : decode cX10_replied 119 = .ok (.iload_n 2, 1) := by decide +kernel
theorem dX10_replied_120 : decode cX10_replied 120 = .ok (.iaload, 1) := by decide +kernel
theorem dX10_replied_121 : decode cX10_replied 121 = .ok (.aload_n 0, 1) := by decide +kernel
theorem dX10_replied_122 : decode cX10_replied 122 = .ok (.getfield 112, 3) := by decide +kernel
theorem dX10_replied_125 : decode cX10_replied 125 = .ok (.iconst 3, 1) := by decide +kernel
theorem dX10_replied_126 : decode cX10_replied 126 = .ok (.iaload, 1) := by decide +kernel
theorem dX10_replied_127 : decode cX10_replied 127 = .ok (.invokestatic 124, 3) := by decide +kernel
theorem dX10_replied_130 : decode cX10_replied 130 = .ok (.ifCond .eq 7, 3) := by decide +kernel
theorem dX10_replied_133 : decode cX10_replied 133 = .ok (.iconst 1, 1) := by decide +kernel
theorem dX10_replied_134 : decode cX10_replied 134 = .ok (.goto 4, 3) := by decide +kernel
theorem dX10_replied_137 : decode cX10_replied 137 = .ok (.iconst 0, 1) := by decide +kernel
theorem dX10_replied_138 : decode cX10_replied 138 = .ok (.istore 4, 2) := by decide +kernel
theorem dX10_replied_140 : decode cX10_replied 140 = .ok (.iload 4, 2) := by decide +kernel
theorem dX10_replied_142 : decode cX10_replied 142 = .ok (.ifCond .eq 49, 3) := by decide +kernel
theorem dX10_replied_145 : decode cX10_replied 145 = .ok (.iload_n 3, 1) := by decide +kernel
theorem dX10_replied_146 : decode cX10_replied 146 = .ok (.ifCond .ne 21, 3) := by decide +kernel
theorem dX10_replied_149 : decode cX10_replied 149 = .ok (.aload_n 0, 1) := by decide +kernel
theorem dX10_replied_150 : decode cX10_replied 150 = .ok (.getfield 112, 3) := by decide +kernel
theorem dX10_replied_153 : decode cX10_replied 153 = .ok (.iconst 4, 1) := by decide +kernel
theorem dX10_replied_154 : decode cX10_replied 154 = .ok (.iaload, 1) := by decide +kernel
theorem dX10_replied_155 : decode cX10_replied 155 = .ok (.iconst 0, 1) := by decide +kernel
theorem dX10_replied_156 : decode cX10_replied 156 = .ok (.bipush 7, 2) := by decide +kernel
theorem dX10_replied_158 : decode cX10_replied 158 = .ok (.invokestatic 120, 3) := by decide +kernel
theorem dX10_replied_161 : decode cX10_replied 161 = .ok (.ifCond .eq 30, 3) := by decide +kernel
theorem dX10_replied_164 : decode cX10_replied 164 = .ok (.goto 23, 3) := by decide +kernel
theorem dX10_replied_167 : decode cX10_replied 167 = .ok (.iload_n 3, 1) := by decide +kernel
theorem dX10_replied_168 : decode cX10_replied 168 = .ok (.iconst 2, 1) := by decide +kernel
theorem dX10_replied_169 : decode cX10_replied 169 = .ok (.if_icmp .eq 18, 3) := by decide +kernel
theorem dX10_replied_172 : decode cX10_replied 172 = .ok (.aload_n 0, 1) := by decide +kernel
theorem dX10_replied_173 : decode cX10_replied 173 = .ok (.getfield 112, 3) := by decide +kernel
theorem dX10_replied_176 : decode cX10_replied 176 = .ok (.iconst 4, 1) := by decide +kernel
theorem dX10_replied_177 : decode cX10_replied 177 = .ok (.iaload, 1) := by decide +kernel
theorem dX10_replied_178 : decode cX10_replied 178 = .ok (.iconst 0, 1) := by decide +kernel
theorem dX10_replied_179 : decode cX10_replied 179 = .ok (.bipush 15, 2) := by decide +kernel
theorem dX10_replied_181 : decode cX10_replied 181 = .ok (.invokestatic 120, 3) := by decide +kernel
theorem dX10_replied_184 : decode cX10_replied 184 = .ok (.ifCond .eq 7, 3) := by decide +kernel
theorem dX10_replied_187 : decode cX10_replied 187 = .ok (.iconst 1, 1) := by decide +kernel
theorem dX10_replied_188 : decode cX10_replied 188 = .ok (.goto 4, 3) := by decide +kernel
theorem dX10_replied_191 : decode cX10_replied 191 = .ok (.iconst 0, 1) := by decide +kernel
theorem dX10_replied_192 : decode cX10_replied 192 = .ok (.istore 4, 2) := by decide +kernel
theorem dX10_replied_194 : decode cX10_replied 194 = .ok (.iload 4, 2) := by decide +kernel
theorem dX10_replied_196 : decode cX10_replied 196 = .ok (.ifCond .ne 16, 3) := by decide +kernel
theorem dX10_replied_199 : decode cX10_replied 199 = .ok (.aload_n 0, 1) := by decide +kernel
theorem dX10_replied_200 : decode cX10_replied 200 = .ok (.dup, 1) := by decide +kernel
theorem dX10_replied_201 : decode cX10_replied 201 = .ok (.getfield 246, 3) := by decide +kernel
theorem dX10_replied_204 : decode cX10_replied 204 = .ok (.iconst 1, 1) := by decide +kernel
theorem dX10_replied_205 : decode cX10_replied 205 = .ok (.iadd, 1) := by decide +kernel
theorem dX10_replied_206 : decode cX10_replied 206 = .ok (.putfield 246, 3) := by decide +kernel
theorem dX10_replied_209 : decode cX10_replied 209 = .ok (.goto 119, 3) := by decide +kernel
theorem dX10_replied_212 : decode cX10_replied 212 = .ok (.iload_n 3, 1) := by decide +kernel
theorem dX10_replied_213 : decode cX10_replied 213 = .ok (.ifCond .ne 48, 3) := by decide +kernel
theorem dX10_replied_216 : decode cX10_replied 216 = .ok (.aload_n 0, 1) := by decide +kernel
theorem dX10_replied_217 : decode cX10_replied 217 = .ok (.getfield 103, 3) := by decide +kernel
theorem dX10_replied_220 : decode cX10_replied 220 = .ok (.iload_n 2, 1) := by decide +kernel
theorem dX10_replied_221 : decode cX10_replied 221 = .ok (.dup2, 1) := by decide +kernel
theorem dX10_replied_222 : decode cX10_replied 222 = .ok (.iaload, 1) := by decide +kernel
theorem dX10_replied_223 : decode cX10_replied 223 = .ok (.iconst 1, 1) := by decide +kernel
theorem dX10_replied_224 : decode cX10_replied 224 = .ok (.iadd, 1) := by decide +kernel
theorem dX10_replied_225 : decode cX10_replied 225 = .ok (.iastore, 1) := by decide +kernel
theorem dX10_replied_226 : decode cX10_replied 226 = .ok (.aload_n 0, 1) := by decide +kernel
theorem dX10_replied_227 : decode cX10_replied 227 = .ok (.getfield 103, 3) := by decide +kernel
theorem dX10_replied_230 : decode cX10_replied 230 = .ok (.iload_n 2, 1) := by decide +kernel
theorem dX10_replied_231 : decode cX10_replied 231 = .ok (.iaload, 1) := by decide +kernel
theorem dX10_replied_232 : decode cX10_replied 232 = .ok (.bipush 9, 2) := by decide +kernel
theorem dX10_replied_234 : decode cX10_replied 234 = .ok (.if_icmp .ne 13, 3) := by decide +kernel
theorem dX10_replied_237 : decode cX10_replied 237 = .ok (.aload_n 0, 1) := by decide +kernel
theorem dX10_replied_238 : decode cX10_replied 238 = .ok (.getfield 94, 3) := by decide +kernel
theorem dX10_replied_241 : decode cX10_replied 241 = .ok (.iload_n 2, 1) := by decide +kernel
theorem dX10_replied_242 : decode cX10_replied 242 = .ok (.iconst 3, 1) := by decide +kernel
theorem dX10_replied_243 : decode cX10_replied 243 = .ok (.iastore, 1) := by decide +kernel
theorem dX10_replied_244 : decode cX10_replied 244 = .ok (.goto 84, 3) := by decide +kernel
theorem dX10_replied_247 : decode cX10_replied 247 = .ok (.aload_n 0, 1) := by decide +kernel
theorem dX10_replied_248 : decode cX10_replied 248 = .ok (.iload_n 2, 1) := by decide +kernel
theorem dX10_replied_249 : decode cX10_replied 249 = .ok (.aload_n 0, 1) := by decide +kernel
theorem dX10_replied_250 : decode cX10_replied 250 = .ok (.getfield 112, 3) := by decide +kernel
theorem dX10_replied_253 : decode cX10_replied 253 = .ok (.iconst 4, 1) := by decide +kernel
theorem dX10_replied_254 : decode cX10_replied 254 = .ok (.iaload, 1) := by decide +kernel
theorem dX10_replied_255 : decode cX10_replied 255 = .ok (.invokevirtual 243, 3) := by decide +kernel
theorem dX10_replied_258 : decode cX10_replied 258 = .ok (.goto 70, 3) := by decide +kernel
theorem dX10_replied_261 : decode cX10_replied 261 = .ok (.aload_n 0, 1) := by decide +kernel
theorem dX10_replied_262 : decode cX10_replied 262 = .ok (.iload_n 1, 1) := by decide +kernel
theorem dX10_replied_263 : decode cX10_replied 263 = .ok (.aload_n 0, 1) := by decide +kernel
theorem dX10_replied_264 : decode cX10_replied 264 = .ok (.getfield 112, 3) := by decide +kernel
theorem dX10_replied_267 : decode cX10_replied 267 = .ok (.iconst 2, 1) := by decide +kernel
theorem dX10_replied_268 : decode cX10_replied 268 = .ok (.iaload, 1) := by decide +kernel
theorem dX10_replied_269 : decode cX10_replied 269 = .ok (.aload_n 0, 1) := by decide +kernel
theorem dX10_replied_270 : decode cX10_replied 270 = .ok (.getfield 112, 3) := by decide +kernel
theorem dX10_replied_273 : decode cX10_replied 273 = .ok (.iconst 3, 1) := by decide +kernel
theorem dX10_replied_274 : decode cX10_replied 274 = .ok (.iaload, 1) := by decide +kernel
theorem dX10_replied_275 : decode cX10_replied 275 = .ok (.iload_n 3, 1) := by decide +kernel
theorem dX10_replied_276 : decode cX10_replied 276 = .ok (.iconst 2, 1) := by decide +kernel
theorem dX10_replied_277 : decode cX10_replied 277 = .ok (.if_icmp .ne 7, 3) := by decide +kernel
theorem dX10_replied_280 : decode cX10_replied 280 = .ok (.iconst (-1), 1) := by decide +kernel
theorem dX10_replied_281 : decode cX10_replied 281 = .ok (.goto 9, 3) := by decide +kernel
theorem dX10_replied_284 : decode cX10_replied 284 = .ok (.aload_n 0, 1) := by decide +kernel
theorem dX10_replied_285 : decode cX10_replied 285 = .ok (.getfield 112, 3) := by decide +kernel
theorem dX10_replied_288 : decode cX10_replied 288 = .ok (.iconst 4, 1) := by decide +kernel
theorem dX10_replied_289 : decode cX10_replied 289 = .ok (.iaload, 1) := by decide +kernel
theorem dX10_replied_290 : decode cX10_replied 290 = .ok (.iload_n 3, 1) := by decide +kernel
theorem dX10_replied_291 : decode cX10_replied 291 = .ok (.iconst 2, 1) := by decide +kernel
theorem dX10_replied_292 : decode cX10_replied 292 = .ok (.if_icmp .ne 7, 3) := by decide +kernel
theorem dX10_replied_295 : decode cX10_replied 295 = .ok (.iconst 0, 1) := by decide +kernel
theorem dX10_replied_296 : decode cX10_replied 296 = .ok (.goto 9, 3) := by decide +kernel
theorem dX10_replied_299 : decode cX10_replied 299 = .ok (.aload_n 0, 1) := by decide +kernel
theorem dX10_replied_300 : decode cX10_replied 300 = .ok (.getfield 112, 3) := by decide +kernel
theorem dX10_replied_303 : decode cX10_replied 303 = .ok (.iconst 5, 1) := by decide +kernel
theorem dX10_replied_304 : decode cX10_replied 304 = .ok (.iaload, 1) := by decide +kernel
theorem dX10_replied_305 : decode cX10_replied 305 = .ok (.invokevirtual 249, 3) := by decide +kernel
theorem dX10_replied_308 : decode cX10_replied 308 = .ok (.aload_n 0, 1) := by decide +kernel
theorem dX10_replied_309 : decode cX10_replied 309 = .ok (.iload_n 2, 1) := by decide +kernel
theorem dX10_replied_310 : decode cX10_replied 310 = .ok (.iload_n 3, 1) := by decide +kernel
theorem dX10_replied_311 : decode cX10_replied 311 = .ok (.iconst 2, 1) := by decide +kernel
theorem dX10_replied_312 : decode cX10_replied 312 = .ok (.if_icmp .ne 7, 3) := by decide +kernel
theorem dX10_replied_315 : decode cX10_replied 315 = .ok (.iconst (-1), 1) := by decide +kernel
theorem dX10_replied_316 : decode cX10_replied 316 = .ok (.goto 9, 3) := by decide +kernel
theorem dX10_replied_319 : decode cX10_replied 319 = .ok (.aload_n 0, 1) := by decide +kernel
theorem dX10_replied_320 : decode cX10_replied 320 = .ok (.getfield 112, 3) := by decide +kernel
theorem dX10_replied_323 : decode cX10_replied 323 = .ok (.iconst 4, 1) := by decide +kernel
theorem dX10_replied_324 : decode cX10_replied 324 = .ok (.iaload, 1) := by decide +kernel
theorem dX10_replied_325 : decode cX10_replied 325 = .ok (.invokevirtual 240, 3) := by decide +kernel
theorem dX10_replied_328 : decode cX10_replied 328 = .ok (.return_, 1) := by decide +kernel
def j_X10_replied_305 (σ : HS) (l0 : Option Nat) (l2 : Int32) (l3 : Int32) (t0 : Int32) (t1 : Int32) (t2 : Int32) (t3 : Int32) (t4 : Int32) (t5 : Option Nat) : Option (Unit × HS) :=
  h_b1 (h_rcv σ t5 11) fun y43 =>
  h_bd (f_X10_makeNote σ t5 t4 t3 t2 t1 t0) fun _ s41 =>
  if l3 = 2 then
    h_b1 (h_rcv s41 l0 11) fun y58 =>
    h_bd (f_X10_follow s41 l0 l2 (-1)) fun _ s56 =>
    some ((), s56)
  else
    h_b1 (h_gR s41 l0 11 38) fun x46 =>
    h_b1 (h_aI s41 x46 100 4) fun x48 =>
    h_b1 (h_rcv s41 l0 11) fun y53 =>
    h_bd (f_X10_follow s41 l0 l2 x48) fun _ s51 =>
    some ((), s51)
def j_X10_replied_290 (σ : HS) (l0 : Option Nat) (l2 : Int32) (l3 : Int32) (t0 : Int32) (t1 : Int32) (t2 : Int32) (t3 : Int32) (t4 : Option Nat) : Option (Unit × HS) :=
  if l3 = 2 then
    j_X10_replied_305 σ l0 l2 l3 0 t0 t1 t2 t3 t4
  else
    h_b1 (h_gR σ l0 11 38) fun x36 =>
    h_b1 (h_aI σ x36 100 5) fun x38 =>
    j_X10_replied_305 σ l0 l2 l3 x38 t0 t1 t2 t3 t4
def j_X10_replied_192 (σ : HS) (l0 : Option Nat) (l1 : Int32) (l2 : Int32) (l3 : Int32) (t0 : Int32) : Option (Unit × HS) :=
  if t0 = 0 then
    h_b1 (h_gI σ l0 11 40) fun x84 =>
    h_b1 (h_pI σ l0 11 40 (x84 + 1)) fun s86 =>
    some ((), s86)
  else
    if l3 = 0 then
      h_b1 (h_gR σ l0 11 34) fun x60 =>
      h_b1 (h_aI σ x60 100 l2) fun x62 =>
      h_b1 (h_sI σ x60 100 l2 (x62 + 1)) fun s64 =>
      h_b1 (h_gR s64 l0 11 34) fun x66 =>
      h_b1 (h_aI s64 x66 100 l2) fun x68 =>
      if x68 = 9 then
        h_b1 (h_gR s64 l0 11 31) fun x80 =>
        h_b1 (h_sI s64 x80 100 l2 3) fun s82 =>
        some ((), s82)
      else
        h_b1 (h_gR s64 l0 11 38) fun x71 =>
        h_b1 (h_aI s64 x71 100 4) fun x73 =>
        h_b1 (h_rcv s64 l0 11) fun y78 =>
        h_bd (f_X10_ask s64 l0 l2 x73) fun _ s76 =>
        some ((), s76)
    else
      h_b1 (h_gR σ l0 11 38) fun x22 =>
      h_b1 (h_aI σ x22 100 2) fun x24 =>
      h_b1 (h_gR σ l0 11 38) fun x26 =>
      h_b1 (h_aI σ x26 100 3) fun x28 =>
      if l3 = 2 then
        j_X10_replied_290 σ l0 l2 l3 (-1) x28 x24 l1 l0
      else
        h_b1 (h_gR σ l0 11 38) fun x31 =>
        h_b1 (h_aI σ x31 100 4) fun x33 =>
        j_X10_replied_290 σ l0 l2 l3 x33 x28 x24 l1 l0
def j_X10_replied_191 (σ : HS) (l0 : Option Nat) (l1 : Int32) (l2 : Int32) (l3 : Int32) : Option (Unit × HS) :=
  j_X10_replied_192 σ l0 l1 l2 l3 0
def j_X10_replied_187 (σ : HS) (l0 : Option Nat) (l1 : Int32) (l2 : Int32) (l3 : Int32) : Option (Unit × HS) :=
  j_X10_replied_192 σ l0 l1 l2 l3 1
def j_X10_replied_138 (σ : HS) (l0 : Option Nat) (l1 : Int32) (l2 : Int32) (l3 : Int32) (t0 : Int32) : Option (Unit × HS) :=
  if t0 = 0 then
    j_X10_replied_191 σ l0 l1 l2 l3 
  else
    if l3 = 0 then
      h_b1 (h_gR σ l0 11 38) fun x98 =>
      h_b1 (h_aI σ x98 100 4) fun x100 =>
      h_bd (f_X10_in σ x100 0 7) fun r102 s103 =>
      if r102 = 0 then
        j_X10_replied_191 s103 l0 l1 l2 l3 
      else
        j_X10_replied_187 s103 l0 l1 l2 l3 
    else
      if l3 = 2 then
        j_X10_replied_187 σ l0 l1 l2 l3 
      else
        h_b1 (h_gR σ l0 11 38) fun x90 =>
        h_b1 (h_aI σ x90 100 4) fun x92 =>
        h_bd (f_X10_in σ x92 0 15) fun r94 s95 =>
        if r94 = 0 then
          j_X10_replied_191 s95 l0 l1 l2 l3 
        else
          j_X10_replied_187 s95 l0 l1 l2 l3 
def j_X10_replied_137 (σ : HS) (l0 : Option Nat) (l1 : Int32) (l2 : Int32) (l3 : Int32) : Option (Unit × HS) :=
  j_X10_replied_138 σ l0 l1 l2 l3 0
def g_X10_replied_21 : Nat → HS → Option Nat → Int32 → Int32 → Int32 → Option (Unit × HS)
  | 0, _, _, _, _, _ => none
  | n + 1, σ, l0, l1, l2, l3 =>
    h_b1 (h_gI σ l0 11 28) fun x11 =>
    if x11 < l3 then
      h_b1 (h_gR σ l0 11 38) fun x14 =>
      h_b1 (h_aI σ x14 100 1) fun x16 =>
      if l2 ≤ 0 then
        j_X10_replied_137 σ l0 l1 l2 x16 
      else
        h_bd (f_X10_in σ x16 0 2) fun r106 s107 =>
        if r106 = 0 then
          j_X10_replied_137 s107 l0 l1 l2 x16 
        else
          h_b1 (h_gR s107 l0 11 38) fun x110 =>
          h_b1 (h_aI s107 x110 100 2) fun x112 =>
          h_b1 (h_gR s107 l0 11 38) fun x114 =>
          h_b1 (h_aI s107 x114 100 3) fun x116 =>
          h_bd (f_X10_isPrefix s107 x112 x116) fun r118 s119 =>
          if r118 = 0 then
            j_X10_replied_137 s119 l0 l1 l2 x16 
          else
            h_b1 (h_gR s119 l0 11 38) fun x122 =>
            h_b1 (h_aI s119 x122 100 2) fun x124 =>
            h_b1 (h_gR s119 l0 11 30) fun x126 =>
            h_b1 (h_aI s119 x126 100 l2) fun x128 =>
            h_b1 (h_gR s119 l0 11 38) fun x130 =>
            h_b1 (h_aI s119 x130 100 3) fun x132 =>
            h_bd (f_X10_begin s119 x124 x128 x132) fun r134 s135 =>
            if r134 = 0 then
              j_X10_replied_137 s135 l0 l1 l2 x16 
            else
              j_X10_replied_138 s135 l0 l1 l2 x16 1
    else
      h_b1 (h_gR σ l0 11 29) fun x138 =>
      h_b1 (h_aI σ x138 100 l3) fun x140 =>
      if x140 = l1 then
        h_b1 (h_gR σ l0 11 31) fun x143 =>
        h_b1 (h_aI σ x143 100 l3) fun x145 =>
        if x145 = 0 then
          h_b1 (h_gR σ l0 11 32) fun x148 =>
          h_b1 (h_aI σ x148 100 l3) fun x150 =>
          h_b1 (h_gR σ l0 11 38) fun x152 =>
          h_b1 (h_aI σ x152 100 0) fun x154 =>
          if x150 = x154 then
            g_X10_replied_21 n σ l0 l1 l3 (l3 + 1)
          else
            g_X10_replied_21 n σ l0 l1 l2 (l3 + 1)
        else
          g_X10_replied_21 n σ l0 l1 l2 (l3 + 1)
      else
        g_X10_replied_21 n σ l0 l1 l2 (l3 + 1)
def f_X10_replied (σ : HS) (a0 : Option Nat) : Option (Unit × HS) :=
  h_b1 (h_gR σ a0 11 38) fun x1 =>
  h_b1 (h_aI σ x1 100 7) fun x3 =>
  h_b1 (h_rcv σ a0 11) fun y8 =>
  h_bd (f_X10_isSite σ a0 x3) fun r5 s6 =>
  if r5 = 0 then
    some ((), s6)
  else
    g_X10_replied_21 h_hN s6 a0 x3 0 1
set_option maxHeartbeats 4000000 in
set_option maxRecDepth 100000 in
theorem jw_X10_replied_305 {p : Program} {l : Launch} {e : Env} {R : Room} {s : State} {m : MethodId} {args : Array Value} {below : List Frame} {meth : Method} {c : Code} {D : va_G} {dA : Nat → ClassId} {bs : Nat} (C : h_C p m c cX10_replied 5 s args RX10 D dA) {σ0 : HS} (B : h_B R s meth σ0 none 3 74) {σ' : HS} : ∀ (σ : HS) (l0 : Option Nat) (l2 : Int32) (l3 : Int32) (t0 : Int32) (t1 : Int32) (t2 : Int32) (t3 : Int32) (t4 : Int32) (t5 : Option Nat), j_X10_replied_305 σ l0 l2 l3 t0 t1 t2 t3 t4 t5 = some ((), σ') → V p l e R s m args below meth c D dA bs 5 (MQ below (h_Q D dA bs none σ0 σ') args s R.cells R.slots (fun q => bs ≤ q)) σ 305 [(0, va_rf l0), (2, .int l2), (3, .int l3)] [.int t0, .int t1, .int t2, .int t3, .int t4, va_rf t5] := by
  intro σ l0 l2 l3 t0 t1 t2 t3 t4 t5 h
  unfold j_X10_replied_305 at h
  obtain ⟨y43, e44, h⟩ := h_b1_some h
  obtain ⟨r40, s41, e42, h⟩ := h_bd_some h
  refine V_cV (As := [.int t4, .int t3, .int t2, .int t1, .int t0]) (rest := []) C mv_RX10_249 (m_X10_makeNote l D dA bs e42) e44 rfl rfl (Nat.le_trans h_w0 (by decide)) (h_fr B (by decide)) (h_lo B (by decide)) dX10_replied_305 ?_
  refine V_aload_n C 0 dX10_replied_308 rfl rfl ?_
  refine V_iload_n C 1 dX10_replied_309 rfl rfl ?_
  refine V_iload_n C 2 dX10_replied_310 rfl rfl ?_
  refine V_iconst (v := 2) C dX10_replied_311 (by decide) ?_
  refine V_icmp_ne (tgt := 319) C dX10_replied_312 (by decide) (fun c45 => ?_) (fun c45 => ?_)
  · rw [if_neg c45] at h
    refine V_aload_n C 0 dX10_replied_319 rfl rfl ?_
    obtain ⟨x46, e47, h⟩ := h_b1_some h
    refine V_getR C fl_RX10_112 dX10_replied_320 e47 ?_
    refine V_iconst (v := 4) C dX10_replied_323 (by decide) ?_
    obtain ⟨x48, e49, h⟩ := h_b1_some h
    refine V_iald C dX10_replied_324 e49 ?_
    obtain ⟨y53, e54, h⟩ := h_b1_some h
    obtain ⟨r50, s51, e52, h⟩ := h_bd_some h
    refine V_cV (As := [.int l2, .int x48]) (rest := []) C mv_RX10_240 (m_X10_follow l D dA bs e52) e54 rfl rfl (Nat.le_trans h_w0 (by decide)) (h_fr B (by decide)) (h_lo B (by decide)) dX10_replied_325 ?_
    cases h
    exact V_vret C B dX10_replied_328
  · rw [if_pos c45] at h
    refine V_iconst (v := (-1)) C dX10_replied_315 (by decide) ?_
    refine V_goto (tgt := 325) C dX10_replied_316 (by decide) ?_
    obtain ⟨y58, e59, h⟩ := h_b1_some h
    obtain ⟨r55, s56, e57, h⟩ := h_bd_some h
    refine V_cV (As := [.int l2, .int (-1)]) (rest := []) C mv_RX10_240 (m_X10_follow l D dA bs e57) e59 rfl rfl (Nat.le_trans h_w0 (by decide)) (h_fr B (by decide)) (h_lo B (by decide)) dX10_replied_325 ?_
    cases h
    exact V_vret C B dX10_replied_328
set_option maxHeartbeats 4000000 in
set_option maxRecDepth 100000 in
theorem jw_X10_replied_290 {p : Program} {l : Launch} {e : Env} {R : Room} {s : State} {m : MethodId} {args : Array Value} {below : List Frame} {meth : Method} {c : Code} {D : va_G} {dA : Nat → ClassId} {bs : Nat} (C : h_C p m c cX10_replied 5 s args RX10 D dA) {σ0 : HS} (B : h_B R s meth σ0 none 3 74) {σ' : HS} : ∀ (σ : HS) (l0 : Option Nat) (l2 : Int32) (l3 : Int32) (t0 : Int32) (t1 : Int32) (t2 : Int32) (t3 : Int32) (t4 : Option Nat), j_X10_replied_290 σ l0 l2 l3 t0 t1 t2 t3 t4 = some ((), σ') → V p l e R s m args below meth c D dA bs 5 (MQ below (h_Q D dA bs none σ0 σ') args s R.cells R.slots (fun q => bs ≤ q)) σ 290 [(0, va_rf l0), (2, .int l2), (3, .int l3)] [.int t0, .int t1, .int t2, .int t3, va_rf t4] := by
  intro σ l0 l2 l3 t0 t1 t2 t3 t4 h
  unfold j_X10_replied_290 at h
  refine V_iload_n C 2 dX10_replied_290 rfl rfl ?_
  refine V_iconst (v := 2) C dX10_replied_291 (by decide) ?_
  refine V_icmp_ne (tgt := 299) C dX10_replied_292 (by decide) (fun c35 => ?_) (fun c35 => ?_)
  · rw [if_neg c35] at h
    refine V_aload_n C 0 dX10_replied_299 rfl rfl ?_
    obtain ⟨x36, e37, h⟩ := h_b1_some h
    refine V_getR C fl_RX10_112 dX10_replied_300 e37 ?_
    refine V_iconst (v := 5) C dX10_replied_303 (by decide) ?_
    obtain ⟨x38, e39, h⟩ := h_b1_some h
    refine V_iald C dX10_replied_304 e39 ?_
    exact V_sub [0, 1, 2] rfl (jw_X10_replied_305 C B σ l0 l2 l3 x38 t0 t1 t2 t3 t4 h)
  · rw [if_pos c35] at h
    refine V_iconst (v := 0) C dX10_replied_295 (by decide) ?_
    refine V_goto (tgt := 305) C dX10_replied_296 (by decide) ?_
    exact V_sub [0, 1, 2] rfl (jw_X10_replied_305 C B σ l0 l2 l3 0 t0 t1 t2 t3 t4 h)
set_option maxHeartbeats 4000000 in
set_option maxRecDepth 100000 in
theorem jw_X10_replied_192 {p : Program} {l : Launch} {e : Env} {R : Room} {s : State} {m : MethodId} {args : Array Value} {below : List Frame} {meth : Method} {c : Code} {D : va_G} {dA : Nat → ClassId} {bs : Nat} (C : h_C p m c cX10_replied 5 s args RX10 D dA) {σ0 : HS} (B : h_B R s meth σ0 none 3 74) {σ' : HS} : ∀ (σ : HS) (l0 : Option Nat) (l1 : Int32) (l2 : Int32) (l3 : Int32) (t0 : Int32), j_X10_replied_192 σ l0 l1 l2 l3 t0 = some ((), σ') → V p l e R s m args below meth c D dA bs 5 (MQ below (h_Q D dA bs none σ0 σ') args s R.cells R.slots (fun q => bs ≤ q)) σ 192 [(0, va_rf l0), (1, .int l1), (2, .int l2), (3, .int l3)] [.int t0] := by
  intro σ l0 l1 l2 l3 t0 h
  unfold j_X10_replied_192 at h
  refine V_istore (lv' := [(4, .int t0), (0, va_rf l0), (1, .int l1), (2, .int l2), (3, .int l3)]) C dX10_replied_192 (by decide) rfl ?_
  refine V_iload C 0 dX10_replied_194 rfl ?_
  refine V_if_ne (tgt := 212) C dX10_replied_196 (by decide) (fun c20 => ?_) (fun c20 => ?_)
  · rw [if_neg c20] at h
    refine V_iload_n C 4 dX10_replied_212 rfl rfl ?_
    refine V_if_ne (tgt := 261) C dX10_replied_213 (by decide) (fun c21 => ?_) (fun c21 => ?_)
    · rw [if_neg c21] at h
      refine V_aload_n C 1 dX10_replied_261 rfl rfl ?_
      refine V_iload_n C 2 dX10_replied_262 rfl rfl ?_
      refine V_aload_n C 1 dX10_replied_263 rfl rfl ?_
      obtain ⟨x22, e23, h⟩ := h_b1_some h
      refine V_getR C fl_RX10_112 dX10_replied_264 e23 ?_
      refine V_iconst (v := 2) C dX10_replied_267 (by decide) ?_
      obtain ⟨x24, e25, h⟩ := h_b1_some h
      refine V_iald C dX10_replied_268 e25 ?_
      refine V_aload_n C 1 dX10_replied_269 rfl rfl ?_
      obtain ⟨x26, e27, h⟩ := h_b1_some h
      refine V_getR C fl_RX10_112 dX10_replied_270 e27 ?_
      refine V_iconst (v := 3) C dX10_replied_273 (by decide) ?_
      obtain ⟨x28, e29, h⟩ := h_b1_some h
      refine V_iald C dX10_replied_274 e29 ?_
      refine V_iload_n C 4 dX10_replied_275 rfl rfl ?_
      refine V_iconst (v := 2) C dX10_replied_276 (by decide) ?_
      refine V_icmp_ne (tgt := 284) C dX10_replied_277 (by decide) (fun c30 => ?_) (fun c30 => ?_)
      · rw [if_neg c30] at h
        refine V_aload_n C 1 dX10_replied_284 rfl rfl ?_
        obtain ⟨x31, e32, h⟩ := h_b1_some h
        refine V_getR C fl_RX10_112 dX10_replied_285 e32 ?_
        refine V_iconst (v := 4) C dX10_replied_288 (by decide) ?_
        obtain ⟨x33, e34, h⟩ := h_b1_some h
        refine V_iald C dX10_replied_289 e34 ?_
        exact V_sub [1, 3, 4] rfl (jw_X10_replied_290 C B σ l0 l2 l3 x33 x28 x24 l1 l0 h)
      · rw [if_pos c30] at h
        refine V_iconst (v := (-1)) C dX10_replied_280 (by decide) ?_
        refine V_goto (tgt := 290) C dX10_replied_281 (by decide) ?_
        exact V_sub [1, 3, 4] rfl (jw_X10_replied_290 C B σ l0 l2 l3 (-1) x28 x24 l1 l0 h)
    · rw [if_pos c21] at h
      refine V_aload_n C 1 dX10_replied_216 rfl rfl ?_
      obtain ⟨x60, e61, h⟩ := h_b1_some h
      refine V_getR C fl_RX10_103 dX10_replied_217 e61 ?_
      refine V_iload_n C 3 dX10_replied_220 rfl rfl ?_
      refine V_dup2IR C dX10_replied_221 ?_
      obtain ⟨x62, e63, h⟩ := h_b1_some h
      refine V_iald C dX10_replied_222 e63 ?_
      refine V_iconst (v := 1) C dX10_replied_223 (by decide) ?_
      refine V_iadd C dX10_replied_224 ?_
      obtain ⟨s64, e65, h⟩ := h_b1_some h
      refine V_iast C dX10_replied_225 e65 ?_
      refine V_aload_n C 1 dX10_replied_226 rfl rfl ?_
      obtain ⟨x66, e67, h⟩ := h_b1_some h
      refine V_getR C fl_RX10_103 dX10_replied_227 e67 ?_
      refine V_iload_n C 3 dX10_replied_230 rfl rfl ?_
      obtain ⟨x68, e69, h⟩ := h_b1_some h
      refine V_iald C dX10_replied_231 e69 ?_
      refine V_bipush (v := 9) C dX10_replied_232 (by decide) ?_
      refine V_icmp_ne (tgt := 247) C dX10_replied_234 (by decide) (fun c70 => ?_) (fun c70 => ?_)
      · rw [if_neg c70] at h
        refine V_aload_n C 1 dX10_replied_247 rfl rfl ?_
        refine V_iload_n C 3 dX10_replied_248 rfl rfl ?_
        refine V_aload_n C 1 dX10_replied_249 rfl rfl ?_
        obtain ⟨x71, e72, h⟩ := h_b1_some h
        refine V_getR C fl_RX10_112 dX10_replied_250 e72 ?_
        refine V_iconst (v := 4) C dX10_replied_253 (by decide) ?_
        obtain ⟨x73, e74, h⟩ := h_b1_some h
        refine V_iald C dX10_replied_254 e74 ?_
        obtain ⟨y78, e79, h⟩ := h_b1_some h
        obtain ⟨r75, s76, e77, h⟩ := h_bd_some h
        refine V_cV (As := [.int l2, .int x73]) (rest := []) C mv_RX10_243 (m_X10_ask l D dA bs e77) e79 rfl rfl (Nat.le_trans h_w0 (by decide)) (h_fr B (by decide)) (h_lo B (by decide)) dX10_replied_255 ?_
        refine V_goto (tgt := 328) C dX10_replied_258 (by decide) ?_
        cases h
        exact V_vret C B dX10_replied_328
      · rw [if_pos c70] at h
        refine V_aload_n C 1 dX10_replied_237 rfl rfl ?_
        obtain ⟨x80, e81, h⟩ := h_b1_some h
        refine V_getR C fl_RX10_94 dX10_replied_238 e81 ?_
        refine V_iload_n C 3 dX10_replied_241 rfl rfl ?_
        refine V_iconst (v := 3) C dX10_replied_242 (by decide) ?_
        obtain ⟨s82, e83, h⟩ := h_b1_some h
        refine V_iast C dX10_replied_243 e83 ?_
        refine V_goto (tgt := 328) C dX10_replied_244 (by decide) ?_
        cases h
        exact V_vret C B dX10_replied_328
  · rw [if_pos c20] at h
    refine V_aload_n C 1 dX10_replied_199 rfl rfl ?_
    refine V_dupR C dX10_replied_200 ?_
    obtain ⟨x84, e85, h⟩ := h_b1_some h
    refine V_getI C fl_RX10_246 dX10_replied_201 e85 ?_
    refine V_iconst (v := 1) C dX10_replied_204 (by decide) ?_
    refine V_iadd C dX10_replied_205 ?_
    obtain ⟨s86, e87, h⟩ := h_b1_some h
    refine V_putI C fw_RX10_246 dX10_replied_206 e87 ?_
    refine V_goto (tgt := 328) C dX10_replied_209 (by decide) ?_
    cases h
    exact V_vret C B dX10_replied_328
set_option maxHeartbeats 4000000 in
set_option maxRecDepth 100000 in
theorem jw_X10_replied_191 {p : Program} {l : Launch} {e : Env} {R : Room} {s : State} {m : MethodId} {args : Array Value} {below : List Frame} {meth : Method} {c : Code} {D : va_G} {dA : Nat → ClassId} {bs : Nat} (C : h_C p m c cX10_replied 5 s args RX10 D dA) {σ0 : HS} (B : h_B R s meth σ0 none 3 74) {σ' : HS} : ∀ (σ : HS) (l0 : Option Nat) (l1 : Int32) (l2 : Int32) (l3 : Int32), j_X10_replied_191 σ l0 l1 l2 l3 = some ((), σ') → V p l e R s m args below meth c D dA bs 5 (MQ below (h_Q D dA bs none σ0 σ') args s R.cells R.slots (fun q => bs ≤ q)) σ 191 [(0, va_rf l0), (1, .int l1), (2, .int l2), (3, .int l3)] [] := by
  intro σ l0 l1 l2 l3 h
  unfold j_X10_replied_191 at h
  refine V_iconst (v := 0) C dX10_replied_191 (by decide) ?_
  exact V_sub [0, 1, 2, 3] rfl (jw_X10_replied_192 C B σ l0 l1 l2 l3 0 h)
set_option maxHeartbeats 4000000 in
set_option maxRecDepth 100000 in
theorem jw_X10_replied_187 {p : Program} {l : Launch} {e : Env} {R : Room} {s : State} {m : MethodId} {args : Array Value} {below : List Frame} {meth : Method} {c : Code} {D : va_G} {dA : Nat → ClassId} {bs : Nat} (C : h_C p m c cX10_replied 5 s args RX10 D dA) {σ0 : HS} (B : h_B R s meth σ0 none 3 74) {σ' : HS} : ∀ (σ : HS) (l0 : Option Nat) (l1 : Int32) (l2 : Int32) (l3 : Int32), j_X10_replied_187 σ l0 l1 l2 l3 = some ((), σ') → V p l e R s m args below meth c D dA bs 5 (MQ below (h_Q D dA bs none σ0 σ') args s R.cells R.slots (fun q => bs ≤ q)) σ 187 [(0, va_rf l0), (1, .int l1), (2, .int l2), (3, .int l3)] [] := by
  intro σ l0 l1 l2 l3 h
  unfold j_X10_replied_187 at h
  refine V_iconst (v := 1) C dX10_replied_187 (by decide) ?_
  refine V_goto (tgt := 192) C dX10_replied_188 (by decide) ?_
  exact V_sub [0, 1, 2, 3] rfl (jw_X10_replied_192 C B σ l0 l1 l2 l3 1 h)
set_option maxHeartbeats 4000000 in
set_option maxRecDepth 100000 in
theorem jw_X10_replied_138 {p : Program} {l : Launch} {e : Env} {R : Room} {s : State} {m : MethodId} {args : Array Value} {below : List Frame} {meth : Method} {c : Code} {D : va_G} {dA : Nat → ClassId} {bs : Nat} (C : h_C p m c cX10_replied 5 s args RX10 D dA) {σ0 : HS} (B : h_B R s meth σ0 none 3 74) {σ' : HS} : ∀ (σ : HS) (l0 : Option Nat) (l1 : Int32) (l2 : Int32) (l3 : Int32) (t0 : Int32), j_X10_replied_138 σ l0 l1 l2 l3 t0 = some ((), σ') → V p l e R s m args below meth c D dA bs 5 (MQ below (h_Q D dA bs none σ0 σ') args s R.cells R.slots (fun q => bs ≤ q)) σ 138 [(0, va_rf l0), (1, .int l1), (2, .int l2), (3, .int l3)] [.int t0] := by
  intro σ l0 l1 l2 l3 t0 h
  unfold j_X10_replied_138 at h
  refine V_istore (lv' := [(4, .int t0), (0, va_rf l0), (1, .int l1), (2, .int l2), (3, .int l3)]) C dX10_replied_138 (by decide) rfl ?_
  refine V_iload C 0 dX10_replied_140 rfl ?_
  refine V_if_eq (tgt := 191) C dX10_replied_142 (by decide) (fun c19 => ?_) (fun c19 => ?_)
  · rw [if_pos c19] at h
    exact V_sub [1, 2, 3, 4] rfl (jw_X10_replied_191 C B σ l0 l1 l2 l3  h)
  · rw [if_neg c19] at h
    refine V_iload_n C 4 dX10_replied_145 rfl rfl ?_
    refine V_if_ne (tgt := 167) C dX10_replied_146 (by decide) (fun c88 => ?_) (fun c88 => ?_)
    · rw [if_neg c88] at h
      refine V_iload_n C 4 dX10_replied_167 rfl rfl ?_
      refine V_iconst (v := 2) C dX10_replied_168 (by decide) ?_
      refine V_icmp_eq (tgt := 187) C dX10_replied_169 (by decide) (fun c89 => ?_) (fun c89 => ?_)
      · rw [if_pos c89] at h
        exact V_sub [1, 2, 3, 4] rfl (jw_X10_replied_187 C B σ l0 l1 l2 l3  h)
      · rw [if_neg c89] at h
        refine V_aload_n C 1 dX10_replied_172 rfl rfl ?_
        obtain ⟨x90, e91, h⟩ := h_b1_some h
        refine V_getR C fl_RX10_112 dX10_replied_173 e91 ?_
        refine V_iconst (v := 4) C dX10_replied_176 (by decide) ?_
        obtain ⟨x92, e93, h⟩ := h_b1_some h
        refine V_iald C dX10_replied_177 e93 ?_
        refine V_iconst (v := 0) C dX10_replied_178 (by decide) ?_
        refine V_bipush (v := 15) C dX10_replied_179 (by decide) ?_
        obtain ⟨r94, s95, e96, h⟩ := h_bd_some h
        refine V_cS (As := [.int x92, .int 0, .int 15]) (rest := []) C ms_RX10_120 (m_X10_in l D dA bs e96) rfl rfl (Nat.le_trans h_w0 (by decide)) (h_fr B (by decide)) (h_lo B (by decide)) dX10_replied_181 ?_
        refine V_if_eq (tgt := 191) C dX10_replied_184 (by decide) (fun c97 => ?_) (fun c97 => ?_)
        · rw [if_pos c97] at h
          exact V_sub [1, 2, 3, 4] rfl (jw_X10_replied_191 C B s95 l0 l1 l2 l3  h)
        · rw [if_neg c97] at h
          exact V_sub [1, 2, 3, 4] rfl (jw_X10_replied_187 C B s95 l0 l1 l2 l3  h)
    · rw [if_pos c88] at h
      refine V_aload_n C 1 dX10_replied_149 rfl rfl ?_
      obtain ⟨x98, e99, h⟩ := h_b1_some h
      refine V_getR C fl_RX10_112 dX10_replied_150 e99 ?_
      refine V_iconst (v := 4) C dX10_replied_153 (by decide) ?_
      obtain ⟨x100, e101, h⟩ := h_b1_some h
      refine V_iald C dX10_replied_154 e101 ?_
      refine V_iconst (v := 0) C dX10_replied_155 (by decide) ?_
      refine V_bipush (v := 7) C dX10_replied_156 (by decide) ?_
      obtain ⟨r102, s103, e104, h⟩ := h_bd_some h
      refine V_cS (As := [.int x100, .int 0, .int 7]) (rest := []) C ms_RX10_120 (m_X10_in l D dA bs e104) rfl rfl (Nat.le_trans h_w0 (by decide)) (h_fr B (by decide)) (h_lo B (by decide)) dX10_replied_158 ?_
      refine V_if_eq (tgt := 191) C dX10_replied_161 (by decide) (fun c105 => ?_) (fun c105 => ?_)
      · rw [if_pos c105] at h
        exact V_sub [1, 2, 3, 4] rfl (jw_X10_replied_191 C B s103 l0 l1 l2 l3  h)
      · rw [if_neg c105] at h
        refine V_goto (tgt := 187) C dX10_replied_164 (by decide) ?_
        exact V_sub [1, 2, 3, 4] rfl (jw_X10_replied_187 C B s103 l0 l1 l2 l3  h)
set_option maxHeartbeats 4000000 in
set_option maxRecDepth 100000 in
theorem jw_X10_replied_137 {p : Program} {l : Launch} {e : Env} {R : Room} {s : State} {m : MethodId} {args : Array Value} {below : List Frame} {meth : Method} {c : Code} {D : va_G} {dA : Nat → ClassId} {bs : Nat} (C : h_C p m c cX10_replied 5 s args RX10 D dA) {σ0 : HS} (B : h_B R s meth σ0 none 3 74) {σ' : HS} : ∀ (σ : HS) (l0 : Option Nat) (l1 : Int32) (l2 : Int32) (l3 : Int32), j_X10_replied_137 σ l0 l1 l2 l3 = some ((), σ') → V p l e R s m args below meth c D dA bs 5 (MQ below (h_Q D dA bs none σ0 σ') args s R.cells R.slots (fun q => bs ≤ q)) σ 137 [(0, va_rf l0), (1, .int l1), (2, .int l2), (3, .int l3)] [] := by
  intro σ l0 l1 l2 l3 h
  unfold j_X10_replied_137 at h
  refine V_iconst (v := 0) C dX10_replied_137 (by decide) ?_
  exact V_sub [0, 1, 2, 3] rfl (jw_X10_replied_138 C B σ l0 l1 l2 l3 0 h)
set_option maxHeartbeats 4000000 in
set_option maxRecDepth 100000 in
theorem w_X10_replied_21 {p : Program} {l : Launch} {e : Env} {R : Room} {s : State} {m : MethodId} {args : Array Value} {below : List Frame} {meth : Method} {c : Code} {D : va_G} {dA : Nat → ClassId} {bs : Nat} (C : h_C p m c cX10_replied 5 s args RX10 D dA) {σ0 : HS} (B : h_B R s meth σ0 none 3 74) {σ' : HS} : ∀ (n : Nat) (σ : HS) (l0 : Option Nat) (l1 : Int32) (l2 : Int32) (l3 : Int32), g_X10_replied_21 n σ l0 l1 l2 l3 = some ((), σ') → V p l e R s m args below meth c D dA bs 5 (MQ below (h_Q D dA bs none σ0 σ') args s R.cells R.slots (fun q => bs ≤ q)) σ 21 [(0, va_rf l0), (1, .int l1), (2, .int l2), (3, .int l3)] [] := by
  intro n
  induction n with
  | zero =>
    intro σ l0 l1 l2 l3 h
    rw [g_X10_replied_21] at h
    cases h
  | succ n ih =>
    intro σ l0 l1 l2 l3 h
    rw [g_X10_replied_21] at h
    refine V_iload_n C 3 dX10_replied_21 rfl rfl ?_
    refine V_aload_n C 0 dX10_replied_22 rfl rfl ?_
    obtain ⟨x11, e12, h⟩ := h_b1_some h
    refine V_getI C fl_RX10_231 dX10_replied_23 e12 ?_
    refine V_icmp_gt (tgt := 71) C dX10_replied_26 (by decide) (fun c13 => ?_) (fun c13 => ?_)
    · rw [if_pos c13] at h
      refine V_aload_n C 0 dX10_replied_71 rfl rfl ?_
      obtain ⟨x14, e15, h⟩ := h_b1_some h
      refine V_getR C fl_RX10_112 dX10_replied_72 e15 ?_
      refine V_iconst (v := 1) C dX10_replied_75 (by decide) ?_
      obtain ⟨x16, e17, h⟩ := h_b1_some h
      refine V_iald C dX10_replied_76 e17 ?_
      refine V_istore_n (lv' := [(3, .int x16), (0, va_rf l0), (1, .int l1), (2, .int l2)]) C dX10_replied_77 rfl (by decide) rfl ?_
      refine V_iload_n C 3 dX10_replied_78 rfl rfl ?_
      refine V_if_le (tgt := 137) C dX10_replied_79 (by decide) (fun c18 => ?_) (fun c18 => ?_)
      · rw [if_pos c18] at h
        exact V_sub [1, 2, 3, 0] rfl (jw_X10_replied_137 C B σ l0 l1 l2 x16  h)
      · rw [if_neg c18] at h
        refine V_iload_n C 0 dX10_replied_82 rfl rfl ?_
        refine V_iconst (v := 0) C dX10_replied_83 (by decide) ?_
        refine V_iconst (v := 2) C dX10_replied_84 (by decide) ?_
        obtain ⟨r106, s107, e108, h⟩ := h_bd_some h
        refine V_cS (As := [.int x16, .int 0, .int 2]) (rest := []) C ms_RX10_120 (m_X10_in l D dA bs e108) rfl rfl (Nat.le_trans h_w0 (by decide)) (h_fr B (by decide)) (h_lo B (by decide)) dX10_replied_85 ?_
        refine V_if_eq (tgt := 137) C dX10_replied_88 (by decide) (fun c109 => ?_) (fun c109 => ?_)
        · rw [if_pos c109] at h
          exact V_sub [1, 2, 3, 0] rfl (jw_X10_replied_137 C B s107 l0 l1 l2 x16  h)
        · rw [if_neg c109] at h
          refine V_aload_n C 1 dX10_replied_91 rfl rfl ?_
          obtain ⟨x110, e111, h⟩ := h_b1_some h
          refine V_getR C fl_RX10_112 dX10_replied_92 e111 ?_
          refine V_iconst (v := 2) C dX10_replied_95 (by decide) ?_
          obtain ⟨x112, e113, h⟩ := h_b1_some h
          refine V_iald C dX10_replied_96 e113 ?_
          refine V_aload_n C 1 dX10_replied_97 rfl rfl ?_
          obtain ⟨x114, e115, h⟩ := h_b1_some h
          refine V_getR C fl_RX10_112 dX10_replied_98 e115 ?_
          refine V_iconst (v := 3) C dX10_replied_101 (by decide) ?_
          obtain ⟨x116, e117, h⟩ := h_b1_some h
          refine V_iald C dX10_replied_102 e117 ?_
          obtain ⟨r118, s119, e120, h⟩ := h_bd_some h
          refine V_cS (As := [.int x112, .int x116]) (rest := []) C ms_RX10_135 (m_X10_isPrefix l D dA bs e120) rfl rfl (Nat.le_trans h_w0 (by decide)) (h_fr B (by decide)) (h_lo B (by decide)) dX10_replied_103 ?_
          refine V_if_eq (tgt := 137) C dX10_replied_106 (by decide) (fun c121 => ?_) (fun c121 => ?_)
          · rw [if_pos c121] at h
            exact V_sub [1, 2, 3, 0] rfl (jw_X10_replied_137 C B s119 l0 l1 l2 x16  h)
          · rw [if_neg c121] at h
            refine V_aload_n C 1 dX10_replied_109 rfl rfl ?_
            obtain ⟨x122, e123, h⟩ := h_b1_some h
            refine V_getR C fl_RX10_112 dX10_replied_110 e123 ?_
            refine V_iconst (v := 2) C dX10_replied_113 (by decide) ?_
            obtain ⟨x124, e125, h⟩ := h_b1_some h
            refine V_iald C dX10_replied_114 e125 ?_
            refine V_aload_n C 1 dX10_replied_115 rfl rfl ?_
            obtain ⟨x126, e127, h⟩ := h_b1_some h
            refine V_getR C fl_RX10_91 dX10_replied_116 e127 ?_
            refine V_iload_n C 3 dX10_replied_119 rfl rfl ?_
            obtain ⟨x128, e129, h⟩ := h_b1_some h
            refine V_iald C dX10_replied_120 e129 ?_
            refine V_aload_n C 1 dX10_replied_121 rfl rfl ?_
            obtain ⟨x130, e131, h⟩ := h_b1_some h
            refine V_getR C fl_RX10_112 dX10_replied_122 e131 ?_
            refine V_iconst (v := 3) C dX10_replied_125 (by decide) ?_
            obtain ⟨x132, e133, h⟩ := h_b1_some h
            refine V_iald C dX10_replied_126 e133 ?_
            obtain ⟨r134, s135, e136, h⟩ := h_bd_some h
            refine V_cS (As := [.int x124, .int x128, .int x132]) (rest := []) C ms_RX10_124 (m_X10_begin l D dA bs e136) rfl rfl (Nat.le_trans h_w0 (by decide)) (h_fr B (by decide)) (h_lo B (by decide)) dX10_replied_127 ?_
            refine V_if_eq (tgt := 137) C dX10_replied_130 (by decide) (fun c137 => ?_) (fun c137 => ?_)
            · rw [if_pos c137] at h
              exact V_sub [1, 2, 3, 0] rfl (jw_X10_replied_137 C B s135 l0 l1 l2 x16  h)
            · rw [if_neg c137] at h
              refine V_iconst (v := 1) C dX10_replied_133 (by decide) ?_
              refine V_goto (tgt := 138) C dX10_replied_134 (by decide) ?_
              exact V_sub [1, 2, 3, 0] rfl (jw_X10_replied_138 C B s135 l0 l1 l2 x16 1 h)
    · rw [if_neg c13] at h
      refine V_aload_n C 0 dX10_replied_29 rfl rfl ?_
      obtain ⟨x138, e139, h⟩ := h_b1_some h
      refine V_getR C fl_RX10_88 dX10_replied_30 e139 ?_
      refine V_iload_n C 3 dX10_replied_33 rfl rfl ?_
      obtain ⟨x140, e141, h⟩ := h_b1_some h
      refine V_iald C dX10_replied_34 e141 ?_
      refine V_iload_n C 1 dX10_replied_35 rfl rfl ?_
      refine V_icmp_ne (tgt := 65) C dX10_replied_36 (by decide) (fun c142 => ?_) (fun c142 => ?_)
      · rw [if_neg c142] at h
        refine V_iinc (v := (l3 + 1)) (lv' := [(3, .int (l3 + 1)), (0, va_rf l0), (1, .int l1), (2, .int l2)]) C 3 dX10_replied_65 rfl rfl (by decide) rfl ?_
        refine V_goto (tgt := 21) C dX10_replied_68 (by decide) ?_
        exact V_sub [1, 2, 3, 0] rfl (ih σ l0 l1 l2 (l3 + 1) h)
      · rw [if_pos c142] at h
        refine V_aload_n C 0 dX10_replied_39 rfl rfl ?_
        obtain ⟨x143, e144, h⟩ := h_b1_some h
        refine V_getR C fl_RX10_94 dX10_replied_40 e144 ?_
        refine V_iload_n C 3 dX10_replied_43 rfl rfl ?_
        obtain ⟨x145, e146, h⟩ := h_b1_some h
        refine V_iald C dX10_replied_44 e146 ?_
        refine V_if_ne (tgt := 65) C dX10_replied_45 (by decide) (fun c147 => ?_) (fun c147 => ?_)
        · rw [if_neg c147] at h
          refine V_iinc (v := (l3 + 1)) (lv' := [(3, .int (l3 + 1)), (0, va_rf l0), (1, .int l1), (2, .int l2)]) C 3 dX10_replied_65 rfl rfl (by decide) rfl ?_
          refine V_goto (tgt := 21) C dX10_replied_68 (by decide) ?_
          exact V_sub [1, 2, 3, 0] rfl (ih σ l0 l1 l2 (l3 + 1) h)
        · rw [if_pos c147] at h
          refine V_aload_n C 0 dX10_replied_48 rfl rfl ?_
          obtain ⟨x148, e149, h⟩ := h_b1_some h
          refine V_getR C fl_RX10_97 dX10_replied_49 e149 ?_
          refine V_iload_n C 3 dX10_replied_52 rfl rfl ?_
          obtain ⟨x150, e151, h⟩ := h_b1_some h
          refine V_iald C dX10_replied_53 e151 ?_
          refine V_aload_n C 0 dX10_replied_54 rfl rfl ?_
          obtain ⟨x152, e153, h⟩ := h_b1_some h
          refine V_getR C fl_RX10_112 dX10_replied_55 e153 ?_
          refine V_iconst (v := 0) C dX10_replied_58 (by decide) ?_
          obtain ⟨x154, e155, h⟩ := h_b1_some h
          refine V_iald C dX10_replied_59 e155 ?_
          refine V_icmp_ne (tgt := 65) C dX10_replied_60 (by decide) (fun c156 => ?_) (fun c156 => ?_)
          · rw [if_neg c156] at h
            refine V_iinc (v := (l3 + 1)) (lv' := [(3, .int (l3 + 1)), (0, va_rf l0), (1, .int l1), (2, .int l2)]) C 3 dX10_replied_65 rfl rfl (by decide) rfl ?_
            refine V_goto (tgt := 21) C dX10_replied_68 (by decide) ?_
            exact V_sub [1, 2, 3, 0] rfl (ih σ l0 l1 l2 (l3 + 1) h)
          · rw [if_pos c156] at h
            refine V_iload_n C 3 dX10_replied_63 rfl rfl ?_
            refine V_istore_n (lv' := [(2, .int l3), (0, va_rf l0), (1, .int l1), (3, .int l3)]) C dX10_replied_64 rfl (by decide) rfl ?_
            refine V_iinc (v := (l3 + 1)) (lv' := [(3, .int (l3 + 1)), (2, .int l3), (0, va_rf l0), (1, .int l1)]) C 3 dX10_replied_65 rfl rfl (by decide) rfl ?_
            refine V_goto (tgt := 21) C dX10_replied_68 (by decide) ?_
            exact V_sub [2, 3, 1, 0] rfl (ih σ l0 l1 l3 (l3 + 1) h)
set_option maxHeartbeats 4000000 in
set_option maxRecDepth 100000 in
theorem m_X10_replied (l : Launch) (D : va_G) (dA : Nat → ClassId) (bs : Nat) {σ σ' : HS} {a0 : Option Nat} (h : f_X10_replied σ a0 = some ((), σ')) : MetC l yX10_replied cX10_replied 5 none 3 74 D dA bs [va_rf a0] none σ σ' := by
  refine MetC.of (by decide) (h_avR h_av0) (Nat.le_of_ble_eq_true rfl) ?_
  intro p e R s m args below meth c C B hnm
  unfold f_X10_replied at h
  refine V_sub (lv' := [(0, va_rf a0)]) [0] rfl ?_
  refine V_aload_n C 0 dX10_replied_0 rfl rfl ?_
  obtain ⟨x1, e2, h⟩ := h_b1_some h
  refine V_getR C fl_RX10_112 dX10_replied_1 e2 ?_
  refine V_bipush (v := 7) C dX10_replied_4 (by decide) ?_
  obtain ⟨x3, e4, h⟩ := h_b1_some h
  refine V_iald C dX10_replied_6 e4 ?_
  refine V_istore_n (lv' := [(1, .int x3), (0, va_rf a0)]) C dX10_replied_7 rfl (by decide) rfl ?_
  refine V_aload_n C 1 dX10_replied_8 rfl rfl ?_
  refine V_iload_n C 0 dX10_replied_9 rfl rfl ?_
  obtain ⟨y8, e9, h⟩ := h_b1_some h
  obtain ⟨r5, s6, e7, h⟩ := h_bd_some h
  refine V_cV (As := [.int x3]) (rest := []) C mv_RX10_147 (m_X10_isSite l D dA bs e7) e9 rfl rfl (Nat.le_trans h_w0 (by decide)) (h_fr B (by decide)) (h_lo B (by decide)) dX10_replied_10 ?_
  refine V_if_ne (tgt := 17) C dX10_replied_13 (by decide) (fun c10 => ?_) (fun c10 => ?_)
  · rw [if_neg c10] at h
    refine V_iconst (v := 0) C dX10_replied_17 (by decide) ?_
    refine V_istore_n (lv' := [(2, .int 0), (1, .int x3), (0, va_rf a0)]) C dX10_replied_18 rfl (by decide) rfl ?_
    refine V_iconst (v := 1) C dX10_replied_19 (by decide) ?_
    refine V_istore_n (lv' := [(3, .int 1), (2, .int 0), (1, .int x3), (0, va_rf a0)]) C dX10_replied_20 rfl (by decide) rfl ?_
    exact V_sub [3, 2, 1, 0] rfl (w_X10_replied_21 C B h_hN s6 a0 x3 0 1 h)
  · rw [if_pos c10] at h
    cases h
    exact V_vret C B dX10_replied_16
/-! X10_best -/
theorem dX10_best_0 : decode cX10_best 0 = .ok (.iconst (-1), 1) := by decide +kernel
theorem dX10_best_1 : decode cX10_best 1 = .ok (.istore_n 3, 1) := by decide +kernel
theorem dX10_best_2 : decode cX10_best 2 = .ok (.bipush 16, 2) := by decide +kernel
theorem dX10_best_4 : decode cX10_best 4 = .ok (.iload_n 1, 1) := by decide +kernel
theorem dX10_best_5 : decode cX10_best 5 = .ok (.imul, 1) := by decide +kernel
theorem dX10_best_6 : decode cX10_best 6 = .ok (.istore 4, 2) := by decide +kernel
theorem dX10_best_8 : decode cX10_best 8 = .ok (.iload 4, 2) := by decide +kernel
theorem dX10_best_10 : decode cX10_best 10 = .ok (.bipush 16, 2) := by decide +kernel
theorem dX10_best_12 : decode cX10_best 12 = .ok (.iload_n 1, 1) := by decide +kernel
theorem dX10_best_13 : decode cX10_best 13 = .ok (.imul, 1) := by decide +kernel
theorem dX10_best_14 : decode cX10_best 14 = .ok (.bipush 16, 2) := by decide +kernel
theorem dX10_best_16 : decode cX10_best 16 = .ok (.iadd, 1) := by decide +kernel
theorem dX10_best_17 : decode cX10_best 17 = .ok (.if_icmp .ge 71, 3) := by decide +kernel
theorem dX10_best_20 : decode cX10_best 20 = .ok (.aload_n 0, 1) := by decide +kernel
theorem dX10_best_21 : decode cX10_best 21 = .ok (.getfield 42, 3) := by decide +kernel
theorem dX10_best_24 : decode cX10_best 24 = .ok (.iload 4, 2) := by decide +kernel
theorem dX10_best_26 : decode cX10_best 26 = .ok (.iaload, 1) := by decide +kernel
theorem dX10_best_27 : decode cX10_best 27 = .ok (.aload_n 0, 1) := by decide +kernel
theorem dX10_best_28 : decode cX10_best 28 = .ok (.getfield 150, 3) := by decide +kernel
theorem dX10_best_31 : decode cX10_best 31 = .ok (.if_icmp .le 51, 3) := by decide +kernel
theorem dX10_best_34 : decode cX10_best 34 = .ok (.aload_n 0, 1) := by decide +kernel
theorem dX10_best_35 : decode cX10_best 35 = .ok (.getfield 27, 3) := by decide +kernel
theorem dX10_best_38 : decode cX10_best 38 = .ok (.iload 4, 2) := by decide +kernel
theorem dX10_best_40 : decode cX10_best 40 = .ok (.iaload, 1) := by decide +kernel
theorem dX10_best_41 : decode cX10_best 41 = .ok (.iload_n 2, 1) := by decide +kernel
theorem dX10_best_42 : decode cX10_best 42 = .ok (.aload_n 0, 1) := by decide +kernel
theorem dX10_best_43 : decode cX10_best 43 = .ok (.getfield 30, 3) := by decide +kernel
theorem dX10_best_46 : decode cX10_best 46 = .ok (.iload 4, 2) := by decide +kernel
theorem dX10_best_48 : decode cX10_best 48 = .ok (.iaload, 1) := by decide +kernel
theorem dX10_best_49 : decode cX10_best 49 = .ok (.invokestatic 124, 3) := by decide +kernel
theorem dX10_best_52 : decode cX10_best 52 = .ok (.ifCond .ne 6, 3) := by decide +kernel
theorem dX10_best_55 : decode cX10_best 55 = .ok (.goto 27, 3) := by decide +kernel
theorem dX10_best_58 : decode cX10_best 58 = .ok (.iload_n 3, 1) := by decide +kernel
theorem dX10_best_59 : decode cX10_best 59 = .ok (.iconst (-1), 1) := by decide +kernel
theorem dX10_best_60 : decode cX10_best 60 = .ok (.if_icmp .eq 19, 3) := by decide +kernel
theorem dX10_best_63 : decode cX10_best 63 = .ok (.aload_n 0, 1) := by decide +kernel
theorem dX10_best_64 : decode cX10_best 64 = .ok (.getfield 30, 3) := by decide +kernel
theorem dX10_best_67 : decode cX10_best 67 = .ok (.iload 4, 2) := by decide +kernel
theorem dX10_best_69 : decode cX10_best 69 = .ok (.iaload, 1) := by decide +kernel
theorem dX10_best_70 : decode cX10_best 70 = .ok (.aload_n 0, 1) := by decide +kernel
theorem dX10_best_71 : decode cX10_best 71 = .ok (.getfield 30, 3) := by decide +kernel
theorem dX10_best_74 : decode cX10_best 74 = .ok (.iload_n 3, 1) := by decide +kernel
theorem dX10_best_75 : decode cX10_best 75 = .ok (.iaload, 1) := by decide +kernel
theorem dX10_best_76 : decode cX10_best 76 = .ok (.if_icmp .le 6, 3) := by decide +kernel
theorem dX10_best_79 : decode cX10_best 79 = .ok (.iload 4, 2) := by decide +kernel
theorem dX10_best_81 : decode cX10_best 81 = .ok (.istore_n 3, 1) := by decide +kernel
theorem dX10_best_82 : decode cX10_best 82 = .ok (.iinc 4 1, 3) := by decide +kernel
theorem dX10_best_85 : decode cX10_best 85 = .ok (.goto (-77), 3) := by decide +kernel
theorem dX10_best_88 : decode cX10_best 88 = .ok (.iload_n 3, 1) := by decide +kernel
theorem dX10_best_89 : decode cX10_best 89 = .ok (.ireturn, 1) := by decide +kernel
def g_X10_best_8 : Nat → HS → Option Nat → Int32 → Int32 → Int32 → Int32 → Option (Int32 × HS)
  | 0, _, _, _, _, _, _ => none
  | n + 1, σ, l0, l1, l2, l3, l4 =>
    if ((16 * l1) + 16) ≤ l4 then
      some (l3, σ)
    else
      h_b1 (h_gR σ l0 11 12) fun x2 =>
      h_b1 (h_aI σ x2 100 l4) fun x4 =>
      h_b1 (h_gI σ l0 11 1) fun x6 =>
      if x4 ≤ x6 then
        g_X10_best_8 n σ l0 l1 l2 l3 (l4 + 1)
      else
        h_b1 (h_gR σ l0 11 7) fun x9 =>
        h_b1 (h_aI σ x9 100 l4) fun x11 =>
        h_b1 (h_gR σ l0 11 8) fun x13 =>
        h_b1 (h_aI σ x13 100 l4) fun x15 =>
        h_bd (f_X10_begin σ x11 l2 x15) fun r17 s18 =>
        if r17 = 0 then
          g_X10_best_8 n s18 l0 l1 l2 l3 (l4 + 1)
        else
          if l3 = (-1) then
            g_X10_best_8 n s18 l0 l1 l2 l4 (l4 + 1)
          else
            h_b1 (h_gR s18 l0 11 8) fun x22 =>
            h_b1 (h_aI s18 x22 100 l4) fun x24 =>
            h_b1 (h_gR s18 l0 11 8) fun x26 =>
            h_b1 (h_aI s18 x26 100 l3) fun x28 =>
            if x24 ≤ x28 then
              g_X10_best_8 n s18 l0 l1 l2 l3 (l4 + 1)
            else
              g_X10_best_8 n s18 l0 l1 l2 l4 (l4 + 1)
def f_X10_best (σ : HS) (a0 : Option Nat) (a1 : Int32) (a2 : Int32) : Option (Int32 × HS) :=
  g_X10_best_8 h_hN σ a0 a1 a2 (-1) (16 * a1)
set_option maxHeartbeats 4000000 in
set_option maxRecDepth 100000 in
theorem w_X10_best_8 {p : Program} {l : Launch} {e : Env} {R : Room} {s : State} {m : MethodId} {args : Array Value} {below : List Frame} {meth : Method} {c : Code} {D : va_G} {dA : Nat → ClassId} {bs : Nat} (C : h_C p m c cX10_best 5 s args RX10 D dA) {σ0 : HS} (B : h_B R s meth σ0 (some .int) 1 22) {σ' : HS} {r : Int32} : ∀ (n : Nat) (σ : HS) (l0 : Option Nat) (l1 : Int32) (l2 : Int32) (l3 : Int32) (l4 : Int32), g_X10_best_8 n σ l0 l1 l2 l3 l4 = some (r, σ') → V p l e R s m args below meth c D dA bs 5 (MQ below (h_Q D dA bs (some (.int r)) σ0 σ') args s R.cells R.slots (fun q => bs ≤ q)) σ 8 [(0, va_rf l0), (1, .int l1), (2, .int l2), (3, .int l3), (4, .int l4)] [] := by
  intro n
  induction n with
  | zero =>
    intro σ l0 l1 l2 l3 l4 h
    rw [g_X10_best_8] at h
    cases h
  | succ n ih =>
    intro σ l0 l1 l2 l3 l4 h
    rw [g_X10_best_8] at h
    refine V_iload C 4 dX10_best_8 rfl ?_
    refine V_bipush (v := 16) C dX10_best_10 (by decide) ?_
    refine V_iload_n C 1 dX10_best_12 rfl rfl ?_
    refine V_imul C dX10_best_13 ?_
    refine V_bipush (v := 16) C dX10_best_14 (by decide) ?_
    refine V_iadd C dX10_best_16 ?_
    refine V_icmp_ge (tgt := 88) C dX10_best_17 (by decide) (fun c1 => ?_) (fun c1 => ?_)
    · rw [if_pos c1] at h
      refine V_iload_n C 3 dX10_best_88 rfl rfl ?_
      cases h
      exact V_iret C B dX10_best_89
    · rw [if_neg c1] at h
      refine V_aload_n C 0 dX10_best_20 rfl rfl ?_
      obtain ⟨x2, e3, h⟩ := h_b1_some h
      refine V_getR C fl_RX10_42 dX10_best_21 e3 ?_
      refine V_iload C 4 dX10_best_24 rfl ?_
      obtain ⟨x4, e5, h⟩ := h_b1_some h
      refine V_iald C dX10_best_26 e5 ?_
      refine V_aload_n C 0 dX10_best_27 rfl rfl ?_
      obtain ⟨x6, e7, h⟩ := h_b1_some h
      refine V_getI C fl_RX10_150 dX10_best_28 e7 ?_
      refine V_icmp_le (tgt := 82) C dX10_best_31 (by decide) (fun c8 => ?_) (fun c8 => ?_)
      · rw [if_pos c8] at h
        refine V_iinc (v := (l4 + 1)) (lv' := [(4, .int (l4 + 1)), (0, va_rf l0), (1, .int l1), (2, .int l2), (3, .int l3)]) C 4 dX10_best_82 rfl rfl (by decide) rfl ?_
        refine V_goto (tgt := 8) C dX10_best_85 (by decide) ?_
        exact V_sub [1, 2, 3, 4, 0] rfl (ih σ l0 l1 l2 l3 (l4 + 1) h)
      · rw [if_neg c8] at h
        refine V_aload_n C 0 dX10_best_34 rfl rfl ?_
        obtain ⟨x9, e10, h⟩ := h_b1_some h
        refine V_getR C fl_RX10_27 dX10_best_35 e10 ?_
        refine V_iload C 4 dX10_best_38 rfl ?_
        obtain ⟨x11, e12, h⟩ := h_b1_some h
        refine V_iald C dX10_best_40 e12 ?_
        refine V_iload_n C 2 dX10_best_41 rfl rfl ?_
        refine V_aload_n C 0 dX10_best_42 rfl rfl ?_
        obtain ⟨x13, e14, h⟩ := h_b1_some h
        refine V_getR C fl_RX10_30 dX10_best_43 e14 ?_
        refine V_iload C 4 dX10_best_46 rfl ?_
        obtain ⟨x15, e16, h⟩ := h_b1_some h
        refine V_iald C dX10_best_48 e16 ?_
        obtain ⟨r17, s18, e19, h⟩ := h_bd_some h
        refine V_cS (As := [.int x11, .int l2, .int x15]) (rest := []) C ms_RX10_124 (m_X10_begin l D dA bs e19) rfl rfl (Nat.le_trans h_w0 (by decide)) (h_fr B (by decide)) (h_lo B (by decide)) dX10_best_49 ?_
        refine V_if_ne (tgt := 58) C dX10_best_52 (by decide) (fun c20 => ?_) (fun c20 => ?_)
        · rw [if_neg c20] at h
          refine V_iload_n C 3 dX10_best_58 rfl rfl ?_
          refine V_iconst (v := (-1)) C dX10_best_59 (by decide) ?_
          refine V_icmp_eq (tgt := 79) C dX10_best_60 (by decide) (fun c21 => ?_) (fun c21 => ?_)
          · rw [if_pos c21] at h
            refine V_iload C 4 dX10_best_79 rfl ?_
            refine V_istore_n (lv' := [(3, .int l4), (0, va_rf l0), (1, .int l1), (2, .int l2), (4, .int l4)]) C dX10_best_81 rfl (by decide) rfl ?_
            refine V_iinc (v := (l4 + 1)) (lv' := [(4, .int (l4 + 1)), (3, .int l4), (0, va_rf l0), (1, .int l1), (2, .int l2)]) C 4 dX10_best_82 rfl rfl (by decide) rfl ?_
            refine V_goto (tgt := 8) C dX10_best_85 (by decide) ?_
            exact V_sub [2, 3, 4, 1, 0] rfl (ih s18 l0 l1 l2 l4 (l4 + 1) h)
          · rw [if_neg c21] at h
            refine V_aload_n C 0 dX10_best_63 rfl rfl ?_
            obtain ⟨x22, e23, h⟩ := h_b1_some h
            refine V_getR C fl_RX10_30 dX10_best_64 e23 ?_
            refine V_iload C 4 dX10_best_67 rfl ?_
            obtain ⟨x24, e25, h⟩ := h_b1_some h
            refine V_iald C dX10_best_69 e25 ?_
            refine V_aload_n C 0 dX10_best_70 rfl rfl ?_
            obtain ⟨x26, e27, h⟩ := h_b1_some h
            refine V_getR C fl_RX10_30 dX10_best_71 e27 ?_
            refine V_iload_n C 3 dX10_best_74 rfl rfl ?_
            obtain ⟨x28, e29, h⟩ := h_b1_some h
            refine V_iald C dX10_best_75 e29 ?_
            refine V_icmp_le (tgt := 82) C dX10_best_76 (by decide) (fun c30 => ?_) (fun c30 => ?_)
            · rw [if_pos c30] at h
              refine V_iinc (v := (l4 + 1)) (lv' := [(4, .int (l4 + 1)), (0, va_rf l0), (1, .int l1), (2, .int l2), (3, .int l3)]) C 4 dX10_best_82 rfl rfl (by decide) rfl ?_
              refine V_goto (tgt := 8) C dX10_best_85 (by decide) ?_
              exact V_sub [1, 2, 3, 4, 0] rfl (ih s18 l0 l1 l2 l3 (l4 + 1) h)
            · rw [if_neg c30] at h
              refine V_iload C 4 dX10_best_79 rfl ?_
              refine V_istore_n (lv' := [(3, .int l4), (0, va_rf l0), (1, .int l1), (2, .int l2), (4, .int l4)]) C dX10_best_81 rfl (by decide) rfl ?_
              refine V_iinc (v := (l4 + 1)) (lv' := [(4, .int (l4 + 1)), (3, .int l4), (0, va_rf l0), (1, .int l1), (2, .int l2)]) C 4 dX10_best_82 rfl rfl (by decide) rfl ?_
              refine V_goto (tgt := 8) C dX10_best_85 (by decide) ?_
              exact V_sub [2, 3, 4, 1, 0] rfl (ih s18 l0 l1 l2 l4 (l4 + 1) h)
        · rw [if_pos c20] at h
          refine V_goto (tgt := 82) C dX10_best_55 (by decide) ?_
          refine V_iinc (v := (l4 + 1)) (lv' := [(4, .int (l4 + 1)), (0, va_rf l0), (1, .int l1), (2, .int l2), (3, .int l3)]) C 4 dX10_best_82 rfl rfl (by decide) rfl ?_
          refine V_goto (tgt := 8) C dX10_best_85 (by decide) ?_
          exact V_sub [1, 2, 3, 4, 0] rfl (ih s18 l0 l1 l2 l3 (l4 + 1) h)
set_option maxHeartbeats 4000000 in
set_option maxRecDepth 100000 in
theorem m_X10_best (l : Launch) (D : va_G) (dA : Nat → ClassId) (bs : Nat) {σ σ' : HS} {a0 : Option Nat} {a1 : Int32} {a2 : Int32} {r : Int32} (h : f_X10_best σ a0 a1 a2 = some (r, σ')) : MetC l yX10_best cX10_best 5 (some .int) 1 22 D dA bs [va_rf a0, .int a1, .int a2] (some (.int r)) σ σ' := by
  refine MetC.of (by decide) (h_avR (h_avI (h_avI h_av0))) (Nat.le_of_ble_eq_true rfl) ?_
  intro p e R s m args below meth c C B hnm
  unfold f_X10_best at h
  refine V_sub (lv' := [(0, va_rf a0), (1, .int a1), (2, .int a2)]) [0, 1, 2] rfl ?_
  refine V_iconst (v := (-1)) C dX10_best_0 (by decide) ?_
  refine V_istore_n (lv' := [(3, .int (-1)), (0, va_rf a0), (1, .int a1), (2, .int a2)]) C dX10_best_1 rfl (by decide) rfl ?_
  refine V_bipush (v := 16) C dX10_best_2 (by decide) ?_
  refine V_iload_n C 2 dX10_best_4 rfl rfl ?_
  refine V_imul C dX10_best_5 ?_
  refine V_istore (lv' := [(4, .int (16 * a1)), (3, .int (-1)), (0, va_rf a0), (1, .int a1), (2, .int a2)]) C dX10_best_6 (by decide) rfl ?_
  exact V_sub [2, 3, 4, 1, 0] rfl (w_X10_best_8 C B h_hN σ a0 a1 a2 (-1) (16 * a1) h)
/-! X10_cutTo -/
theorem dX10_cutTo_0 : decode cX10_cutTo 0 = .ok (.iload_n 0, 1) := by decide +kernel
theorem dX10_cutTo_1 : decode cX10_cutTo 1 = .ok (.istore_n 2, 1) := by decide +kernel
theorem dX10_cutTo_2 : decode cX10_cutTo 2 = .ok (.iload_n 1, 1) := by decide +kernel
theorem dX10_cutTo_3 : decode cX10_cutTo 3 = .ok (.istore_n 3, 1) := by decide +kernel
theorem dX10_cutTo_4 : decode cX10_cutTo 4 = .ok (.iload_n 3, 1) := by decide +kernel
theorem dX10_cutTo_5 : decode cX10_cutTo 5 = .ok (.bipush 32, 2) := by decide +kernel
theorem dX10_cutTo_7 : decode cX10_cutTo 7 = .ok (.if_icmp .ge 20, 3) := by decide +kernel
theorem dX10_cutTo_10 : decode cX10_cutTo 10 = .ok (.iload_n 2, 1) := by decide +kernel
theorem dX10_cutTo_11 : decode cX10_cutTo 11 = .ok (.iconst 1, 1) := by decide +kernel
theorem dX10_cutTo_12 : decode cX10_cutTo 12 = .ok (.bipush 31, 2) := by decide +kernel
theorem dX10_cutTo_14 : decode cX10_cutTo 14 = .ok (.iload_n 3, 1) := by decide +kernel
theorem dX10_cutTo_15 : decode cX10_cutTo 15 = .ok (.isub, 1) := by decide +kernel
theorem dX10_cutTo_16 : decode cX10_cutTo 16 = .ok (.ishl, 1) := by decide +kernel
theorem dX10_cutTo_17 : decode cX10_cutTo 17 = .ok (.iconst (-1), 1) := by decide +kernel
theorem dX10_cutTo_18 : decode cX10_cutTo 18 = .ok (.ixor, 1) := by decide +kernel
theorem dX10_cutTo_19 : decode cX10_cutTo 19 = .ok (.iand, 1) := by decide +kernel
theorem dX10_cutTo_20 : decode cX10_cutTo 20 = .ok (.istore_n 2, 1) := by decide +kernel
theorem dX10_cutTo_21 : decode cX10_cutTo 21 = .ok (.iinc 3 1, 3) := by decide +kernel
theorem dX10_cutTo_24 : decode cX10_cutTo 24 = .ok (.goto (-20), 3) := by decide +kernel
theorem dX10_cutTo_27 : decode cX10_cutTo 27 = .ok (.iload_n 2, 1) := by decide +kernel
theorem dX10_cutTo_28 : decode cX10_cutTo 28 = .ok (.ireturn, 1) := by decide +kernel
def g_X10_cutTo_4 : Nat → HS → Int32 → Int32 → Option (Int32 × HS)
  | 0, _, _, _ => none
  | n + 1, σ, l2, l3 =>
    if 32 ≤ l3 then
      some (l2, σ)
    else
      g_X10_cutTo_4 n σ (l2 &&& ((1 <<< ((31 - l3) &&& 31)) ^^^ (-1))) (l3 + 1)
def f_X10_cutTo (σ : HS) (a0 : Int32) (a1 : Int32) : Option (Int32 × HS) :=
  g_X10_cutTo_4 h_hN σ a0 a1
set_option maxHeartbeats 4000000 in
set_option maxRecDepth 100000 in
theorem w_X10_cutTo_4 {p : Program} {l : Launch} {e : Env} {R : Room} {s : State} {m : MethodId} {args : Array Value} {below : List Frame} {meth : Method} {c : Code} {D : va_G} {dA : Nat → ClassId} {bs : Nat} (C : h_C p m c cX10_cutTo 4 s args RX10 D dA) {σ0 : HS} (B : h_B R s meth σ0 (some .int) 0 0) {σ' : HS} {r : Int32} : ∀ (n : Nat) (σ : HS) (l2 : Int32) (l3 : Int32), g_X10_cutTo_4 n σ l2 l3 = some (r, σ') → V p l e R s m args below meth c D dA bs 4 (MQ below (h_Q D dA bs (some (.int r)) σ0 σ') args s R.cells R.slots (fun q => bs ≤ q)) σ 4 [(2, .int l2), (3, .int l3)] [] := by
  intro n
  induction n with
  | zero =>
    intro σ l2 l3 h
    rw [g_X10_cutTo_4] at h
    cases h
  | succ n ih =>
    intro σ l2 l3 h
    rw [g_X10_cutTo_4] at h
    refine V_iload_n C 1 dX10_cutTo_4 rfl rfl ?_
    refine V_bipush (v := 32) C dX10_cutTo_5 (by decide) ?_
    refine V_icmp_ge (tgt := 27) C dX10_cutTo_7 (by decide) (fun c1 => ?_) (fun c1 => ?_)
    · rw [if_pos c1] at h
      refine V_iload_n C 0 dX10_cutTo_27 rfl rfl ?_
      cases h
      exact V_iret C B dX10_cutTo_28
    · rw [if_neg c1] at h
      refine V_iload_n C 0 dX10_cutTo_10 rfl rfl ?_
      refine V_iconst (v := 1) C dX10_cutTo_11 (by decide) ?_
      refine V_bipush (v := 31) C dX10_cutTo_12 (by decide) ?_
      refine V_iload_n C 1 dX10_cutTo_14 rfl rfl ?_
      refine V_isub C dX10_cutTo_15 ?_
      refine V_ishl C dX10_cutTo_16 ?_
      refine V_iconst (v := (-1)) C dX10_cutTo_17 (by decide) ?_
      refine V_ixor C dX10_cutTo_18 ?_
      refine V_iand C dX10_cutTo_19 ?_
      refine V_istore_n (lv' := [(2, .int (l2 &&& ((1 <<< ((31 - l3) &&& 31)) ^^^ (-1)))), (3, .int l3)]) C dX10_cutTo_20 rfl (by decide) rfl ?_
      refine V_iinc (v := (l3 + 1)) (lv' := [(3, .int (l3 + 1)), (2, .int (l2 &&& ((1 <<< ((31 - l3) &&& 31)) ^^^ (-1))))]) C 1 dX10_cutTo_21 rfl rfl (by decide) rfl ?_
      refine V_goto (tgt := 4) C dX10_cutTo_24 (by decide) ?_
      exact V_sub [1, 0] rfl (ih σ (l2 &&& ((1 <<< ((31 - l3) &&& 31)) ^^^ (-1))) (l3 + 1) h)
set_option maxHeartbeats 4000000 in
set_option maxRecDepth 100000 in
theorem m_X10_cutTo (l : Launch) (D : va_G) (dA : Nat → ClassId) (bs : Nat) {σ σ' : HS} {a0 : Int32} {a1 : Int32} {r : Int32} (h : f_X10_cutTo σ a0 a1 = some (r, σ')) : MetC l yX10_cutTo cX10_cutTo 4 (some .int) 0 0 D dA bs [.int a0, .int a1] (some (.int r)) σ σ' := by
  refine MetC.of (by decide) (h_avI (h_avI h_av0)) (Nat.le_of_ble_eq_true rfl) ?_
  intro p e R s m args below meth c C B hnm
  unfold f_X10_cutTo at h
  refine V_sub (lv' := [(0, .int a0), (1, .int a1)]) [0, 1] rfl ?_
  refine V_iload_n C 0 dX10_cutTo_0 rfl rfl ?_
  refine V_istore_n (lv' := [(2, .int a0), (0, .int a0), (1, .int a1)]) C dX10_cutTo_1 rfl (by decide) rfl ?_
  refine V_iload_n C 2 dX10_cutTo_2 rfl rfl ?_
  refine V_istore_n (lv' := [(3, .int a1), (2, .int a0), (0, .int a0), (1, .int a1)]) C dX10_cutTo_3 rfl (by decide) rfl ?_
  exact V_sub [1, 0] rfl (w_X10_cutTo_4 C B h_hN σ a0 a1 h)
/-! X10_isCrowded -/
theorem dX10_isCrowded_0 : decode cX10_isCrowded 0 = .ok (.bipush 16, 2) := by decide +kernel
theorem dX10_isCrowded_2 : decode cX10_isCrowded 2 = .ok (.iload_n 1, 1) := by decide +kernel
theorem dX10_isCrowded_3 : decode cX10_isCrowded 3 = .ok (.imul, 1) := by decide +kernel
theorem dX10_isCrowded_4 : decode cX10_isCrowded 4 = .ok (.istore 5, 2) := by decide +kernel
theorem dX10_isCrowded_6 : decode cX10_isCrowded 6 = .ok (.iload 5, 2) := by decide +kernel
theorem dX10_isCrowded_8 : decode cX10_isCrowded 8 = .ok (.bipush 16, 2) := by decide +kernel
theorem dX10_isCrowded_10 : decode cX10_isCrowded 10 = .ok (.iload_n 1, 1) := by decide +kernel
theorem dX10_isCrowded_11 : decode cX10_isCrowded 11 = .ok (.imul, 1) := by decide +kernel
theorem dX10_isCrowded_12 : decode cX10_isCrowded 12 = .ok (.bipush 16, 2) := by decide +kernel
theorem dX10_isCrowded_14 : decode cX10_isCrowded 14 = .ok (.iadd, 1) := by decide +kernel
theorem dX10_isCrowded_15 : decode cX10_isCrowded 15 = .ok (.if_icmp .ge 54, 3) := by decide +kernel
theorem dX10_isCrowded_18 : decode cX10_isCrowded 18 = .ok (.iload 5, 2) := by decide +kernel
theorem dX10_isCrowded_20 : decode cX10_isCrowded 20 = .ok (.iload 4, 2) := by decide +kernel
theorem dX10_isCrowded_22 : decode cX10_isCrowded 22 = .ok (.if_icmp .eq 41, 3) := by decide +kernel
theorem dX10_isCrowded_25 : decode cX10_isCrowded 25 = .ok (.aload_n 0, 1) := by decide +kernel
theorem dX10_isCrowded_26 : decode cX10_isCrowded 26 = .ok (.getfield 42, 3) := by decide +kernel
theorem dX10_isCrowded_29 : decode cX10_isCrowded 29 = .ok (.iload 5, 2) := by decide +kernel
theorem dX10_isCrowded_31 : decode cX10_isCrowded 31 = .ok (.iaload, 1) := by decide +kernel
theorem dX10_isCrowded_32 : decode cX10_isCrowded 32 = .ok (.aload_n 0, 1) := by decide +kernel
theorem dX10_isCrowded_33 : decode cX10_isCrowded 33 = .ok (.getfield 150, 3) := by decide +kernel
theorem dX10_isCrowded_36 : decode cX10_isCrowded 36 = .ok (.if_icmp .le 27, 3) := by decide +kernel
theorem dX10_isCrowded_39 : decode cX10_isCrowded 39 = .ok (.iload_n 2, 1) := by decide +kernel
theorem dX10_isCrowded_40 : decode cX10_isCrowded 40 = .ok (.iload_n 3, 1) := by decide +kernel
theorem dX10_isCrowded_41 : decode cX10_isCrowded 41 = .ok (.aload_n 0, 1) := by decide +kernel
theorem dX10_isCrowded_42 : decode cX10_isCrowded 42 = .ok (.getfield 27, 3) := by decide +kernel
theorem dX10_isCrowded_45 : decode cX10_isCrowded 45 = .ok (.iload 5, 2) := by decide +kernel
theorem dX10_isCrowded_47 : decode cX10_isCrowded 47 = .ok (.iaload, 1) := by decide +kernel
theorem dX10_isCrowded_48 : decode cX10_isCrowded 48 = .ok (.aload_n 0, 1) := by decide +kernel
theorem dX10_isCrowded_49 : decode cX10_isCrowded 49 = .ok (.getfield 30, 3) := by decide +kernel
theorem dX10_isCrowded_52 : decode cX10_isCrowded 52 = .ok (.iload 5, 2) := by decide +kernel
theorem dX10_isCrowded_54 : decode cX10_isCrowded 54 = .ok (.iaload, 1) := by decide +kernel
theorem dX10_isCrowded_55 : decode cX10_isCrowded 55 = .ok (.invokestatic 127, 3) := by decide +kernel
theorem dX10_isCrowded_58 : decode cX10_isCrowded 58 = .ok (.ifCond .eq 5, 3) := by decide +kernel
theorem dX10_isCrowded_61 : decode cX10_isCrowded 61 = .ok (.iconst 1, 1) := by decide +kernel
theorem dX10_isCrowded_62 : decode cX10_isCrowded 62 = .ok (.ireturn, 1) := by decide +kernel
theorem dX10_isCrowded_63 : decode cX10_isCrowded 63 = .ok (.iinc 5 1, 3) := by decide +kernel
theorem dX10_isCrowded_66 : decode cX10_isCrowded 66 = .ok (.goto (-60), 3) := by decide +kernel
theorem dX10_isCrowded_69 : decode cX10_isCrowded 69 = .ok (.iconst 0, 1) := by decide +kernel
theorem dX10_isCrowded_70 : decode cX10_isCrowded 70 = .ok (.istore 5, 2) := by decide +kernel
theorem dX10_isCrowded_72 : decode cX10_isCrowded 72 = .ok (.iload 5, 2) := by decide +kernel
theorem dX10_isCrowded_74 : decode cX10_isCrowded 74 = .ok (.bipush 8, 2) := by decide +kernel
theorem dX10_isCrowded_76 : decode cX10_isCrowded 76 = .ok (.if_icmp .ge 44, 3) := by decide +kernel
theorem dX10_isCrowded_79 : decode cX10_isCrowded 79 = .ok (.aload_n 0, 1) := by decide +kernel
theorem dX10_isCrowded_80 : decode cX10_isCrowded 80 = .ok (.getfield 24, 3) := by decide +kernel
theorem dX10_isCrowded_83 : decode cX10_isCrowded 83 = .ok (.iload 5, 2) := by decide +kernel
theorem dX10_isCrowded_85 : decode cX10_isCrowded 85 = .ok (.iaload, 1) := by decide +kernel
theorem dX10_isCrowded_86 : decode cX10_isCrowded 86 = .ok (.iload_n 1, 1) := by decide +kernel
theorem dX10_isCrowded_87 : decode cX10_isCrowded 87 = .ok (.if_icmp .ne 27, 3) := by decide +kernel
theorem dX10_isCrowded_90 : decode cX10_isCrowded 90 = .ok (.iload_n 2, 1) := by decide +kernel
theorem dX10_isCrowded_91 : decode cX10_isCrowded 91 = .ok (.iload_n 3, 1) := by decide +kernel
theorem dX10_isCrowded_92 : decode cX10_isCrowded 92 = .ok (.aload_n 0, 1) := by decide +kernel
theorem dX10_isCrowded_93 : decode cX10_isCrowded 93 = .ok (.getfield 17, 3) := by decide +kernel
theorem dX10_isCrowded_96 : decode cX10_isCrowded 96 = .ok (.iload 5, 2) := by decide +kernel
theorem dX10_isCrowded_98 : decode cX10_isCrowded 98 = .ok (.iaload, 1) := by decide +kernel
theorem dX10_isCrowded_99 : decode cX10_isCrowded 99 = .ok (.aload_n 0, 1) := by decide +kernel
theorem dX10_isCrowded_100 : decode cX10_isCrowded 100 = .ok (.getfield 21, 3) := by decide +kernel
theorem dX10_isCrowded_103 : decode cX10_isCrowded 103 = .ok (.iload 5, 2) := by decide +kernel
theorem dX10_isCrowded_105 : decode cX10_isCrowded 105 = .ok (.iaload, 1) := by decide +kernel
theorem dX10_isCrowded_106 : decode cX10_isCrowded 106 = .ok (.invokestatic 127, 3) := by decide +kernel
theorem dX10_isCrowded_109 : decode cX10_isCrowded 109 = .ok (.ifCond .eq 5, 3) := by decide +kernel
theorem dX10_isCrowded_112 : decode cX10_isCrowded 112 = .ok (.iconst 1, 1) := by decide +kernel
theorem dX10_isCrowded_113 : decode cX10_isCrowded 113 = .ok (.ireturn, 1) := by decide +kernel
theorem dX10_isCrowded_114 : decode cX10_isCrowded 114 = .ok (.iinc 5 1, 3) := by decide +kernel
theorem dX10_isCrowded_117 : decode cX10_isCrowded 117 = .ok (.goto (-45), 3) := by decide +kernel
theorem dX10_isCrowded_120 : decode cX10_isCrowded 120 = .ok (.iconst 0, 1) := by decide +kernel
theorem dX10_isCrowded_121 : decode cX10_isCrowded 121 = .ok (.ireturn, 1) := by decide +kernel
def g_X10_isCrowded_72 : Nat → HS → Option Nat → Int32 → Int32 → Int32 → Int32 → Option (Int32 × HS)
  | 0, _, _, _, _, _, _ => none
  | n + 1, σ, l0, l1, l2, l3, l5 =>
    if 8 ≤ l5 then
      some (0, σ)
    else
      h_b1 (h_gR σ l0 11 6) fun x3 =>
      h_b1 (h_aI σ x3 100 l5) fun x5 =>
      if x5 = l1 then
        h_b1 (h_gR σ l0 11 4) fun x8 =>
        h_b1 (h_aI σ x8 100 l5) fun x10 =>
        h_b1 (h_gR σ l0 11 5) fun x12 =>
        h_b1 (h_aI σ x12 100 l5) fun x14 =>
        h_bd (f_X10_holds σ l2 l3 x10 x14) fun r16 s17 =>
        if r16 = 0 then
          g_X10_isCrowded_72 n s17 l0 l1 l2 l3 (l5 + 1)
        else
          some (1, s17)
      else
        g_X10_isCrowded_72 n σ l0 l1 l2 l3 (l5 + 1)
def g_X10_isCrowded_6 : Nat → HS → Option Nat → Int32 → Int32 → Int32 → Int32 → Int32 → Option (Int32 × HS)
  | 0, _, _, _, _, _, _, _ => none
  | n + 1, σ, l0, l1, l2, l3, l4, l5 =>
    if ((16 * l1) + 16) ≤ l5 then
      g_X10_isCrowded_72 h_hN σ l0 l1 l2 l3 0
    else
      if l5 = l4 then
        g_X10_isCrowded_6 n σ l0 l1 l2 l3 l4 (l5 + 1)
      else
        h_b1 (h_gR σ l0 11 12) fun x21 =>
        h_b1 (h_aI σ x21 100 l5) fun x23 =>
        h_b1 (h_gI σ l0 11 1) fun x25 =>
        if x23 ≤ x25 then
          g_X10_isCrowded_6 n σ l0 l1 l2 l3 l4 (l5 + 1)
        else
          h_b1 (h_gR σ l0 11 7) fun x28 =>
          h_b1 (h_aI σ x28 100 l5) fun x30 =>
          h_b1 (h_gR σ l0 11 8) fun x32 =>
          h_b1 (h_aI σ x32 100 l5) fun x34 =>
          h_bd (f_X10_holds σ l2 l3 x30 x34) fun r36 s37 =>
          if r36 = 0 then
            g_X10_isCrowded_6 n s37 l0 l1 l2 l3 l4 (l5 + 1)
          else
            some (1, s37)
def f_X10_isCrowded (σ : HS) (a0 : Option Nat) (a1 : Int32) (a2 : Int32) (a3 : Int32) (a4 : Int32) : Option (Int32 × HS) :=
  g_X10_isCrowded_6 h_hN σ a0 a1 a2 a3 a4 (16 * a1)
set_option maxHeartbeats 4000000 in
set_option maxRecDepth 100000 in
theorem w_X10_isCrowded_72 {p : Program} {l : Launch} {e : Env} {R : Room} {s : State} {m : MethodId} {args : Array Value} {below : List Frame} {meth : Method} {c : Code} {D : va_G} {dA : Nat → ClassId} {bs : Nat} (C : h_C p m c cX10_isCrowded 6 s args RX10 D dA) {σ0 : HS} (B : h_B R s meth σ0 (some .boolean) 2 45) {σ' : HS} {r : Int32} : ∀ (n : Nat) (σ : HS) (l0 : Option Nat) (l1 : Int32) (l2 : Int32) (l3 : Int32) (l5 : Int32), g_X10_isCrowded_72 n σ l0 l1 l2 l3 l5 = some (r, σ') → V p l e R s m args below meth c D dA bs 6 (MQ below (h_Q D dA bs (some (.int r)) σ0 σ') args s R.cells R.slots (fun q => bs ≤ q)) σ 72 [(0, va_rf l0), (1, .int l1), (2, .int l2), (3, .int l3), (5, .int l5)] [] := by
  intro n
  induction n with
  | zero =>
    intro σ l0 l1 l2 l3 l5 h
    rw [g_X10_isCrowded_72] at h
    cases h
  | succ n ih =>
    intro σ l0 l1 l2 l3 l5 h
    rw [g_X10_isCrowded_72] at h
    refine V_iload C 4 dX10_isCrowded_72 rfl ?_
    refine V_bipush (v := 8) C dX10_isCrowded_74 (by decide) ?_
    refine V_icmp_ge (tgt := 120) C dX10_isCrowded_76 (by decide) (fun c2 => ?_) (fun c2 => ?_)
    · rw [if_pos c2] at h
      refine V_iconst (v := 0) C dX10_isCrowded_120 (by decide) ?_
      cases h
      exact V_zret C B dX10_isCrowded_121 (Or.inl rfl)
    · rw [if_neg c2] at h
      refine V_aload_n C 0 dX10_isCrowded_79 rfl rfl ?_
      obtain ⟨x3, e4, h⟩ := h_b1_some h
      refine V_getR C fl_RX10_24 dX10_isCrowded_80 e4 ?_
      refine V_iload C 4 dX10_isCrowded_83 rfl ?_
      obtain ⟨x5, e6, h⟩ := h_b1_some h
      refine V_iald C dX10_isCrowded_85 e6 ?_
      refine V_iload_n C 1 dX10_isCrowded_86 rfl rfl ?_
      refine V_icmp_ne (tgt := 114) C dX10_isCrowded_87 (by decide) (fun c7 => ?_) (fun c7 => ?_)
      · rw [if_neg c7] at h
        refine V_iinc (v := (l5 + 1)) (lv' := [(5, .int (l5 + 1)), (0, va_rf l0), (1, .int l1), (2, .int l2), (3, .int l3)]) C 4 dX10_isCrowded_114 rfl rfl (by decide) rfl ?_
        refine V_goto (tgt := 72) C dX10_isCrowded_117 (by decide) ?_
        exact V_sub [1, 2, 3, 4, 0] rfl (ih σ l0 l1 l2 l3 (l5 + 1) h)
      · rw [if_pos c7] at h
        refine V_iload_n C 2 dX10_isCrowded_90 rfl rfl ?_
        refine V_iload_n C 3 dX10_isCrowded_91 rfl rfl ?_
        refine V_aload_n C 0 dX10_isCrowded_92 rfl rfl ?_
        obtain ⟨x8, e9, h⟩ := h_b1_some h
        refine V_getR C fl_RX10_17 dX10_isCrowded_93 e9 ?_
        refine V_iload C 4 dX10_isCrowded_96 rfl ?_
        obtain ⟨x10, e11, h⟩ := h_b1_some h
        refine V_iald C dX10_isCrowded_98 e11 ?_
        refine V_aload_n C 0 dX10_isCrowded_99 rfl rfl ?_
        obtain ⟨x12, e13, h⟩ := h_b1_some h
        refine V_getR C fl_RX10_21 dX10_isCrowded_100 e13 ?_
        refine V_iload C 4 dX10_isCrowded_103 rfl ?_
        obtain ⟨x14, e15, h⟩ := h_b1_some h
        refine V_iald C dX10_isCrowded_105 e15 ?_
        obtain ⟨r16, s17, e18, h⟩ := h_bd_some h
        refine V_cS (As := [.int l2, .int l3, .int x10, .int x14]) (rest := []) C ms_RX10_127 (m_X10_holds l D dA bs e18) rfl rfl (Nat.le_trans h_w0 (by decide)) (h_fr B (by decide)) (h_lo B (by decide)) dX10_isCrowded_106 ?_
        refine V_if_eq (tgt := 114) C dX10_isCrowded_109 (by decide) (fun c19 => ?_) (fun c19 => ?_)
        · rw [if_pos c19] at h
          refine V_iinc (v := (l5 + 1)) (lv' := [(5, .int (l5 + 1)), (0, va_rf l0), (1, .int l1), (2, .int l2), (3, .int l3)]) C 4 dX10_isCrowded_114 rfl rfl (by decide) rfl ?_
          refine V_goto (tgt := 72) C dX10_isCrowded_117 (by decide) ?_
          exact V_sub [1, 2, 3, 4, 0] rfl (ih s17 l0 l1 l2 l3 (l5 + 1) h)
        · rw [if_neg c19] at h
          refine V_iconst (v := 1) C dX10_isCrowded_112 (by decide) ?_
          cases h
          exact V_zret C B dX10_isCrowded_113 (Or.inr rfl)
set_option maxHeartbeats 4000000 in
set_option maxRecDepth 100000 in
theorem w_X10_isCrowded_6 {p : Program} {l : Launch} {e : Env} {R : Room} {s : State} {m : MethodId} {args : Array Value} {below : List Frame} {meth : Method} {c : Code} {D : va_G} {dA : Nat → ClassId} {bs : Nat} (C : h_C p m c cX10_isCrowded 6 s args RX10 D dA) {σ0 : HS} (B : h_B R s meth σ0 (some .boolean) 2 45) {σ' : HS} {r : Int32} : ∀ (n : Nat) (σ : HS) (l0 : Option Nat) (l1 : Int32) (l2 : Int32) (l3 : Int32) (l4 : Int32) (l5 : Int32), g_X10_isCrowded_6 n σ l0 l1 l2 l3 l4 l5 = some (r, σ') → V p l e R s m args below meth c D dA bs 6 (MQ below (h_Q D dA bs (some (.int r)) σ0 σ') args s R.cells R.slots (fun q => bs ≤ q)) σ 6 [(0, va_rf l0), (1, .int l1), (2, .int l2), (3, .int l3), (4, .int l4), (5, .int l5)] [] := by
  intro n
  induction n with
  | zero =>
    intro σ l0 l1 l2 l3 l4 l5 h
    rw [g_X10_isCrowded_6] at h
    cases h
  | succ n ih =>
    intro σ l0 l1 l2 l3 l4 l5 h
    rw [g_X10_isCrowded_6] at h
    refine V_iload C 5 dX10_isCrowded_6 rfl ?_
    refine V_bipush (v := 16) C dX10_isCrowded_8 (by decide) ?_
    refine V_iload_n C 1 dX10_isCrowded_10 rfl rfl ?_
    refine V_imul C dX10_isCrowded_11 ?_
    refine V_bipush (v := 16) C dX10_isCrowded_12 (by decide) ?_
    refine V_iadd C dX10_isCrowded_14 ?_
    refine V_icmp_ge (tgt := 69) C dX10_isCrowded_15 (by decide) (fun c1 => ?_) (fun c1 => ?_)
    · rw [if_pos c1] at h
      refine V_iconst (v := 0) C dX10_isCrowded_69 (by decide) ?_
      refine V_istore (lv' := [(5, .int 0), (0, va_rf l0), (1, .int l1), (2, .int l2), (3, .int l3), (4, .int l4)]) C dX10_isCrowded_70 (by decide) rfl ?_
      exact V_sub [1, 2, 3, 4, 0] rfl (w_X10_isCrowded_72 C B h_hN σ l0 l1 l2 l3 0 h)
    · rw [if_neg c1] at h
      refine V_iload C 5 dX10_isCrowded_18 rfl ?_
      refine V_iload C 4 dX10_isCrowded_20 rfl ?_
      refine V_icmp_eq (tgt := 63) C dX10_isCrowded_22 (by decide) (fun c20 => ?_) (fun c20 => ?_)
      · rw [if_pos c20] at h
        refine V_iinc (v := (l5 + 1)) (lv' := [(5, .int (l5 + 1)), (0, va_rf l0), (1, .int l1), (2, .int l2), (3, .int l3), (4, .int l4)]) C 5 dX10_isCrowded_63 rfl rfl (by decide) rfl ?_
        refine V_goto (tgt := 6) C dX10_isCrowded_66 (by decide) ?_
        exact V_sub [1, 2, 3, 4, 5, 0] rfl (ih σ l0 l1 l2 l3 l4 (l5 + 1) h)
      · rw [if_neg c20] at h
        refine V_aload_n C 0 dX10_isCrowded_25 rfl rfl ?_
        obtain ⟨x21, e22, h⟩ := h_b1_some h
        refine V_getR C fl_RX10_42 dX10_isCrowded_26 e22 ?_
        refine V_iload C 5 dX10_isCrowded_29 rfl ?_
        obtain ⟨x23, e24, h⟩ := h_b1_some h
        refine V_iald C dX10_isCrowded_31 e24 ?_
        refine V_aload_n C 0 dX10_isCrowded_32 rfl rfl ?_
        obtain ⟨x25, e26, h⟩ := h_b1_some h
        refine V_getI C fl_RX10_150 dX10_isCrowded_33 e26 ?_
        refine V_icmp_le (tgt := 63) C dX10_isCrowded_36 (by decide) (fun c27 => ?_) (fun c27 => ?_)
        · rw [if_pos c27] at h
          refine V_iinc (v := (l5 + 1)) (lv' := [(5, .int (l5 + 1)), (0, va_rf l0), (1, .int l1), (2, .int l2), (3, .int l3), (4, .int l4)]) C 5 dX10_isCrowded_63 rfl rfl (by decide) rfl ?_
          refine V_goto (tgt := 6) C dX10_isCrowded_66 (by decide) ?_
          exact V_sub [1, 2, 3, 4, 5, 0] rfl (ih σ l0 l1 l2 l3 l4 (l5 + 1) h)
        · rw [if_neg c27] at h
          refine V_iload_n C 2 dX10_isCrowded_39 rfl rfl ?_
          refine V_iload_n C 3 dX10_isCrowded_40 rfl rfl ?_
          refine V_aload_n C 0 dX10_isCrowded_41 rfl rfl ?_
          obtain ⟨x28, e29, h⟩ := h_b1_some h
          refine V_getR C fl_RX10_27 dX10_isCrowded_42 e29 ?_
          refine V_iload C 5 dX10_isCrowded_45 rfl ?_
          obtain ⟨x30, e31, h⟩ := h_b1_some h
          refine V_iald C dX10_isCrowded_47 e31 ?_
          refine V_aload_n C 0 dX10_isCrowded_48 rfl rfl ?_
          obtain ⟨x32, e33, h⟩ := h_b1_some h
          refine V_getR C fl_RX10_30 dX10_isCrowded_49 e33 ?_
          refine V_iload C 5 dX10_isCrowded_52 rfl ?_
          obtain ⟨x34, e35, h⟩ := h_b1_some h
          refine V_iald C dX10_isCrowded_54 e35 ?_
          obtain ⟨r36, s37, e38, h⟩ := h_bd_some h
          refine V_cS (As := [.int l2, .int l3, .int x30, .int x34]) (rest := []) C ms_RX10_127 (m_X10_holds l D dA bs e38) rfl rfl (Nat.le_trans h_w0 (by decide)) (h_fr B (by decide)) (h_lo B (by decide)) dX10_isCrowded_55 ?_
          refine V_if_eq (tgt := 63) C dX10_isCrowded_58 (by decide) (fun c39 => ?_) (fun c39 => ?_)
          · rw [if_pos c39] at h
            refine V_iinc (v := (l5 + 1)) (lv' := [(5, .int (l5 + 1)), (0, va_rf l0), (1, .int l1), (2, .int l2), (3, .int l3), (4, .int l4)]) C 5 dX10_isCrowded_63 rfl rfl (by decide) rfl ?_
            refine V_goto (tgt := 6) C dX10_isCrowded_66 (by decide) ?_
            exact V_sub [1, 2, 3, 4, 5, 0] rfl (ih s37 l0 l1 l2 l3 l4 (l5 + 1) h)
          · rw [if_neg c39] at h
            refine V_iconst (v := 1) C dX10_isCrowded_61 (by decide) ?_
            cases h
            exact V_zret C B dX10_isCrowded_62 (Or.inr rfl)
set_option maxHeartbeats 4000000 in
set_option maxRecDepth 100000 in
theorem m_X10_isCrowded (l : Launch) (D : va_G) (dA : Nat → ClassId) (bs : Nat) {σ σ' : HS} {a0 : Option Nat} {a1 : Int32} {a2 : Int32} {a3 : Int32} {a4 : Int32} {r : Int32} (h : f_X10_isCrowded σ a0 a1 a2 a3 a4 = some (r, σ')) : MetC l yX10_isCrowded cX10_isCrowded 6 (some .boolean) 2 45 D dA bs [va_rf a0, .int a1, .int a2, .int a3, .int a4] (some (.int r)) σ σ' := by
  refine MetC.of (by decide) (h_avR (h_avI (h_avI (h_avI (h_avI h_av0))))) (Nat.le_of_ble_eq_true rfl) ?_
  intro p e R s m args below meth c C B hnm
  unfold f_X10_isCrowded at h
  refine V_sub (lv' := [(0, va_rf a0), (1, .int a1), (2, .int a2), (3, .int a3), (4, .int a4)]) [0, 1, 2, 3, 4] rfl ?_
  refine V_bipush (v := 16) C dX10_isCrowded_0 (by decide) ?_
  refine V_iload_n C 1 dX10_isCrowded_2 rfl rfl ?_
  refine V_imul C dX10_isCrowded_3 ?_
  refine V_istore (lv' := [(5, .int (16 * a1)), (0, va_rf a0), (1, .int a1), (2, .int a2), (3, .int a3), (4, .int a4)]) C dX10_isCrowded_4 (by decide) rfl ?_
  exact V_sub [1, 2, 3, 4, 5, 0] rfl (w_X10_isCrowded_6 C B h_hN σ a0 a1 a2 a3 a4 (16 * a1) h)
/-! X10_requested -/
theorem dX10_requested_0 : decode cX10_requested 0 = .ok (.aload_n 0, 1) := by decide +kernel
theorem dX10_requested_1 : decode cX10_requested 1 = .ok (.getfield 112, 3) := by decide +kernel
theorem dX10_requested_4 : decode cX10_requested 4 = .ok (.bipush 7, 2) := by decide +kernel
theorem dX10_requested_6 : decode cX10_requested 6 = .ok (.iaload, 1) := by decide +kernel
theorem dX10_requested_7 : decode cX10_requested 7 = .ok (.istore_n 1, 1) := by decide +kernel
theorem dX10_requested_8 : decode cX10_requested 8 = .ok (.aload_n 0, 1) := by decide +kernel
theorem dX10_requested_9 : decode cX10_requested 9 = .ok (.getfield 112, 3) := by decide +kernel
theorem dX10_requested_12 : decode cX10_requested 12 = .ok (.iconst 0, 1) := by decide +kernel
theorem dX10_requested_13 : decode cX10_requested 13 = .ok (.iaload, 1) := by decide +kernel
theorem dX10_requested_14 : decode cX10_requested 14 = .ok (.istore_n 2, 1) := by decide +kernel
theorem dX10_requested_15 : decode cX10_requested 15 = .ok (.aload_n 0, 1) := by decide +kernel
theorem dX10_requested_16 : decode cX10_requested 16 = .ok (.getfield 112, 3) := by decide +kernel
theorem dX10_requested_19 : decode cX10_requested 19 = .ok (.iconst 2, 1) := by decide +kernel
theorem dX10_requested_20 : decode cX10_requested 20 = .ok (.iaload, 1) := by decide +kernel
theorem dX10_requested_21 : decode cX10_requested 21 = .ok (.istore_n 3, 1) := by decide +kernel
theorem dX10_requested_22 : decode cX10_requested 22 = .ok (.aload_n 0, 1) := by decide +kernel
theorem dX10_requested_23 : decode cX10_requested 23 = .ok (.iload_n 1, 1) := by decide +kernel
theorem dX10_requested_24 : decode cX10_requested 24 = .ok (.invokevirtual 131, 3) := by decide +kernel
theorem dX10_requested_27 : decode cX10_requested 27 = .ok (.ifCond .eq 30, 3) := by decide +kernel
theorem dX10_requested_30 : decode cX10_requested 30 = .ok (.aload_n 0, 1) := by decide +kernel
theorem dX10_requested_31 : decode cX10_requested 31 = .ok (.iload_n 2, 1) := by decide +kernel
theorem dX10_requested_32 : decode cX10_requested 32 = .ok (.invokevirtual 147, 3) := by decide +kernel
theorem dX10_requested_35 : decode cX10_requested 35 = .ok (.ifCond .eq 22, 3) := by decide +kernel
theorem dX10_requested_38 : decode cX10_requested 38 = .ok (.aload_n 0, 1) := by decide +kernel
theorem dX10_requested_39 : decode cX10_requested 39 = .ok (.getfield 17, 3) := by decide +kernel
theorem dX10_requested_42 : decode cX10_requested 42 = .ok (.iload_n 1, 1) := by decide +kernel
theorem dX10_requested_43 : decode cX10_requested 43 = .ok (.iaload, 1) := by decide +kernel
theorem dX10_requested_44 : decode cX10_requested 44 = .ok (.iload_n 3, 1) := by decide +kernel
theorem dX10_requested_45 : decode cX10_requested 45 = .ok (.aload_n 0, 1) := by decide +kernel
theorem dX10_requested_46 : decode cX10_requested 46 = .ok (.getfield 21, 3) := by decide +kernel
theorem dX10_requested_49 : decode cX10_requested 49 = .ok (.iload_n 1, 1) := by decide +kernel
theorem dX10_requested_50 : decode cX10_requested 50 = .ok (.iaload, 1) := by decide +kernel
theorem dX10_requested_51 : decode cX10_requested 51 = .ok (.invokestatic 124, 3) := by decide +kernel
theorem dX10_requested_54 : decode cX10_requested 54 = .ok (.ifCond .ne 4, 3) := by decide +kernel
theorem dX10_requested_57 : decode cX10_requested 57 = .ok (.return_, 1) := by decide +kernel
theorem dX10_requested_58 : decode cX10_requested 58 = .ok (.aload_n 0, 1) := by decide +kernel
theorem dX10_requested_59 : decode cX10_requested 59 = .ok (.getfield 153, 3) := by decide +kernel
theorem dX10_requested_62 : decode cX10_requested 62 = .ok (.istore 4, 2) := by decide +kernel
theorem dX10_requested_64 : decode cX10_requested 64 = .ok (.iconst 0, 1) := by decide +kernel
theorem dX10_requested_65 : decode cX10_requested 65 = .ok (.istore 5, 2) := by decide +kernel
theorem dX10_requested_67 : decode cX10_requested 67 = .ok (.iload 5, 2) := by decide +kernel
theorem dX10_requested_69 : decode cX10_requested 69 = .ok (.bipush 8, 2) := by decide +kernel
theorem dX10_requested_71 : decode cX10_requested 71 = .ok (.if_icmp .ge 74, 3) := by decide +kernel
theorem dX10_requested_74 : decode cX10_requested 74 = .ok (.aload_n 0, 1) := by decide +kernel
theorem dX10_requested_75 : decode cX10_requested 75 = .ok (.getfield 24, 3) := by decide +kernel
theorem dX10_requested_78 : decode cX10_requested 78 = .ok (.iload 5, 2) := by decide +kernel
theorem dX10_requested_80 : decode cX10_requested 80 = .ok (.iaload, 1) := by decide +kernel
theorem dX10_requested_81 : decode cX10_requested 81 = .ok (.iload_n 1, 1) := by decide +kernel
theorem dX10_requested_82 : decode cX10_requested 82 = .ok (.if_icmp .ne 57, 3) := by decide +kernel
theorem dX10_requested_85 : decode cX10_requested 85 = .ok (.aload_n 0, 1) := by decide +kernel
theorem dX10_requested_86 : decode cX10_requested 86 = .ok (.getfield 17, 3) := by decide +kernel
theorem dX10_requested_89 : decode cX10_requested 89 = .ok (.iload 5, 2) := by decide +kernel
theorem dX10_requested_91 : decode cX10_requested 91 = .ok (.iaload, 1) := by decide +kernel
theorem dX10_requested_92 : decode cX10_requested 92 = .ok (.iload_n 3, 1) := by decide +kernel
theorem dX10_requested_93 : decode cX10_requested 93 = .ok (.aload_n 0, 1) := by decide +kernel
theorem dX10_requested_94 : decode cX10_requested 94 = .ok (.getfield 21, 3) := by decide +kernel
theorem dX10_requested_97 : decode cX10_requested 97 = .ok (.iload 5, 2) := by decide +kernel
theorem dX10_requested_99 : decode cX10_requested 99 = .ok (.iaload, 1) := by decide +kernel
theorem dX10_requested_100 : decode cX10_requested 100 = .ok (.invokestatic 124, 3) := by decide +kernel
theorem dX10_requested_103 : decode cX10_requested 103 = .ok (.ifCond .ne 6, 3) := by decide +kernel
theorem dX10_requested_106 : decode cX10_requested 106 = .ok (.goto 33, 3) := by decide +kernel
theorem dX10_requested_109 : decode cX10_requested 109 = .ok (.aload_n 0, 1) := by decide +kernel
theorem dX10_requested_110 : decode cX10_requested 110 = .ok (.iconst 2, 1) := by decide +kernel
theorem dX10_requested_111 : decode cX10_requested 111 = .ok (.iload_n 2, 1) := by decide +kernel
theorem dX10_requested_112 : decode cX10_requested 112 = .ok (.aload_n 0, 1) := by decide +kernel
theorem dX10_requested_113 : decode cX10_requested 113 = .ok (.getfield 112, 3) := by decide +kernel
theorem dX10_requested_116 : decode cX10_requested 116 = .ok (.iconst 1, 1) := by decide +kernel
theorem dX10_requested_117 : decode cX10_requested 117 = .ok (.iaload, 1) := by decide +kernel
theorem dX10_requested_118 : decode cX10_requested 118 = .ok (.iconst 0, 1) := by decide +kernel
theorem dX10_requested_119 : decode cX10_requested 119 = .ok (.aload_n 0, 1) := by decide +kernel
theorem dX10_requested_120 : decode cX10_requested 120 = .ok (.getfield 17, 3) := by decide +kernel
theorem dX10_requested_123 : decode cX10_requested 123 = .ok (.iload 5, 2) := by decide +kernel
theorem dX10_requested_125 : decode cX10_requested 125 = .ok (.iaload, 1) := by decide +kernel
theorem dX10_requested_126 : decode cX10_requested 126 = .ok (.aload_n 0, 1) := by decide +kernel
theorem dX10_requested_127 : decode cX10_requested 127 = .ok (.getfield 21, 3) := by decide +kernel
theorem dX10_requested_130 : decode cX10_requested 130 = .ok (.iload 5, 2) := by decide +kernel
theorem dX10_requested_132 : decode cX10_requested 132 = .ok (.iaload, 1) := by decide +kernel
theorem dX10_requested_133 : decode cX10_requested 133 = .ok (.iload 5, 2) := by decide +kernel
theorem dX10_requested_135 : decode cX10_requested 135 = .ok (.invokevirtual 164, 3) := by decide +kernel
theorem dX10_requested_138 : decode cX10_requested 138 = .ok (.return_, 1) := by decide +kernel
theorem dX10_requested_139 : decode cX10_requested 139 = .ok (.iinc 5 1, 3) := by decide +kernel
theorem dX10_requested_142 : decode cX10_requested 142 = .ok (.goto (-75), 3) := by decide +kernel
theorem dX10_requested_145 : decode cX10_requested 145 = .ok (.aload_n 0, 1) := by decide +kernel
theorem dX10_requested_146 : decode cX10_requested 146 = .ok (.iload_n 1, 1) := by decide +kernel
theorem dX10_requested_147 : decode cX10_requested 147 = .ok (.iload_n 3, 1) := by decide +kernel
theorem dX10_requested_148 : decode cX10_requested 148 = .ok (.invokevirtual 213, 3) := by decide +kernel
theorem dX10_requested_151 : decode cX10_requested 151 = .ok (.istore 5, 2) := by decide +kernel
theorem dX10_requested_153 : decode cX10_requested 153 = .ok (.iload 5, 2) := by decide +kernel
theorem dX10_requested_155 : decode cX10_requested 155 = .ok (.iconst (-1), 1) := by decide +kernel
theorem dX10_requested_156 : decode cX10_requested 156 = .ok (.if_icmp .ne 12, 3) := by decide +kernel
theorem dX10_requested_159 : decode cX10_requested 159 = .ok (.aload_n 0, 1) := by decide +kernel
theorem dX10_requested_160 : decode cX10_requested 160 = .ok (.getfield 21, 3) := by decide +kernel
theorem dX10_requested_163 : decode cX10_requested 163 = .ok (.iload_n 1, 1) := by decide +kernel
theorem dX10_requested_164 : decode cX10_requested 164 = .ok (.iaload, 1) := by decide +kernel
theorem dX10_requested_165 : decode cX10_requested 165 = .ok (.goto 10, 3) := by decide +kernel
theorem dX10_requested_168 : decode cX10_requested 168 = .ok (.aload_n 0, 1) := by decide +kernel
theorem dX10_requested_169 : decode cX10_requested 169 = .ok (.getfield 30, 3) := by decide +kernel
theorem dX10_requested_172 : decode cX10_requested 172 = .ok (.iload 5, 2) := by decide +kernel
theorem dX10_requested_174 : decode cX10_requested 174 = .ok (.iaload, 1) := by decide +kernel
theorem dX10_requested_175 : decode cX10_requested 175 = .ok (.istore 6, 2) := by decide +kernel
theorem dX10_requested_177 : decode cX10_requested 177 = .ok (.aload_n 0, 1) := by decide +kernel
theorem dX10_requested_178 : decode cX10_requested 178 = .ok (.iload_n 1, 1) := by decide +kernel
theorem dX10_requested_179 : decode cX10_requested 179 = .ok (.iload_n 3, 1) := by decide +kernel
theorem dX10_requested_180 : decode cX10_requested 180 = .ok (.iload 6, 2) := by decide +kernel
theorem dX10_requested_182 : decode cX10_requested 182 = .ok (.iload 5, 2) := by decide +kernel
theorem dX10_requested_184 : decode cX10_requested 184 = .ok (.invokevirtual 216, 3) := by decide +kernel
theorem dX10_requested_187 : decode cX10_requested 187 = .ok (.ifCond .eq 9, 3) := by decide +kernel
theorem dX10_requested_190 : decode cX10_requested 190 = .ok (.iinc 6 1, 3) := by decide +kernel
theorem dX10_requested_193 : decode cX10_requested 193 = .ok (.goto (-16), 3) := by decide +kernel
theorem dX10_requested_196 : decode cX10_requested 196 = .ok (.aload_n 0, 1) := by decide +kernel
theorem dX10_requested_197 : decode cX10_requested 197 = .ok (.iconst 2, 1) := by decide +kernel
theorem dX10_requested_198 : decode cX10_requested 198 = .ok (.iload_n 2, 1) := by decide +kernel
theorem dX10_requested_199 : decode cX10_requested 199 = .ok (.aload_n 0, 1) := by decide +kernel
theorem dX10_requested_200 : decode cX10_requested 200 = .ok (.getfield 112, 3) := by decide +kernel
theorem dX10_requested_203 : decode cX10_requested 203 = .ok (.iconst 1, 1) := by decide +kernel
theorem dX10_requested_204 : decode cX10_requested 204 = .ok (.iaload, 1) := by decide +kernel
theorem dX10_requested_205 : decode cX10_requested 205 = .ok (.iload 5, 2) := by decide +kernel
theorem dX10_requested_207 : decode cX10_requested 207 = .ok (.iconst (-1), 1) := by decide +kernel
theorem dX10_requested_208 : decode cX10_requested 208 = .ok (.if_icmp .ne 7, 3) := by decide +kernel
theorem dX10_requested_211 : decode cX10_requested 211 = .ok (.iconst 2, 1) := by decide +kernel
theorem dX10_requested_212 : decode cX10_requested 212 = .ok (.goto 4, 3) := by decide +kernel
theorem dX10_requested_215 : decode cX10_requested 215 = .ok (.iconst 1, 1) := by decide +kernel
theorem dX10_requested_216 : decode cX10_requested 216 = .ok (.iload_n 3, 1) := by decide +kernel
theorem dX10_requested_217 : decode cX10_requested 217 = .ok (.iload 6, 2) := by decide +kernel
theorem dX10_requested_219 : decode cX10_requested 219 = .ok (.invokestatic 219, 3) := by decide +kernel
theorem dX10_requested_222 : decode cX10_requested 222 = .ok (.iload 6, 2) := by decide +kernel
theorem dX10_requested_224 : decode cX10_requested 224 = .ok (.iload 5, 2) := by decide +kernel
theorem dX10_requested_226 : decode cX10_requested 226 = .ok (.iconst (-1), 1) := by decide +kernel
theorem dX10_requested_227 : decode cX10_requested 227 = .ok (.if_icmp .ne 7, 3) := by decide +kernel
theorem dX10_requested_230 : decode cX10_requested 230 = .ok (.iconst 0, 1) := by decide +kernel
theorem dX10_requested_231 : decode cX10_requested 231 = .ok (.goto 10, 3) := by decide +kernel
theorem dX10_requested_234 : decode cX10_requested 234 = .ok (.aload_n 0, 1) := by decide +kernel
theorem dX10_requested_235 : decode cX10_requested 235 = .ok (.getfield 36, 3) := by decide +kernel
theorem dX10_requested_238 : decode cX10_requested 238 = .ok (.iload 5, 2) := by decide +kernel
theorem dX10_requested_240 : decode cX10_requested 240 = .ok (.iaload, 1) := by decide +kernel
theorem dX10_requested_241 : decode cX10_requested 241 = .ok (.invokevirtual 164, 3) := by decide +kernel
theorem dX10_requested_244 : decode cX10_requested 244 = .ok (.aload_n 0, 1) := by decide +kernel
theorem dX10_requested_245 : decode cX10_requested 245 = .ok (.iload 5, 2) := by decide +kernel
theorem dX10_requested_247 : decode cX10_requested 247 = .ok (.iconst (-1), 1) := by decide +kernel
theorem dX10_requested_248 : decode cX10_requested 248 = .ok (.if_icmp .ne 7, 3) := by decide +kernel
theorem dX10_requested_251 : decode cX10_requested 251 = .ok (.iconst 0, 1) := by decide +kernel
theorem dX10_requested_252 : decode cX10_requested 252 = .ok (.goto 10, 3) := by decide +kernel
theorem dX10_requested_255 : decode cX10_requested 255 = .ok (.aload_n 0, 1) := by decide +kernel
theorem dX10_requested_256 : decode cX10_requested 256 = .ok (.getfield 39, 3) := by decide +kernel
theorem dX10_requested_259 : decode cX10_requested 259 = .ok (.iload 5, 2) := by decide +kernel
theorem dX10_requested_261 : decode cX10_requested 261 = .ok (.iaload, 1) := by decide +kernel
theorem dX10_requested_262 : decode cX10_requested 262 = .ok (.iload 4, 2) := by decide +kernel
theorem dX10_requested_264 : decode cX10_requested 264 = .ok (.invokevirtual 172, 3) := by decide +kernel
theorem dX10_requested_267 : decode cX10_requested 267 = .ok (.return_, 1) := by decide +kernel
def j_X10_requested_241 (σ : HS) (l0 : Option Nat) (l4 : Int32) (l5 : Int32) (t0 : Int32) (t1 : Int32) (t2 : Int32) (t3 : Int32) (t4 : Int32) (t5 : Int32) (t6 : Int32) (t7 : Option Nat) : Option (Unit × HS) :=
  h_b1 (h_rcv σ t7 11) fun y72 =>
  h_bd (f_X10_post σ t7 t6 t5 t4 t3 t2 t1 t0) fun _ s70 =>
  if l5 = (-1) then
    h_b1 (h_rcv s70 l0 11) fun y87 =>
    h_bd (f_X10_last s70 l0 0 l4) fun _ s85 =>
    some ((), s85)
  else
    h_b1 (h_gR s70 l0 11 11) fun x75 =>
    h_b1 (h_aI s70 x75 100 l5) fun x77 =>
    h_b1 (h_rcv s70 l0 11) fun y82 =>
    h_bd (f_X10_last s70 l0 x77 l4) fun _ s80 =>
    some ((), s80)
def j_X10_requested_216 (σ : HS) (l0 : Option Nat) (l3 : Int32) (l4 : Int32) (l5 : Int32) (l6 : Int32) (t0 : Int32) (t1 : Int32) (t2 : Int32) (t3 : Int32) (t4 : Option Nat) : Option (Unit × HS) :=
  h_bd (f_X10_cutTo σ l3 l6) fun r61 s62 =>
  if l5 = (-1) then
    j_X10_requested_241 s62 l0 l4 l5 0 l6 r61 t0 t1 t2 t3 t4
  else
    h_b1 (h_gR s62 l0 11 10) fun x65 =>
    h_b1 (h_aI s62 x65 100 l5) fun x67 =>
    j_X10_requested_241 s62 l0 l4 l5 x67 l6 r61 t0 t1 t2 t3 t4
def g_X10_requested_177 : Nat → HS → Option Nat → Int32 → Int32 → Int32 → Int32 → Int32 → Int32 → Option (Unit × HS)
  | 0, _, _, _, _, _, _, _, _ => none
  | n + 1, σ, l0, l1, l2, l3, l4, l5, l6 =>
    h_b1 (h_rcv σ l0 11) fun y53 =>
    h_bd (f_X10_isCrowded σ l0 l1 l3 l6 l5) fun r50 s51 =>
    if r50 = 0 then
      h_b1 (h_gR s51 l0 11 38) fun x56 =>
      h_b1 (h_aI s51 x56 100 1) fun x58 =>
      if l5 = (-1) then
        j_X10_requested_216 s51 l0 l3 l4 l5 l6 2 x58 l2 2 l0
      else
        j_X10_requested_216 s51 l0 l3 l4 l5 l6 1 x58 l2 2 l0
    else
      g_X10_requested_177 n s51 l0 l1 l2 l3 l4 l5 (l6 + 1)
def g_X10_requested_67 : Nat → HS → Option Nat → Int32 → Int32 → Int32 → Int32 → Int32 → Option (Unit × HS)
  | 0, _, _, _, _, _, _, _ => none
  | n + 1, σ, l0, l1, l2, l3, l4, l5 =>
    if 8 ≤ l5 then
      h_b1 (h_rcv σ l0 11) fun y43 =>
      h_bd (f_X10_best σ l0 l1 l3) fun r40 s41 =>
      if r40 = (-1) then
        h_b1 (h_gR s41 l0 11 5) fun x89 =>
        h_b1 (h_aI s41 x89 100 l1) fun x91 =>
        g_X10_requested_177 h_hN s41 l0 l1 l2 l3 l4 r40 x91
      else
        h_b1 (h_gR s41 l0 11 8) fun x46 =>
        h_b1 (h_aI s41 x46 100 r40) fun x48 =>
        g_X10_requested_177 h_hN s41 l0 l1 l2 l3 l4 r40 x48
    else
      h_b1 (h_gR σ l0 11 6) fun x93 =>
      h_b1 (h_aI σ x93 100 l5) fun x95 =>
      if x95 = l1 then
        h_b1 (h_gR σ l0 11 4) fun x98 =>
        h_b1 (h_aI σ x98 100 l5) fun x100 =>
        h_b1 (h_gR σ l0 11 5) fun x102 =>
        h_b1 (h_aI σ x102 100 l5) fun x104 =>
        h_bd (f_X10_begin σ x100 l3 x104) fun r106 s107 =>
        if r106 = 0 then
          g_X10_requested_67 n s107 l0 l1 l2 l3 l4 (l5 + 1)
        else
          h_b1 (h_gR s107 l0 11 38) fun x110 =>
          h_b1 (h_aI s107 x110 100 1) fun x112 =>
          h_b1 (h_gR s107 l0 11 4) fun x114 =>
          h_b1 (h_aI s107 x114 100 l5) fun x116 =>
          h_b1 (h_gR s107 l0 11 5) fun x118 =>
          h_b1 (h_aI s107 x118 100 l5) fun x120 =>
          h_b1 (h_rcv s107 l0 11) fun y125 =>
          h_bd (f_X10_post s107 l0 2 l2 x112 0 x116 x120 l5) fun _ s123 =>
          some ((), s123)
      else
        g_X10_requested_67 n σ l0 l1 l2 l3 l4 (l5 + 1)
def f_X10_requested (σ : HS) (a0 : Option Nat) : Option (Unit × HS) :=
  h_b1 (h_gR σ a0 11 38) fun x1 =>
  h_b1 (h_aI σ x1 100 7) fun x3 =>
  h_b1 (h_gR σ a0 11 38) fun x5 =>
  h_b1 (h_aI σ x5 100 0) fun x7 =>
  h_b1 (h_gR σ a0 11 38) fun x9 =>
  h_b1 (h_aI σ x9 100 2) fun x11 =>
  h_b1 (h_rcv σ a0 11) fun y16 =>
  h_bd (f_X10_isServerAt σ a0 x3) fun r13 s14 =>
  if r13 = 0 then
    some ((), s14)
  else
    h_b1 (h_rcv s14 a0 11) fun y22 =>
    h_bd (f_X10_isSite s14 a0 x7) fun r19 s20 =>
    if r19 = 0 then
      some ((), s20)
    else
      h_b1 (h_gR s20 a0 11 4) fun x25 =>
      h_b1 (h_aI s20 x25 100 x3) fun x27 =>
      h_b1 (h_gR s20 a0 11 5) fun x29 =>
      h_b1 (h_aI s20 x29 100 x3) fun x31 =>
      h_bd (f_X10_begin s20 x27 x11 x31) fun r33 s34 =>
      if r33 = 0 then
        some ((), s34)
      else
        h_b1 (h_gI s34 a0 11 36) fun x37 =>
        g_X10_requested_67 h_hN s34 a0 x3 x7 x11 x37 0
set_option maxHeartbeats 4000000 in
set_option maxRecDepth 100000 in
theorem jw_X10_requested_241 {p : Program} {l : Launch} {e : Env} {R : Room} {s : State} {m : MethodId} {args : Array Value} {below : List Frame} {meth : Method} {c : Code} {D : va_G} {dA : Nat → ClassId} {bs : Nat} (C : h_C p m c cX10_requested 7 s args RX10 D dA) {σ0 : HS} (B : h_B R s meth σ0 none 3 70) {σ' : HS} : ∀ (σ : HS) (l0 : Option Nat) (l4 : Int32) (l5 : Int32) (t0 : Int32) (t1 : Int32) (t2 : Int32) (t3 : Int32) (t4 : Int32) (t5 : Int32) (t6 : Int32) (t7 : Option Nat), j_X10_requested_241 σ l0 l4 l5 t0 t1 t2 t3 t4 t5 t6 t7 = some ((), σ') → V p l e R s m args below meth c D dA bs 7 (MQ below (h_Q D dA bs none σ0 σ') args s R.cells R.slots (fun q => bs ≤ q)) σ 241 [(0, va_rf l0), (4, .int l4), (5, .int l5)] [.int t0, .int t1, .int t2, .int t3, .int t4, .int t5, .int t6, va_rf t7] := by
  intro σ l0 l4 l5 t0 t1 t2 t3 t4 t5 t6 t7 h
  unfold j_X10_requested_241 at h
  obtain ⟨y72, e73, h⟩ := h_b1_some h
  obtain ⟨r69, s70, e71, h⟩ := h_bd_some h
  refine V_cV (As := [.int t6, .int t5, .int t4, .int t3, .int t2, .int t1, .int t0]) (rest := []) C mv_RX10_164 (m_X10_post l D dA bs e71) e73 rfl rfl (Nat.le_trans h_w0 (by decide)) (h_fr B (by decide)) (h_lo B (by decide)) dX10_requested_241 ?_
  refine V_aload_n C 0 dX10_requested_244 rfl rfl ?_
  refine V_iload C 2 dX10_requested_245 rfl ?_
  refine V_iconst (v := (-1)) C dX10_requested_247 (by decide) ?_
  refine V_icmp_ne (tgt := 255) C dX10_requested_248 (by decide) (fun c74 => ?_) (fun c74 => ?_)
  · rw [if_neg c74] at h
    refine V_aload_n C 0 dX10_requested_255 rfl rfl ?_
    obtain ⟨x75, e76, h⟩ := h_b1_some h
    refine V_getR C fl_RX10_39 dX10_requested_256 e76 ?_
    refine V_iload C 2 dX10_requested_259 rfl ?_
    obtain ⟨x77, e78, h⟩ := h_b1_some h
    refine V_iald C dX10_requested_261 e78 ?_
    refine V_iload C 1 dX10_requested_262 rfl ?_
    obtain ⟨y82, e83, h⟩ := h_b1_some h
    obtain ⟨r79, s80, e81, h⟩ := h_bd_some h
    refine V_cV (As := [.int x77, .int l4]) (rest := []) C mv_RX10_172 (m_X10_last l D dA bs e81) e83 rfl rfl (Nat.le_trans h_w0 (by decide)) (h_fr B (by decide)) (h_lo B (by decide)) dX10_requested_264 ?_
    cases h
    exact V_vret C B dX10_requested_267
  · rw [if_pos c74] at h
    refine V_iconst (v := 0) C dX10_requested_251 (by decide) ?_
    refine V_goto (tgt := 262) C dX10_requested_252 (by decide) ?_
    refine V_iload C 1 dX10_requested_262 rfl ?_
    obtain ⟨y87, e88, h⟩ := h_b1_some h
    obtain ⟨r84, s85, e86, h⟩ := h_bd_some h
    refine V_cV (As := [.int 0, .int l4]) (rest := []) C mv_RX10_172 (m_X10_last l D dA bs e86) e88 rfl rfl (Nat.le_trans h_w0 (by decide)) (h_fr B (by decide)) (h_lo B (by decide)) dX10_requested_264 ?_
    cases h
    exact V_vret C B dX10_requested_267
set_option maxHeartbeats 4000000 in
set_option maxRecDepth 100000 in
theorem jw_X10_requested_216 {p : Program} {l : Launch} {e : Env} {R : Room} {s : State} {m : MethodId} {args : Array Value} {below : List Frame} {meth : Method} {c : Code} {D : va_G} {dA : Nat → ClassId} {bs : Nat} (C : h_C p m c cX10_requested 7 s args RX10 D dA) {σ0 : HS} (B : h_B R s meth σ0 none 3 70) {σ' : HS} : ∀ (σ : HS) (l0 : Option Nat) (l3 : Int32) (l4 : Int32) (l5 : Int32) (l6 : Int32) (t0 : Int32) (t1 : Int32) (t2 : Int32) (t3 : Int32) (t4 : Option Nat), j_X10_requested_216 σ l0 l3 l4 l5 l6 t0 t1 t2 t3 t4 = some ((), σ') → V p l e R s m args below meth c D dA bs 7 (MQ below (h_Q D dA bs none σ0 σ') args s R.cells R.slots (fun q => bs ≤ q)) σ 216 [(0, va_rf l0), (3, .int l3), (4, .int l4), (5, .int l5), (6, .int l6)] [.int t0, .int t1, .int t2, .int t3, va_rf t4] := by
  intro σ l0 l3 l4 l5 l6 t0 t1 t2 t3 t4 h
  unfold j_X10_requested_216 at h
  refine V_iload_n C 1 dX10_requested_216 rfl rfl ?_
  refine V_iload C 4 dX10_requested_217 rfl ?_
  obtain ⟨r61, s62, e63, h⟩ := h_bd_some h
  refine V_cS (As := [.int l3, .int l6]) (rest := [.int t0, .int t1, .int t2, .int t3, va_rf t4]) C ms_RX10_219 (m_X10_cutTo l D dA bs e63) rfl rfl (Nat.le_trans (h_wI (h_wI (h_wI (h_wI (h_wR h_w0))))) (by decide)) (h_fr B (by decide)) (h_lo B (by decide)) dX10_requested_219 ?_
  refine V_iload C 4 dX10_requested_222 rfl ?_
  refine V_iload C 3 dX10_requested_224 rfl ?_
  refine V_iconst (v := (-1)) C dX10_requested_226 (by decide) ?_
  refine V_icmp_ne (tgt := 234) C dX10_requested_227 (by decide) (fun c64 => ?_) (fun c64 => ?_)
  · rw [if_neg c64] at h
    refine V_aload_n C 0 dX10_requested_234 rfl rfl ?_
    obtain ⟨x65, e66, h⟩ := h_b1_some h
    refine V_getR C fl_RX10_36 dX10_requested_235 e66 ?_
    refine V_iload C 3 dX10_requested_238 rfl ?_
    obtain ⟨x67, e68, h⟩ := h_b1_some h
    refine V_iald C dX10_requested_240 e68 ?_
    exact V_sub [0, 2, 3] rfl (jw_X10_requested_241 C B s62 l0 l4 l5 x67 l6 r61 t0 t1 t2 t3 t4 h)
  · rw [if_pos c64] at h
    refine V_iconst (v := 0) C dX10_requested_230 (by decide) ?_
    refine V_goto (tgt := 241) C dX10_requested_231 (by decide) ?_
    exact V_sub [0, 2, 3] rfl (jw_X10_requested_241 C B s62 l0 l4 l5 0 l6 r61 t0 t1 t2 t3 t4 h)
set_option maxHeartbeats 4000000 in
set_option maxRecDepth 100000 in
theorem w_X10_requested_177 {p : Program} {l : Launch} {e : Env} {R : Room} {s : State} {m : MethodId} {args : Array Value} {below : List Frame} {meth : Method} {c : Code} {D : va_G} {dA : Nat → ClassId} {bs : Nat} (C : h_C p m c cX10_requested 7 s args RX10 D dA) {σ0 : HS} (B : h_B R s meth σ0 none 3 70) {σ' : HS} : ∀ (n : Nat) (σ : HS) (l0 : Option Nat) (l1 : Int32) (l2 : Int32) (l3 : Int32) (l4 : Int32) (l5 : Int32) (l6 : Int32), g_X10_requested_177 n σ l0 l1 l2 l3 l4 l5 l6 = some ((), σ') → V p l e R s m args below meth c D dA bs 7 (MQ below (h_Q D dA bs none σ0 σ') args s R.cells R.slots (fun q => bs ≤ q)) σ 177 [(0, va_rf l0), (1, .int l1), (2, .int l2), (3, .int l3), (4, .int l4), (5, .int l5), (6, .int l6)] [] := by
  intro n
  induction n with
  | zero =>
    intro σ l0 l1 l2 l3 l4 l5 l6 h
    rw [g_X10_requested_177] at h
    cases h
  | succ n ih =>
    intro σ l0 l1 l2 l3 l4 l5 l6 h
    rw [g_X10_requested_177] at h
    refine V_aload_n C 0 dX10_requested_177 rfl rfl ?_
    refine V_iload_n C 1 dX10_requested_178 rfl rfl ?_
    refine V_iload_n C 3 dX10_requested_179 rfl rfl ?_
    refine V_iload C 6 dX10_requested_180 rfl ?_
    refine V_iload C 5 dX10_requested_182 rfl ?_
    obtain ⟨y53, e54, h⟩ := h_b1_some h
    obtain ⟨r50, s51, e52, h⟩ := h_bd_some h
    refine V_cV (As := [.int l1, .int l3, .int l6, .int l5]) (rest := []) C mv_RX10_216 (m_X10_isCrowded l D dA bs e52) e54 rfl rfl (Nat.le_trans h_w0 (by decide)) (h_fr B (by decide)) (h_lo B (by decide)) dX10_requested_184 ?_
    refine V_if_eq (tgt := 196) C dX10_requested_187 (by decide) (fun c55 => ?_) (fun c55 => ?_)
    · rw [if_pos c55] at h
      refine V_aload_n C 0 dX10_requested_196 rfl rfl ?_
      refine V_iconst (v := 2) C dX10_requested_197 (by decide) ?_
      refine V_iload_n C 2 dX10_requested_198 rfl rfl ?_
      refine V_aload_n C 0 dX10_requested_199 rfl rfl ?_
      obtain ⟨x56, e57, h⟩ := h_b1_some h
      refine V_getR C fl_RX10_112 dX10_requested_200 e57 ?_
      refine V_iconst (v := 1) C dX10_requested_203 (by decide) ?_
      obtain ⟨x58, e59, h⟩ := h_b1_some h
      refine V_iald C dX10_requested_204 e59 ?_
      refine V_iload C 5 dX10_requested_205 rfl ?_
      refine V_iconst (v := (-1)) C dX10_requested_207 (by decide) ?_
      refine V_icmp_ne (tgt := 215) C dX10_requested_208 (by decide) (fun c60 => ?_) (fun c60 => ?_)
      · rw [if_neg c60] at h
        refine V_iconst (v := 1) C dX10_requested_215 (by decide) ?_
        exact V_sub [0, 3, 4, 5, 6] rfl (jw_X10_requested_216 C B s51 l0 l3 l4 l5 l6 1 x58 l2 2 l0 h)
      · rw [if_pos c60] at h
        refine V_iconst (v := 2) C dX10_requested_211 (by decide) ?_
        refine V_goto (tgt := 216) C dX10_requested_212 (by decide) ?_
        exact V_sub [0, 3, 4, 5, 6] rfl (jw_X10_requested_216 C B s51 l0 l3 l4 l5 l6 2 x58 l2 2 l0 h)
    · rw [if_neg c55] at h
      refine V_iinc (v := (l6 + 1)) (lv' := [(6, .int (l6 + 1)), (0, va_rf l0), (1, .int l1), (2, .int l2), (3, .int l3), (4, .int l4), (5, .int l5)]) C 6 dX10_requested_190 rfl rfl (by decide) rfl ?_
      refine V_goto (tgt := 177) C dX10_requested_193 (by decide) ?_
      exact V_sub [1, 2, 3, 4, 5, 6, 0] rfl (ih s51 l0 l1 l2 l3 l4 l5 (l6 + 1) h)
set_option maxHeartbeats 4000000 in
set_option maxRecDepth 100000 in
theorem w_X10_requested_67 {p : Program} {l : Launch} {e : Env} {R : Room} {s : State} {m : MethodId} {args : Array Value} {below : List Frame} {meth : Method} {c : Code} {D : va_G} {dA : Nat → ClassId} {bs : Nat} (C : h_C p m c cX10_requested 7 s args RX10 D dA) {σ0 : HS} (B : h_B R s meth σ0 none 3 70) {σ' : HS} : ∀ (n : Nat) (σ : HS) (l0 : Option Nat) (l1 : Int32) (l2 : Int32) (l3 : Int32) (l4 : Int32) (l5 : Int32), g_X10_requested_67 n σ l0 l1 l2 l3 l4 l5 = some ((), σ') → V p l e R s m args below meth c D dA bs 7 (MQ below (h_Q D dA bs none σ0 σ') args s R.cells R.slots (fun q => bs ≤ q)) σ 67 [(0, va_rf l0), (1, .int l1), (2, .int l2), (3, .int l3), (4, .int l4), (5, .int l5)] [] := by
  intro n
  induction n with
  | zero =>
    intro σ l0 l1 l2 l3 l4 l5 h
    rw [g_X10_requested_67] at h
    cases h
  | succ n ih =>
    intro σ l0 l1 l2 l3 l4 l5 h
    rw [g_X10_requested_67] at h
    refine V_iload C 5 dX10_requested_67 rfl ?_
    refine V_bipush (v := 8) C dX10_requested_69 (by decide) ?_
    refine V_icmp_ge (tgt := 145) C dX10_requested_71 (by decide) (fun c39 => ?_) (fun c39 => ?_)
    · rw [if_pos c39] at h
      refine V_aload_n C 0 dX10_requested_145 rfl rfl ?_
      refine V_iload_n C 1 dX10_requested_146 rfl rfl ?_
      refine V_iload_n C 3 dX10_requested_147 rfl rfl ?_
      obtain ⟨y43, e44, h⟩ := h_b1_some h
      obtain ⟨r40, s41, e42, h⟩ := h_bd_some h
      refine V_cV (As := [.int l1, .int l3]) (rest := []) C mv_RX10_213 (m_X10_best l D dA bs e42) e44 rfl rfl (Nat.le_trans h_w0 (by decide)) (h_fr B (by decide)) (h_lo B (by decide)) dX10_requested_148 ?_
      refine V_istore (lv' := [(5, .int r40), (0, va_rf l0), (1, .int l1), (2, .int l2), (3, .int l3), (4, .int l4)]) C dX10_requested_151 (by decide) rfl ?_
      refine V_iload C 0 dX10_requested_153 rfl ?_
      refine V_iconst (v := (-1)) C dX10_requested_155 (by decide) ?_
      refine V_icmp_ne (tgt := 168) C dX10_requested_156 (by decide) (fun c45 => ?_) (fun c45 => ?_)
      · rw [if_neg c45] at h
        refine V_aload_n C 1 dX10_requested_168 rfl rfl ?_
        obtain ⟨x46, e47, h⟩ := h_b1_some h
        refine V_getR C fl_RX10_30 dX10_requested_169 e47 ?_
        refine V_iload C 0 dX10_requested_172 rfl ?_
        obtain ⟨x48, e49, h⟩ := h_b1_some h
        refine V_iald C dX10_requested_174 e49 ?_
        refine V_istore (lv' := [(6, .int x48), (5, .int r40), (0, va_rf l0), (1, .int l1), (2, .int l2), (3, .int l3), (4, .int l4)]) C dX10_requested_175 (by decide) rfl ?_
        exact V_sub [2, 3, 4, 5, 6, 1, 0] rfl (w_X10_requested_177 C B h_hN s41 l0 l1 l2 l3 l4 r40 x48 h)
      · rw [if_pos c45] at h
        refine V_aload_n C 1 dX10_requested_159 rfl rfl ?_
        obtain ⟨x89, e90, h⟩ := h_b1_some h
        refine V_getR C fl_RX10_21 dX10_requested_160 e90 ?_
        refine V_iload_n C 2 dX10_requested_163 rfl rfl ?_
        obtain ⟨x91, e92, h⟩ := h_b1_some h
        refine V_iald C dX10_requested_164 e92 ?_
        refine V_goto (tgt := 175) C dX10_requested_165 (by decide) ?_
        refine V_istore (lv' := [(6, .int x91), (5, .int r40), (0, va_rf l0), (1, .int l1), (2, .int l2), (3, .int l3), (4, .int l4)]) C dX10_requested_175 (by decide) rfl ?_
        exact V_sub [2, 3, 4, 5, 6, 1, 0] rfl (w_X10_requested_177 C B h_hN s41 l0 l1 l2 l3 l4 r40 x91 h)
    · rw [if_neg c39] at h
      refine V_aload_n C 0 dX10_requested_74 rfl rfl ?_
      obtain ⟨x93, e94, h⟩ := h_b1_some h
      refine V_getR C fl_RX10_24 dX10_requested_75 e94 ?_
      refine V_iload C 5 dX10_requested_78 rfl ?_
      obtain ⟨x95, e96, h⟩ := h_b1_some h
      refine V_iald C dX10_requested_80 e96 ?_
      refine V_iload_n C 1 dX10_requested_81 rfl rfl ?_
      refine V_icmp_ne (tgt := 139) C dX10_requested_82 (by decide) (fun c97 => ?_) (fun c97 => ?_)
      · rw [if_neg c97] at h
        refine V_iinc (v := (l5 + 1)) (lv' := [(5, .int (l5 + 1)), (0, va_rf l0), (1, .int l1), (2, .int l2), (3, .int l3), (4, .int l4)]) C 5 dX10_requested_139 rfl rfl (by decide) rfl ?_
        refine V_goto (tgt := 67) C dX10_requested_142 (by decide) ?_
        exact V_sub [1, 2, 3, 4, 5, 0] rfl (ih σ l0 l1 l2 l3 l4 (l5 + 1) h)
      · rw [if_pos c97] at h
        refine V_aload_n C 0 dX10_requested_85 rfl rfl ?_
        obtain ⟨x98, e99, h⟩ := h_b1_some h
        refine V_getR C fl_RX10_17 dX10_requested_86 e99 ?_
        refine V_iload C 5 dX10_requested_89 rfl ?_
        obtain ⟨x100, e101, h⟩ := h_b1_some h
        refine V_iald C dX10_requested_91 e101 ?_
        refine V_iload_n C 3 dX10_requested_92 rfl rfl ?_
        refine V_aload_n C 0 dX10_requested_93 rfl rfl ?_
        obtain ⟨x102, e103, h⟩ := h_b1_some h
        refine V_getR C fl_RX10_21 dX10_requested_94 e103 ?_
        refine V_iload C 5 dX10_requested_97 rfl ?_
        obtain ⟨x104, e105, h⟩ := h_b1_some h
        refine V_iald C dX10_requested_99 e105 ?_
        obtain ⟨r106, s107, e108, h⟩ := h_bd_some h
        refine V_cS (As := [.int x100, .int l3, .int x104]) (rest := []) C ms_RX10_124 (m_X10_begin l D dA bs e108) rfl rfl (Nat.le_trans h_w0 (by decide)) (h_fr B (by decide)) (h_lo B (by decide)) dX10_requested_100 ?_
        refine V_if_ne (tgt := 109) C dX10_requested_103 (by decide) (fun c109 => ?_) (fun c109 => ?_)
        · rw [if_neg c109] at h
          refine V_aload_n C 0 dX10_requested_109 rfl rfl ?_
          refine V_iconst (v := 2) C dX10_requested_110 (by decide) ?_
          refine V_iload_n C 2 dX10_requested_111 rfl rfl ?_
          refine V_aload_n C 0 dX10_requested_112 rfl rfl ?_
          obtain ⟨x110, e111, h⟩ := h_b1_some h
          refine V_getR C fl_RX10_112 dX10_requested_113 e111 ?_
          refine V_iconst (v := 1) C dX10_requested_116 (by decide) ?_
          obtain ⟨x112, e113, h⟩ := h_b1_some h
          refine V_iald C dX10_requested_117 e113 ?_
          refine V_iconst (v := 0) C dX10_requested_118 (by decide) ?_
          refine V_aload_n C 0 dX10_requested_119 rfl rfl ?_
          obtain ⟨x114, e115, h⟩ := h_b1_some h
          refine V_getR C fl_RX10_17 dX10_requested_120 e115 ?_
          refine V_iload C 5 dX10_requested_123 rfl ?_
          obtain ⟨x116, e117, h⟩ := h_b1_some h
          refine V_iald C dX10_requested_125 e117 ?_
          refine V_aload_n C 0 dX10_requested_126 rfl rfl ?_
          obtain ⟨x118, e119, h⟩ := h_b1_some h
          refine V_getR C fl_RX10_21 dX10_requested_127 e119 ?_
          refine V_iload C 5 dX10_requested_130 rfl ?_
          obtain ⟨x120, e121, h⟩ := h_b1_some h
          refine V_iald C dX10_requested_132 e121 ?_
          refine V_iload C 5 dX10_requested_133 rfl ?_
          obtain ⟨y125, e126, h⟩ := h_b1_some h
          obtain ⟨r122, s123, e124, h⟩ := h_bd_some h
          refine V_cV (As := [.int 2, .int l2, .int x112, .int 0, .int x116, .int x120, .int l5]) (rest := []) C mv_RX10_164 (m_X10_post l D dA bs e124) e126 rfl rfl (Nat.le_trans h_w0 (by decide)) (h_fr B (by decide)) (h_lo B (by decide)) dX10_requested_135 ?_
          cases h
          exact V_vret C B dX10_requested_138
        · rw [if_pos c109] at h
          refine V_goto (tgt := 139) C dX10_requested_106 (by decide) ?_
          refine V_iinc (v := (l5 + 1)) (lv' := [(5, .int (l5 + 1)), (0, va_rf l0), (1, .int l1), (2, .int l2), (3, .int l3), (4, .int l4)]) C 5 dX10_requested_139 rfl rfl (by decide) rfl ?_
          refine V_goto (tgt := 67) C dX10_requested_142 (by decide) ?_
          exact V_sub [1, 2, 3, 4, 5, 0] rfl (ih s107 l0 l1 l2 l3 l4 (l5 + 1) h)
set_option maxHeartbeats 4000000 in
set_option maxRecDepth 100000 in
theorem m_X10_requested (l : Launch) (D : va_G) (dA : Nat → ClassId) (bs : Nat) {σ σ' : HS} {a0 : Option Nat} (h : f_X10_requested σ a0 = some ((), σ')) : MetC l yX10_requested cX10_requested 7 none 3 70 D dA bs [va_rf a0] none σ σ' := by
  refine MetC.of (by decide) (h_avR h_av0) (Nat.le_of_ble_eq_true rfl) ?_
  intro p e R s m args below meth c C B hnm
  unfold f_X10_requested at h
  refine V_sub (lv' := [(0, va_rf a0)]) [0] rfl ?_
  refine V_aload_n C 0 dX10_requested_0 rfl rfl ?_
  obtain ⟨x1, e2, h⟩ := h_b1_some h
  refine V_getR C fl_RX10_112 dX10_requested_1 e2 ?_
  refine V_bipush (v := 7) C dX10_requested_4 (by decide) ?_
  obtain ⟨x3, e4, h⟩ := h_b1_some h
  refine V_iald C dX10_requested_6 e4 ?_
  refine V_istore_n (lv' := [(1, .int x3), (0, va_rf a0)]) C dX10_requested_7 rfl (by decide) rfl ?_
  refine V_aload_n C 1 dX10_requested_8 rfl rfl ?_
  obtain ⟨x5, e6, h⟩ := h_b1_some h
  refine V_getR C fl_RX10_112 dX10_requested_9 e6 ?_
  refine V_iconst (v := 0) C dX10_requested_12 (by decide) ?_
  obtain ⟨x7, e8, h⟩ := h_b1_some h
  refine V_iald C dX10_requested_13 e8 ?_
  refine V_istore_n (lv' := [(2, .int x7), (1, .int x3), (0, va_rf a0)]) C dX10_requested_14 rfl (by decide) rfl ?_
  refine V_aload_n C 2 dX10_requested_15 rfl rfl ?_
  obtain ⟨x9, e10, h⟩ := h_b1_some h
  refine V_getR C fl_RX10_112 dX10_requested_16 e10 ?_
  refine V_iconst (v := 2) C dX10_requested_19 (by decide) ?_
  obtain ⟨x11, e12, h⟩ := h_b1_some h
  refine V_iald C dX10_requested_20 e12 ?_
  refine V_istore_n (lv' := [(3, .int x11), (2, .int x7), (1, .int x3), (0, va_rf a0)]) C dX10_requested_21 rfl (by decide) rfl ?_
  refine V_aload_n C 3 dX10_requested_22 rfl rfl ?_
  refine V_iload_n C 2 dX10_requested_23 rfl rfl ?_
  obtain ⟨y16, e17, h⟩ := h_b1_some h
  obtain ⟨r13, s14, e15, h⟩ := h_bd_some h
  refine V_cV (As := [.int x3]) (rest := []) C mv_RX10_131 (m_X10_isServerAt l D dA bs e15) e17 rfl rfl (Nat.le_trans h_w0 (by decide)) (h_fr B (by decide)) (h_lo B (by decide)) dX10_requested_24 ?_
  refine V_if_eq (tgt := 57) C dX10_requested_27 (by decide) (fun c18 => ?_) (fun c18 => ?_)
  · rw [if_pos c18] at h
    cases h
    exact V_vret C B dX10_requested_57
  · rw [if_neg c18] at h
    refine V_aload_n C 3 dX10_requested_30 rfl rfl ?_
    refine V_iload_n C 1 dX10_requested_31 rfl rfl ?_
    obtain ⟨y22, e23, h⟩ := h_b1_some h
    obtain ⟨r19, s20, e21, h⟩ := h_bd_some h
    refine V_cV (As := [.int x7]) (rest := []) C mv_RX10_147 (m_X10_isSite l D dA bs e21) e23 rfl rfl (Nat.le_trans h_w0 (by decide)) (h_fr B (by decide)) (h_lo B (by decide)) dX10_requested_32 ?_
    refine V_if_eq (tgt := 57) C dX10_requested_35 (by decide) (fun c24 => ?_) (fun c24 => ?_)
    · rw [if_pos c24] at h
      cases h
      exact V_vret C B dX10_requested_57
    · rw [if_neg c24] at h
      refine V_aload_n C 3 dX10_requested_38 rfl rfl ?_
      obtain ⟨x25, e26, h⟩ := h_b1_some h
      refine V_getR C fl_RX10_17 dX10_requested_39 e26 ?_
      refine V_iload_n C 2 dX10_requested_42 rfl rfl ?_
      obtain ⟨x27, e28, h⟩ := h_b1_some h
      refine V_iald C dX10_requested_43 e28 ?_
      refine V_iload_n C 0 dX10_requested_44 rfl rfl ?_
      refine V_aload_n C 3 dX10_requested_45 rfl rfl ?_
      obtain ⟨x29, e30, h⟩ := h_b1_some h
      refine V_getR C fl_RX10_21 dX10_requested_46 e30 ?_
      refine V_iload_n C 2 dX10_requested_49 rfl rfl ?_
      obtain ⟨x31, e32, h⟩ := h_b1_some h
      refine V_iald C dX10_requested_50 e32 ?_
      obtain ⟨r33, s34, e35, h⟩ := h_bd_some h
      refine V_cS (As := [.int x27, .int x11, .int x31]) (rest := []) C ms_RX10_124 (m_X10_begin l D dA bs e35) rfl rfl (Nat.le_trans h_w0 (by decide)) (h_fr B (by decide)) (h_lo B (by decide)) dX10_requested_51 ?_
      refine V_if_ne (tgt := 58) C dX10_requested_54 (by decide) (fun c36 => ?_) (fun c36 => ?_)
      · rw [if_neg c36] at h
        refine V_aload_n C 3 dX10_requested_58 rfl rfl ?_
        obtain ⟨x37, e38, h⟩ := h_b1_some h
        refine V_getI C fl_RX10_153 dX10_requested_59 e38 ?_
        refine V_istore (lv' := [(4, .int x37), (3, .int x11), (2, .int x7), (1, .int x3), (0, va_rf a0)]) C dX10_requested_62 (by decide) rfl ?_
        refine V_iconst (v := 0) C dX10_requested_64 (by decide) ?_
        refine V_istore (lv' := [(5, .int 0), (4, .int x37), (3, .int x11), (2, .int x7), (1, .int x3), (0, va_rf a0)]) C dX10_requested_65 (by decide) rfl ?_
        exact V_sub [5, 4, 3, 2, 1, 0] rfl (w_X10_requested_67 C B h_hN s34 a0 x3 x7 x11 x37 0 h)
      · rw [if_pos c36] at h
        cases h
        exact V_vret C B dX10_requested_57
