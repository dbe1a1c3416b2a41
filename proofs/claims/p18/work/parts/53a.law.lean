/-! THE LAW, CALL BY CALL -/
theorem dL_law_120 : decode cL_law 120 = .ok (.aload_n 1, 1) := by decide +kernel
theorem dL_law_121 : decode cL_law 121 = .ok (.aload_n 0, 1) := by decide +kernel
theorem dL_law_122 : decode cL_law 122 = .ok (.iload 4, 2) := by decide +kernel
theorem dL_law_124 : decode cL_law 124 = .ok (.iconst 1, 1) := by decide +kernel
theorem dL_law_125 : decode cL_law 125 = .ok (.iadd, 1) := by decide +kernel
theorem dL_law_126 : decode cL_law 126 = .ok (.iaload, 1) := by decide +kernel
theorem dL_law_127 : decode cL_law 127 = .ok (.aload_n 0, 1) := by decide +kernel
theorem dL_law_128 : decode cL_law 128 = .ok (.iload 4, 2) := by decide +kernel
theorem dL_law_130 : decode cL_law 130 = .ok (.iconst 2, 1) := by decide +kernel
theorem dL_law_131 : decode cL_law 131 = .ok (.iadd, 1) := by decide +kernel
theorem dL_law_132 : decode cL_law 132 = .ok (.iaload, 1) := by decide +kernel
theorem dL_law_133 : decode cL_law 133 = .ok (.aload_n 0, 1) := by decide +kernel
theorem dL_law_134 : decode cL_law 134 = .ok (.iload 4, 2) := by decide +kernel
theorem dL_law_136 : decode cL_law 136 = .ok (.iconst 3, 1) := by decide +kernel
theorem dL_law_137 : decode cL_law 137 = .ok (.iadd, 1) := by decide +kernel
theorem dL_law_138 : decode cL_law 138 = .ok (.iaload, 1) := by decide +kernel
theorem dL_law_139 : decode cL_law 139 = .ok (.aload_n 0, 1) := by decide +kernel
theorem dL_law_140 : decode cL_law 140 = .ok (.iload 4, 2) := by decide +kernel
theorem dL_law_142 : decode cL_law 142 = .ok (.iconst 4, 1) := by decide +kernel
theorem dL_law_143 : decode cL_law 143 = .ok (.iadd, 1) := by decide +kernel
theorem dL_law_144 : decode cL_law 144 = .ok (.iaload, 1) := by decide +kernel
theorem dL_law_145 : decode cL_law 145 = .ok (.invokestatic 71, 3) := by decide +kernel
theorem dL_law_148 : decode cL_law 148 = .ok (.istore 5, 2) := by decide +kernel
theorem dL_law_150 : decode cL_law 150 = .ok (.aload_n 2, 1) := by decide +kernel
theorem dL_law_151 : decode cL_law 151 = .ok (.aload_n 0, 1) := by decide +kernel
theorem dL_law_152 : decode cL_law 152 = .ok (.iload 4, 2) := by decide +kernel
theorem dL_law_154 : decode cL_law 154 = .ok (.iconst 1, 1) := by decide +kernel
theorem dL_law_155 : decode cL_law 155 = .ok (.iadd, 1) := by decide +kernel
theorem dL_law_156 : decode cL_law 156 = .ok (.iaload, 1) := by decide +kernel
theorem dL_law_157 : decode cL_law 157 = .ok (.aload_n 0, 1) := by decide +kernel
theorem dL_law_158 : decode cL_law 158 = .ok (.iload 4, 2) := by decide +kernel
theorem dL_law_160 : decode cL_law 160 = .ok (.iconst 2, 1) := by decide +kernel
theorem dL_law_161 : decode cL_law 161 = .ok (.iadd, 1) := by decide +kernel
theorem dL_law_162 : decode cL_law 162 = .ok (.iaload, 1) := by decide +kernel
theorem dL_law_163 : decode cL_law 163 = .ok (.aload_n 0, 1) := by decide +kernel
theorem dL_law_164 : decode cL_law 164 = .ok (.iload 4, 2) := by decide +kernel
theorem dL_law_166 : decode cL_law 166 = .ok (.iconst 3, 1) := by decide +kernel
theorem dL_law_167 : decode cL_law 167 = .ok (.iadd, 1) := by decide +kernel
theorem dL_law_168 : decode cL_law 168 = .ok (.iaload, 1) := by decide +kernel
theorem dL_law_169 : decode cL_law 169 = .ok (.aload_n 0, 1) := by decide +kernel
theorem dL_law_170 : decode cL_law 170 = .ok (.iload 4, 2) := by decide +kernel
theorem dL_law_172 : decode cL_law 172 = .ok (.iconst 4, 1) := by decide +kernel
theorem dL_law_173 : decode cL_law 173 = .ok (.iadd, 1) := by decide +kernel
theorem dL_law_174 : decode cL_law 174 = .ok (.iaload, 1) := by decide +kernel
theorem dL_law_175 : decode cL_law 175 = .ok (.invokevirtual 76, 3) := by decide +kernel
theorem dL_law_178 : decode cL_law 178 = .ok (.goto 556, 3) := by decide +kernel
set_option maxHeartbeats 4000000 in
set_option maxRecDepth 100000 in
theorem lw_delegate {p : Program} {l : Launch} {e : Env} {R : Room} {s : State} {m : MethodId} {args : Array Value} {below : List Frame} {meth : Method} {c : Code} {D : va_G} {dA : Nat → ClassId} {bs b L : Nat} {xs : Nat → Int32} {x mo o : Option Nat} {Q : State → Prop} (hl : l.stackTraces = false) (C : h_C p m c code 7 s args RL D dA) (hE : h_EY bs s) (hF : 11 ≤ R.frames) (hLo : 426 ≤ R.locals) (hX : va_X b L xs s s.heap) (hbl : b < s.heap.size) (hbs : bs = s.heap.size) {i : Nat} (hi : i + 5 ≤ L) (hL : L ≤ 2560) {σ : HS} {K : HS → Prop} (h : lc_delegate xs x mo o i σ K)
    (kk : ∀ τ, K τ → V p l e R s m args below meth c D dA bs 7 Q τ 734 [(4, .int (nI i)), (3, va_rf o), (2, va_rf mo), (1, va_rf x), (0, va_rf (some b))] []) : V p l e R s m args below meth c D dA bs 7 Q σ 120 [(4, .int (nI i)), (3, va_rf o), (2, va_rf mo), (1, va_rf x), (0, va_rf (some b))] [] := by
  obtain ⟨q, r, σ1, hq, h1, hk, hn⟩ := h
  refine V_aload_n C 3 dL_law_120 rfl rfl ?_
  refine V_aload_n C 4 dL_law_121 rfl rfl ?_
  refine V_iload C 0 dL_law_122 rfl ?_
  refine V_iconst (v := 1) C dL_law_124 (by decide) ?_
  refine V_iadd C dL_law_125 ?_
  rw [lw_a1]
  refine V_sld C hX hbl hbs (j := i + 1) (by omega) (by omega) dL_law_126 ?_
  refine V_aload_n C 4 dL_law_127 rfl rfl ?_
  refine V_iload C 0 dL_law_128 rfl ?_
  refine V_iconst (v := 2) C dL_law_130 (by decide) ?_
  refine V_iadd C dL_law_131 ?_
  rw [lw_a2]
  refine V_sld C hX hbl hbs (j := i + 2) (by omega) (by omega) dL_law_132 ?_
  refine V_aload_n C 4 dL_law_133 rfl rfl ?_
  refine V_iload C 0 dL_law_134 rfl ?_
  refine V_iconst (v := 3) C dL_law_136 (by decide) ?_
  refine V_iadd C dL_law_137 ?_
  rw [lw_a3]
  refine V_sld C hX hbl hbs (j := i + 3) (by omega) (by omega) dL_law_138 ?_
  refine V_aload_n C 4 dL_law_139 rfl rfl ?_
  refine V_iload C 0 dL_law_140 rfl ?_
  refine V_iconst (v := 4) C dL_law_142 (by decide) ?_
  refine V_iadd C dL_law_143 ?_
  rw [lw_a4]
  refine V_sld C hX hbl hbs (j := i + 4) (by omega) (by omega) dL_law_144 ?_
  refine V_cH (As := [va_rf x, .int (xs (i + 1)), .int (xs (i + 2)), .int (xs (i + 3)), .int (xs (i + 4))]) (rest := []) C mh_71 (m_L_delegate l hl D dA bs hq h1 hk) hE rfl rfl (Nat.le_trans h_w0 (by decide)) (Nat.le_trans (by decide) hF) (Nat.le_trans (by decide) hLo) dL_law_145 (fun k σ2 hp => ?_)
  obtain ⟨q2, hq2, σ3, h2, hK⟩ := hn k σ2 hp
  refine V_istore (lv' := [(5, .int k), (4, .int (nI i)), (3, va_rf o), (2, va_rf mo), (1, va_rf x), (0, va_rf (some b))]) C dL_law_148 (by decide) rfl ?_
  refine V_aload_n C 3 dL_law_150 rfl rfl ?_
  refine V_aload_n C 5 dL_law_151 rfl rfl ?_
  refine V_iload C 1 dL_law_152 rfl ?_
  refine V_iconst (v := 1) C dL_law_154 (by decide) ?_
  refine V_iadd C dL_law_155 ?_
  rw [lw_a1]
  refine V_sld C hX hbl hbs (j := i + 1) (by omega) (by omega) dL_law_156 ?_
  refine V_aload_n C 5 dL_law_157 rfl rfl ?_
  refine V_iload C 1 dL_law_158 rfl ?_
  refine V_iconst (v := 2) C dL_law_160 (by decide) ?_
  refine V_iadd C dL_law_161 ?_
  rw [lw_a2]
  refine V_sld C hX hbl hbs (j := i + 2) (by omega) (by omega) dL_law_162 ?_
  refine V_aload_n C 5 dL_law_163 rfl rfl ?_
  refine V_iload C 1 dL_law_164 rfl ?_
  refine V_iconst (v := 3) C dL_law_166 (by decide) ?_
  refine V_iadd C dL_law_167 ?_
  rw [lw_a3]
  refine V_sld C hX hbl hbs (j := i + 3) (by omega) (by omega) dL_law_168 ?_
  refine V_aload_n C 5 dL_law_169 rfl rfl ?_
  refine V_iload C 1 dL_law_170 rfl ?_
  refine V_iconst (v := 4) C dL_law_172 (by decide) ?_
  refine V_iadd C dL_law_173 ?_
  rw [lw_a4]
  refine V_sld C hX hbl hbs (j := i + 4) (by omega) (by omega) dL_law_174 ?_
  refine V_cV (As := [.int (xs (i + 1)), .int (xs (i + 2)), .int (xs (i + 3)), .int (xs (i + 4))]) (rest := []) C mv_RL_76 (m_X10_delegate l D dA bs h2) hq2 rfl rfl (Nat.le_trans h_w0 (by decide)) (Nat.le_trans (by decide) hF) (Nat.le_trans (by decide) hLo) dL_law_175 ?_
  refine V_goto (tgt := 734) C dL_law_178 (by decide) ?_
  exact V_sub [1, 2, 3, 4, 5] rfl (kk σ3 hK)
theorem dL_law_181 : decode cL_law 181 = .ok (.aload_n 1, 1) := by decide +kernel
theorem dL_law_182 : decode cL_law 182 = .ok (.aload_n 0, 1) := by decide +kernel
theorem dL_law_183 : decode cL_law 183 = .ok (.iload 4, 2) := by decide +kernel
theorem dL_law_185 : decode cL_law 185 = .ok (.iconst 1, 1) := by decide +kernel
theorem dL_law_186 : decode cL_law 186 = .ok (.iadd, 1) := by decide +kernel
theorem dL_law_187 : decode cL_law 187 = .ok (.iaload, 1) := by decide +kernel
theorem dL_law_188 : decode cL_law 188 = .ok (.aload_n 0, 1) := by decide +kernel
theorem dL_law_189 : decode cL_law 189 = .ok (.iload 4, 2) := by decide +kernel
theorem dL_law_191 : decode cL_law 191 = .ok (.iconst 2, 1) := by decide +kernel
theorem dL_law_192 : decode cL_law 192 = .ok (.iadd, 1) := by decide +kernel
theorem dL_law_193 : decode cL_law 193 = .ok (.iaload, 1) := by decide +kernel
theorem dL_law_194 : decode cL_law 194 = .ok (.invokestatic 77, 3) := by decide +kernel
theorem dL_law_197 : decode cL_law 197 = .ok (.istore 5, 2) := by decide +kernel
theorem dL_law_199 : decode cL_law 199 = .ok (.aload_n 2, 1) := by decide +kernel
theorem dL_law_200 : decode cL_law 200 = .ok (.aload_n 0, 1) := by decide +kernel
theorem dL_law_201 : decode cL_law 201 = .ok (.iload 4, 2) := by decide +kernel
theorem dL_law_203 : decode cL_law 203 = .ok (.iconst 1, 1) := by decide +kernel
theorem dL_law_204 : decode cL_law 204 = .ok (.iadd, 1) := by decide +kernel
theorem dL_law_205 : decode cL_law 205 = .ok (.iaload, 1) := by decide +kernel
theorem dL_law_206 : decode cL_law 206 = .ok (.aload_n 0, 1) := by decide +kernel
theorem dL_law_207 : decode cL_law 207 = .ok (.iload 4, 2) := by decide +kernel
theorem dL_law_209 : decode cL_law 209 = .ok (.iconst 2, 1) := by decide +kernel
theorem dL_law_210 : decode cL_law 210 = .ok (.iadd, 1) := by decide +kernel
theorem dL_law_211 : decode cL_law 211 = .ok (.iaload, 1) := by decide +kernel
theorem dL_law_212 : decode cL_law 212 = .ok (.invokevirtual 80, 3) := by decide +kernel
theorem dL_law_215 : decode cL_law 215 = .ok (.goto 519, 3) := by decide +kernel
set_option maxHeartbeats 4000000 in
set_option maxRecDepth 100000 in
theorem lw_site {p : Program} {l : Launch} {e : Env} {R : Room} {s : State} {m : MethodId} {args : Array Value} {below : List Frame} {meth : Method} {c : Code} {D : va_G} {dA : Nat → ClassId} {bs b L : Nat} {xs : Nat → Int32} {x mo o : Option Nat} {Q : State → Prop} (hl : l.stackTraces = false) (C : h_C p m c code 7 s args RL D dA) (hE : h_EY bs s) (hF : 11 ≤ R.frames) (hLo : 426 ≤ R.locals) (hX : va_X b L xs s s.heap) (hbl : b < s.heap.size) (hbs : bs = s.heap.size) {i : Nat} (hi : i + 5 ≤ L) (hL : L ≤ 2560) {σ : HS} {K : HS → Prop} (h : lc_site xs x mo o i σ K)
    (kk : ∀ τ, K τ → V p l e R s m args below meth c D dA bs 7 Q τ 734 [(4, .int (nI i)), (3, va_rf o), (2, va_rf mo), (1, va_rf x), (0, va_rf (some b))] []) : V p l e R s m args below meth c D dA bs 7 Q σ 181 [(4, .int (nI i)), (3, va_rf o), (2, va_rf mo), (1, va_rf x), (0, va_rf (some b))] [] := by
  obtain ⟨q, r, σ1, hq, h1, hk, hn⟩ := h
  refine V_aload_n C 3 dL_law_181 rfl rfl ?_
  refine V_aload_n C 4 dL_law_182 rfl rfl ?_
  refine V_iload C 0 dL_law_183 rfl ?_
  refine V_iconst (v := 1) C dL_law_185 (by decide) ?_
  refine V_iadd C dL_law_186 ?_
  rw [lw_a1]
  refine V_sld C hX hbl hbs (j := i + 1) (by omega) (by omega) dL_law_187 ?_
  refine V_aload_n C 4 dL_law_188 rfl rfl ?_
  refine V_iload C 0 dL_law_189 rfl ?_
  refine V_iconst (v := 2) C dL_law_191 (by decide) ?_
  refine V_iadd C dL_law_192 ?_
  rw [lw_a2]
  refine V_sld C hX hbl hbs (j := i + 2) (by omega) (by omega) dL_law_193 ?_
  refine V_cH (As := [va_rf x, .int (xs (i + 1)), .int (xs (i + 2))]) (rest := []) C mh_77 (m_L_site l hl D dA bs hq h1 hk) hE rfl rfl (Nat.le_trans h_w0 (by decide)) (Nat.le_trans (by decide) hF) (Nat.le_trans (by decide) hLo) dL_law_194 (fun k σ2 hp => ?_)
  obtain ⟨q2, hq2, σ3, h2, hK⟩ := hn k σ2 hp
  refine V_istore (lv' := [(5, .int k), (4, .int (nI i)), (3, va_rf o), (2, va_rf mo), (1, va_rf x), (0, va_rf (some b))]) C dL_law_197 (by decide) rfl ?_
  refine V_aload_n C 3 dL_law_199 rfl rfl ?_
  refine V_aload_n C 5 dL_law_200 rfl rfl ?_
  refine V_iload C 1 dL_law_201 rfl ?_
  refine V_iconst (v := 1) C dL_law_203 (by decide) ?_
  refine V_iadd C dL_law_204 ?_
  rw [lw_a1]
  refine V_sld C hX hbl hbs (j := i + 1) (by omega) (by omega) dL_law_205 ?_
  refine V_aload_n C 5 dL_law_206 rfl rfl ?_
  refine V_iload C 1 dL_law_207 rfl ?_
  refine V_iconst (v := 2) C dL_law_209 (by decide) ?_
  refine V_iadd C dL_law_210 ?_
  rw [lw_a2]
  refine V_sld C hX hbl hbs (j := i + 2) (by omega) (by omega) dL_law_211 ?_
  refine V_cV (As := [.int (xs (i + 1)), .int (xs (i + 2))]) (rest := []) C mv_RL_80 (m_X10_site l D dA bs h2) hq2 rfl rfl (Nat.le_trans h_w0 (by decide)) (Nat.le_trans (by decide) hF) (Nat.le_trans (by decide) hLo) dL_law_212 ?_
  refine V_goto (tgt := 734) C dL_law_215 (by decide) ?_
  exact V_sub [1, 2, 3, 4, 5] rfl (kk σ3 hK)
theorem dL_law_218 : decode cL_law 218 = .ok (.aload_n 1, 1) := by decide +kernel
theorem dL_law_219 : decode cL_law 219 = .ok (.aload_n 0, 1) := by decide +kernel
theorem dL_law_220 : decode cL_law 220 = .ok (.iload 4, 2) := by decide +kernel
theorem dL_law_222 : decode cL_law 222 = .ok (.iconst 1, 1) := by decide +kernel
theorem dL_law_223 : decode cL_law 223 = .ok (.iadd, 1) := by decide +kernel
theorem dL_law_224 : decode cL_law 224 = .ok (.iaload, 1) := by decide +kernel
theorem dL_law_225 : decode cL_law 225 = .ok (.aload_n 0, 1) := by decide +kernel
theorem dL_law_226 : decode cL_law 226 = .ok (.iload 4, 2) := by decide +kernel
theorem dL_law_228 : decode cL_law 228 = .ok (.iconst 2, 1) := by decide +kernel
theorem dL_law_229 : decode cL_law 229 = .ok (.iadd, 1) := by decide +kernel
theorem dL_law_230 : decode cL_law 230 = .ok (.iaload, 1) := by decide +kernel
theorem dL_law_231 : decode cL_law 231 = .ok (.aload_n 0, 1) := by decide +kernel
theorem dL_law_232 : decode cL_law 232 = .ok (.iload 4, 2) := by decide +kernel
theorem dL_law_234 : decode cL_law 234 = .ok (.iconst 3, 1) := by decide +kernel
theorem dL_law_235 : decode cL_law 235 = .ok (.iadd, 1) := by decide +kernel
theorem dL_law_236 : decode cL_law 236 = .ok (.iaload, 1) := by decide +kernel
theorem dL_law_237 : decode cL_law 237 = .ok (.aload_n 3, 1) := by decide +kernel
theorem dL_law_238 : decode cL_law 238 = .ok (.invokestatic 81, 3) := by decide +kernel
theorem dL_law_241 : decode cL_law 241 = .ok (.istore 5, 2) := by decide +kernel
theorem dL_law_243 : decode cL_law 243 = .ok (.aload_n 2, 1) := by decide +kernel
theorem dL_law_244 : decode cL_law 244 = .ok (.aload_n 0, 1) := by decide +kernel
theorem dL_law_245 : decode cL_law 245 = .ok (.iload 4, 2) := by decide +kernel
theorem dL_law_247 : decode cL_law 247 = .ok (.iconst 1, 1) := by decide +kernel
theorem dL_law_248 : decode cL_law 248 = .ok (.iadd, 1) := by decide +kernel
theorem dL_law_249 : decode cL_law 249 = .ok (.iaload, 1) := by decide +kernel
theorem dL_law_250 : decode cL_law 250 = .ok (.aload_n 0, 1) := by decide +kernel
theorem dL_law_251 : decode cL_law 251 = .ok (.iload 4, 2) := by decide +kernel
theorem dL_law_253 : decode cL_law 253 = .ok (.iconst 2, 1) := by decide +kernel
theorem dL_law_254 : decode cL_law 254 = .ok (.iadd, 1) := by decide +kernel
theorem dL_law_255 : decode cL_law 255 = .ok (.iaload, 1) := by decide +kernel
theorem dL_law_256 : decode cL_law 256 = .ok (.aload_n 0, 1) := by decide +kernel
theorem dL_law_257 : decode cL_law 257 = .ok (.iload 4, 2) := by decide +kernel
theorem dL_law_259 : decode cL_law 259 = .ok (.iconst 3, 1) := by decide +kernel
theorem dL_law_260 : decode cL_law 260 = .ok (.iadd, 1) := by decide +kernel
theorem dL_law_261 : decode cL_law 261 = .ok (.iaload, 1) := by decide +kernel
theorem dL_law_262 : decode cL_law 262 = .ok (.invokevirtual 84, 3) := by decide +kernel
theorem dL_law_265 : decode cL_law 265 = .ok (.istore 6, 2) := by decide +kernel
theorem dL_law_267 : decode cL_law 267 = .ok (.goto 467, 3) := by decide +kernel
set_option maxHeartbeats 4000000 in
set_option maxRecDepth 100000 in
theorem lw_prefix {p : Program} {l : Launch} {e : Env} {R : Room} {s : State} {m : MethodId} {args : Array Value} {below : List Frame} {meth : Method} {c : Code} {D : va_G} {dA : Nat → ClassId} {bs b L : Nat} {xs : Nat → Int32} {x mo o : Option Nat} {Q : State → Prop} (hl : l.stackTraces = false) (C : h_C p m c code 7 s args RL D dA) (hE : h_EY bs s) (hF : 11 ≤ R.frames) (hLo : 426 ≤ R.locals) (hX : va_X b L xs s s.heap) (hbl : b < s.heap.size) (hbs : bs = s.heap.size) {i : Nat} (hi : i + 5 ≤ L) (hL : L ≤ 2560) {σ : HS} {K : HS → Prop} (h : lc_prefix xs x mo o i σ K)
    (kk : ∀ τ, K τ → V p l e R s m args below meth c D dA bs 7 Q τ 734 [(4, .int (nI i)), (3, va_rf o), (2, va_rf mo), (1, va_rf x), (0, va_rf (some b))] []) : V p l e R s m args below meth c D dA bs 7 Q σ 218 [(4, .int (nI i)), (3, va_rf o), (2, va_rf mo), (1, va_rf x), (0, va_rf (some b))] [] := by
  obtain ⟨q, r, σ1, hq, h1, hk, hw, hn⟩ := h
  refine V_aload_n C 3 dL_law_218 rfl rfl ?_
  refine V_aload_n C 4 dL_law_219 rfl rfl ?_
  refine V_iload C 0 dL_law_220 rfl ?_
  refine V_iconst (v := 1) C dL_law_222 (by decide) ?_
  refine V_iadd C dL_law_223 ?_
  rw [lw_a1]
  refine V_sld C hX hbl hbs (j := i + 1) (by omega) (by omega) dL_law_224 ?_
  refine V_aload_n C 4 dL_law_225 rfl rfl ?_
  refine V_iload C 0 dL_law_226 rfl ?_
  refine V_iconst (v := 2) C dL_law_228 (by decide) ?_
  refine V_iadd C dL_law_229 ?_
  rw [lw_a2]
  refine V_sld C hX hbl hbs (j := i + 2) (by omega) (by omega) dL_law_230 ?_
  refine V_aload_n C 4 dL_law_231 rfl rfl ?_
  refine V_iload C 0 dL_law_232 rfl ?_
  refine V_iconst (v := 3) C dL_law_234 (by decide) ?_
  refine V_iadd C dL_law_235 ?_
  rw [lw_a3]
  refine V_sld C hX hbl hbs (j := i + 3) (by omega) (by omega) dL_law_236 ?_
  refine V_aload_n C 1 dL_law_237 rfl rfl ?_
  refine V_cH (As := [va_rf x, .int (xs (i + 1)), .int (xs (i + 2)), .int (xs (i + 3)), va_rf o]) (rest := []) C mh_81 (m_L_prefix l hl D dA bs hq h1 hk hw) hE rfl rfl (Nat.le_trans h_w0 (by decide)) (Nat.le_trans (by decide) hF) (Nat.le_trans (by decide) hLo) dL_law_238 (fun k σ2 hp => ?_)
  obtain ⟨q2, hq2, v, σ3, h2, hK⟩ := hn k σ2 hp
  refine V_istore (lv' := [(5, .int k), (4, .int (nI i)), (3, va_rf o), (2, va_rf mo), (1, va_rf x), (0, va_rf (some b))]) C dL_law_241 (by decide) rfl ?_
  refine V_aload_n C 3 dL_law_243 rfl rfl ?_
  refine V_aload_n C 5 dL_law_244 rfl rfl ?_
  refine V_iload C 1 dL_law_245 rfl ?_
  refine V_iconst (v := 1) C dL_law_247 (by decide) ?_
  refine V_iadd C dL_law_248 ?_
  rw [lw_a1]
  refine V_sld C hX hbl hbs (j := i + 1) (by omega) (by omega) dL_law_249 ?_
  refine V_aload_n C 5 dL_law_250 rfl rfl ?_
  refine V_iload C 1 dL_law_251 rfl ?_
  refine V_iconst (v := 2) C dL_law_253 (by decide) ?_
  refine V_iadd C dL_law_254 ?_
  rw [lw_a2]
  refine V_sld C hX hbl hbs (j := i + 2) (by omega) (by omega) dL_law_255 ?_
  refine V_aload_n C 5 dL_law_256 rfl rfl ?_
  refine V_iload C 1 dL_law_257 rfl ?_
  refine V_iconst (v := 3) C dL_law_259 (by decide) ?_
  refine V_iadd C dL_law_260 ?_
  rw [lw_a3]
  refine V_sld C hX hbl hbs (j := i + 3) (by omega) (by omega) dL_law_261 ?_
  refine V_cV (As := [.int (xs (i + 1)), .int (xs (i + 2)), .int (xs (i + 3))]) (rest := []) C mv_RL_84 (m_X10_prefix l D dA bs h2) hq2 rfl rfl (Nat.le_trans h_w0 (by decide)) (Nat.le_trans (by decide) hF) (Nat.le_trans (by decide) hLo) dL_law_262 ?_
  refine V_istore (lv' := [(6, .int v), (5, .int k), (4, .int (nI i)), (3, va_rf o), (2, va_rf mo), (1, va_rf x), (0, va_rf (some b))]) C dL_law_265 (by decide) rfl ?_
  refine V_goto (tgt := 734) C dL_law_267 (by decide) ?_
  exact V_sub [2, 3, 4, 5, 6] rfl (kk σ3 hK)
theorem dL_law_270 : decode cL_law 270 = .ok (.aload_n 1, 1) := by decide +kernel
theorem dL_law_271 : decode cL_law 271 = .ok (.aload_n 0, 1) := by decide +kernel
theorem dL_law_272 : decode cL_law 272 = .ok (.iload 4, 2) := by decide +kernel
theorem dL_law_274 : decode cL_law 274 = .ok (.iconst 1, 1) := by decide +kernel
theorem dL_law_275 : decode cL_law 275 = .ok (.iadd, 1) := by decide +kernel
theorem dL_law_276 : decode cL_law 276 = .ok (.iaload, 1) := by decide +kernel
theorem dL_law_277 : decode cL_law 277 = .ok (.aload_n 0, 1) := by decide +kernel
theorem dL_law_278 : decode cL_law 278 = .ok (.iload 4, 2) := by decide +kernel
theorem dL_law_280 : decode cL_law 280 = .ok (.iconst 2, 1) := by decide +kernel
theorem dL_law_281 : decode cL_law 281 = .ok (.iadd, 1) := by decide +kernel
theorem dL_law_282 : decode cL_law 282 = .ok (.iaload, 1) := by decide +kernel
theorem dL_law_283 : decode cL_law 283 = .ok (.invokestatic 85, 3) := by decide +kernel
theorem dL_law_286 : decode cL_law 286 = .ok (.istore 5, 2) := by decide +kernel
theorem dL_law_288 : decode cL_law 288 = .ok (.aload_n 2, 1) := by decide +kernel
theorem dL_law_289 : decode cL_law 289 = .ok (.aload_n 0, 1) := by decide +kernel
theorem dL_law_290 : decode cL_law 290 = .ok (.iload 4, 2) := by decide +kernel
theorem dL_law_292 : decode cL_law 292 = .ok (.iconst 1, 1) := by decide +kernel
theorem dL_law_293 : decode cL_law 293 = .ok (.iadd, 1) := by decide +kernel
theorem dL_law_294 : decode cL_law 294 = .ok (.iaload, 1) := by decide +kernel
theorem dL_law_295 : decode cL_law 295 = .ok (.aload_n 0, 1) := by decide +kernel
theorem dL_law_296 : decode cL_law 296 = .ok (.iload 4, 2) := by decide +kernel
theorem dL_law_298 : decode cL_law 298 = .ok (.iconst 2, 1) := by decide +kernel
theorem dL_law_299 : decode cL_law 299 = .ok (.iadd, 1) := by decide +kernel
theorem dL_law_300 : decode cL_law 300 = .ok (.iaload, 1) := by decide +kernel
theorem dL_law_301 : decode cL_law 301 = .ok (.invokevirtual 87, 3) := by decide +kernel
theorem dL_law_304 : decode cL_law 304 = .ok (.goto 430, 3) := by decide +kernel
set_option maxHeartbeats 4000000 in
set_option maxRecDepth 100000 in
theorem lw_move {p : Program} {l : Launch} {e : Env} {R : Room} {s : State} {m : MethodId} {args : Array Value} {below : List Frame} {meth : Method} {c : Code} {D : va_G} {dA : Nat → ClassId} {bs b L : Nat} {xs : Nat → Int32} {x mo o : Option Nat} {Q : State → Prop} (hl : l.stackTraces = false) (C : h_C p m c code 7 s args RL D dA) (hE : h_EY bs s) (hF : 11 ≤ R.frames) (hLo : 426 ≤ R.locals) (hX : va_X b L xs s s.heap) (hbl : b < s.heap.size) (hbs : bs = s.heap.size) {i : Nat} (hi : i + 5 ≤ L) (hL : L ≤ 2560) {σ : HS} {K : HS → Prop} (h : lc_move xs x mo o i σ K)
    (kk : ∀ τ, K τ → V p l e R s m args below meth c D dA bs 7 Q τ 734 [(4, .int (nI i)), (3, va_rf o), (2, va_rf mo), (1, va_rf x), (0, va_rf (some b))] []) : V p l e R s m args below meth c D dA bs 7 Q σ 270 [(4, .int (nI i)), (3, va_rf o), (2, va_rf mo), (1, va_rf x), (0, va_rf (some b))] [] := by
  obtain ⟨q, r, σ1, hq, h1, hk, hn⟩ := h
  refine V_aload_n C 3 dL_law_270 rfl rfl ?_
  refine V_aload_n C 4 dL_law_271 rfl rfl ?_
  refine V_iload C 0 dL_law_272 rfl ?_
  refine V_iconst (v := 1) C dL_law_274 (by decide) ?_
  refine V_iadd C dL_law_275 ?_
  rw [lw_a1]
  refine V_sld C hX hbl hbs (j := i + 1) (by omega) (by omega) dL_law_276 ?_
  refine V_aload_n C 4 dL_law_277 rfl rfl ?_
  refine V_iload C 0 dL_law_278 rfl ?_
  refine V_iconst (v := 2) C dL_law_280 (by decide) ?_
  refine V_iadd C dL_law_281 ?_
  rw [lw_a2]
  refine V_sld C hX hbl hbs (j := i + 2) (by omega) (by omega) dL_law_282 ?_
  refine V_cH (As := [va_rf x, .int (xs (i + 1)), .int (xs (i + 2))]) (rest := []) C mh_85 (m_L_move l hl D dA bs hq h1 hk) hE rfl rfl (Nat.le_trans h_w0 (by decide)) (Nat.le_trans (by decide) hF) (Nat.le_trans (by decide) hLo) dL_law_283 (fun k σ2 hp => ?_)
  obtain ⟨q2, hq2, σ3, h2, hK⟩ := hn k σ2 hp
  refine V_istore (lv' := [(5, .int k), (4, .int (nI i)), (3, va_rf o), (2, va_rf mo), (1, va_rf x), (0, va_rf (some b))]) C dL_law_286 (by decide) rfl ?_
  refine V_aload_n C 3 dL_law_288 rfl rfl ?_
  refine V_aload_n C 5 dL_law_289 rfl rfl ?_
  refine V_iload C 1 dL_law_290 rfl ?_
  refine V_iconst (v := 1) C dL_law_292 (by decide) ?_
  refine V_iadd C dL_law_293 ?_
  rw [lw_a1]
  refine V_sld C hX hbl hbs (j := i + 1) (by omega) (by omega) dL_law_294 ?_
  refine V_aload_n C 5 dL_law_295 rfl rfl ?_
  refine V_iload C 1 dL_law_296 rfl ?_
  refine V_iconst (v := 2) C dL_law_298 (by decide) ?_
  refine V_iadd C dL_law_299 ?_
  rw [lw_a2]
  refine V_sld C hX hbl hbs (j := i + 2) (by omega) (by omega) dL_law_300 ?_
  refine V_cV (As := [.int (xs (i + 1)), .int (xs (i + 2))]) (rest := []) C mv_RL_87 (m_X10_move l D dA bs h2) hq2 rfl rfl (Nat.le_trans h_w0 (by decide)) (Nat.le_trans (by decide) hF) (Nat.le_trans (by decide) hLo) dL_law_301 ?_
  refine V_goto (tgt := 734) C dL_law_304 (by decide) ?_
  exact V_sub [1, 2, 3, 4, 5] rfl (kk σ3 hK)
theorem dL_law_307 : decode cL_law 307 = .ok (.aload_n 1, 1) := by decide +kernel
theorem dL_law_308 : decode cL_law 308 = .ok (.aload_n 0, 1) := by decide +kernel
theorem dL_law_309 : decode cL_law 309 = .ok (.iload 4, 2) := by decide +kernel
theorem dL_law_311 : decode cL_law 311 = .ok (.iconst 1, 1) := by decide +kernel
theorem dL_law_312 : decode cL_law 312 = .ok (.iadd, 1) := by decide +kernel
theorem dL_law_313 : decode cL_law 313 = .ok (.iaload, 1) := by decide +kernel
theorem dL_law_314 : decode cL_law 314 = .ok (.aload_n 3, 1) := by decide +kernel
theorem dL_law_315 : decode cL_law 315 = .ok (.invokestatic 88, 3) := by decide +kernel
theorem dL_law_318 : decode cL_law 318 = .ok (.istore 5, 2) := by decide +kernel
theorem dL_law_320 : decode cL_law 320 = .ok (.aload_n 2, 1) := by decide +kernel
theorem dL_law_321 : decode cL_law 321 = .ok (.aload_n 0, 1) := by decide +kernel
theorem dL_law_322 : decode cL_law 322 = .ok (.iload 4, 2) := by decide +kernel
theorem dL_law_324 : decode cL_law 324 = .ok (.iconst 1, 1) := by decide +kernel
theorem dL_law_325 : decode cL_law 325 = .ok (.iadd, 1) := by decide +kernel
theorem dL_law_326 : decode cL_law 326 = .ok (.iaload, 1) := by decide +kernel
theorem dL_law_327 : decode cL_law 327 = .ok (.invokevirtual 91, 3) := by decide +kernel
theorem dL_law_330 : decode cL_law 330 = .ok (.istore 6, 2) := by decide +kernel
theorem dL_law_332 : decode cL_law 332 = .ok (.goto 402, 3) := by decide +kernel
set_option maxHeartbeats 4000000 in
set_option maxRecDepth 100000 in
theorem lw_register {p : Program} {l : Launch} {e : Env} {R : Room} {s : State} {m : MethodId} {args : Array Value} {below : List Frame} {meth : Method} {c : Code} {D : va_G} {dA : Nat → ClassId} {bs b L : Nat} {xs : Nat → Int32} {x mo o : Option Nat} {Q : State → Prop} (hl : l.stackTraces = false) (C : h_C p m c code 7 s args RL D dA) (hE : h_EY bs s) (hF : 11 ≤ R.frames) (hLo : 426 ≤ R.locals) (hX : va_X b L xs s s.heap) (hbl : b < s.heap.size) (hbs : bs = s.heap.size) {i : Nat} (hi : i + 5 ≤ L) (hL : L ≤ 2560) {σ : HS} {K : HS → Prop} (h : lc_register xs x mo o i σ K)
    (kk : ∀ τ, K τ → V p l e R s m args below meth c D dA bs 7 Q τ 734 [(4, .int (nI i)), (3, va_rf o), (2, va_rf mo), (1, va_rf x), (0, va_rf (some b))] []) : V p l e R s m args below meth c D dA bs 7 Q σ 307 [(4, .int (nI i)), (3, va_rf o), (2, va_rf mo), (1, va_rf x), (0, va_rf (some b))] [] := by
  obtain ⟨q, r, σ1, hq, h1, hk, hw, hn⟩ := h
  refine V_aload_n C 3 dL_law_307 rfl rfl ?_
  refine V_aload_n C 4 dL_law_308 rfl rfl ?_
  refine V_iload C 0 dL_law_309 rfl ?_
  refine V_iconst (v := 1) C dL_law_311 (by decide) ?_
  refine V_iadd C dL_law_312 ?_
  rw [lw_a1]
  refine V_sld C hX hbl hbs (j := i + 1) (by omega) (by omega) dL_law_313 ?_
  refine V_aload_n C 1 dL_law_314 rfl rfl ?_
  refine V_cH (As := [va_rf x, .int (xs (i + 1)), va_rf o]) (rest := []) C mh_88 (m_L_register l hl D dA bs hq h1 hk hw) hE rfl rfl (Nat.le_trans h_w0 (by decide)) (Nat.le_trans (by decide) hF) (Nat.le_trans (by decide) hLo) dL_law_315 (fun k σ2 hp => ?_)
  obtain ⟨q2, hq2, v, σ3, h2, hK⟩ := hn k σ2 hp
  refine V_istore (lv' := [(5, .int k), (4, .int (nI i)), (3, va_rf o), (2, va_rf mo), (1, va_rf x), (0, va_rf (some b))]) C dL_law_318 (by decide) rfl ?_
  refine V_aload_n C 3 dL_law_320 rfl rfl ?_
  refine V_aload_n C 5 dL_law_321 rfl rfl ?_
  refine V_iload C 1 dL_law_322 rfl ?_
  refine V_iconst (v := 1) C dL_law_324 (by decide) ?_
  refine V_iadd C dL_law_325 ?_
  rw [lw_a1]
  refine V_sld C hX hbl hbs (j := i + 1) (by omega) (by omega) dL_law_326 ?_
  refine V_cV (As := [.int (xs (i + 1))]) (rest := []) C mv_RL_91 (m_X10_register l D dA bs h2) hq2 rfl rfl (Nat.le_trans h_w0 (by decide)) (Nat.le_trans (by decide) hF) (Nat.le_trans (by decide) hLo) dL_law_327 ?_
  refine V_istore (lv' := [(6, .int v), (5, .int k), (4, .int (nI i)), (3, va_rf o), (2, va_rf mo), (1, va_rf x), (0, va_rf (some b))]) C dL_law_330 (by decide) rfl ?_
  refine V_goto (tgt := 734) C dL_law_332 (by decide) ?_
  exact V_sub [2, 3, 4, 5, 6] rfl (kk σ3 hK)
theorem dL_law_335 : decode cL_law 335 = .ok (.aload_n 1, 1) := by decide +kernel
theorem dL_law_336 : decode cL_law 336 = .ok (.aload_n 0, 1) := by decide +kernel
theorem dL_law_337 : decode cL_law 337 = .ok (.iload 4, 2) := by decide +kernel
theorem dL_law_339 : decode cL_law 339 = .ok (.iconst 1, 1) := by decide +kernel
theorem dL_law_340 : decode cL_law 340 = .ok (.iadd, 1) := by decide +kernel
theorem dL_law_341 : decode cL_law 341 = .ok (.iaload, 1) := by decide +kernel
theorem dL_law_342 : decode cL_law 342 = .ok (.aload_n 0, 1) := by decide +kernel
theorem dL_law_343 : decode cL_law 343 = .ok (.iload 4, 2) := by decide +kernel
theorem dL_law_345 : decode cL_law 345 = .ok (.iconst 2, 1) := by decide +kernel
theorem dL_law_346 : decode cL_law 346 = .ok (.iadd, 1) := by decide +kernel
theorem dL_law_347 : decode cL_law 347 = .ok (.iaload, 1) := by decide +kernel
theorem dL_law_348 : decode cL_law 348 = .ok (.aload_n 3, 1) := by decide +kernel
theorem dL_law_349 : decode cL_law 349 = .ok (.invokestatic 92, 3) := by decide +kernel
theorem dL_law_352 : decode cL_law 352 = .ok (.istore 5, 2) := by decide +kernel
theorem dL_law_354 : decode cL_law 354 = .ok (.aload_n 2, 1) := by decide +kernel
theorem dL_law_355 : decode cL_law 355 = .ok (.aload_n 0, 1) := by decide +kernel
theorem dL_law_356 : decode cL_law 356 = .ok (.iload 4, 2) := by decide +kernel
theorem dL_law_358 : decode cL_law 358 = .ok (.iconst 1, 1) := by decide +kernel
theorem dL_law_359 : decode cL_law 359 = .ok (.iadd, 1) := by decide +kernel
theorem dL_law_360 : decode cL_law 360 = .ok (.iaload, 1) := by decide +kernel
theorem dL_law_361 : decode cL_law 361 = .ok (.aload_n 0, 1) := by decide +kernel
theorem dL_law_362 : decode cL_law 362 = .ok (.iload 4, 2) := by decide +kernel
theorem dL_law_364 : decode cL_law 364 = .ok (.iconst 2, 1) := by decide +kernel
theorem dL_law_365 : decode cL_law 365 = .ok (.iadd, 1) := by decide +kernel
theorem dL_law_366 : decode cL_law 366 = .ok (.iaload, 1) := by decide +kernel
theorem dL_law_367 : decode cL_law 367 = .ok (.invokevirtual 95, 3) := by decide +kernel
theorem dL_law_370 : decode cL_law 370 = .ok (.istore 6, 2) := by decide +kernel
theorem dL_law_372 : decode cL_law 372 = .ok (.goto 362, 3) := by decide +kernel
set_option maxHeartbeats 4000000 in
set_option maxRecDepth 100000 in
theorem lw_send {p : Program} {l : Launch} {e : Env} {R : Room} {s : State} {m : MethodId} {args : Array Value} {below : List Frame} {meth : Method} {c : Code} {D : va_G} {dA : Nat → ClassId} {bs b L : Nat} {xs : Nat → Int32} {x mo o : Option Nat} {Q : State → Prop} (hl : l.stackTraces = false) (C : h_C p m c code 7 s args RL D dA) (hE : h_EY bs s) (hF : 11 ≤ R.frames) (hLo : 426 ≤ R.locals) (hX : va_X b L xs s s.heap) (hbl : b < s.heap.size) (hbs : bs = s.heap.size) {i : Nat} (hi : i + 5 ≤ L) (hL : L ≤ 2560) {σ : HS} {K : HS → Prop} (h : lc_send xs x mo o i σ K)
    (kk : ∀ τ, K τ → V p l e R s m args below meth c D dA bs 7 Q τ 734 [(4, .int (nI i)), (3, va_rf o), (2, va_rf mo), (1, va_rf x), (0, va_rf (some b))] []) : V p l e R s m args below meth c D dA bs 7 Q σ 335 [(4, .int (nI i)), (3, va_rf o), (2, va_rf mo), (1, va_rf x), (0, va_rf (some b))] [] := by
  obtain ⟨q, r, σ1, hq, h1, hk, hw, hn⟩ := h
  refine V_aload_n C 3 dL_law_335 rfl rfl ?_
  refine V_aload_n C 4 dL_law_336 rfl rfl ?_
  refine V_iload C 0 dL_law_337 rfl ?_
  refine V_iconst (v := 1) C dL_law_339 (by decide) ?_
  refine V_iadd C dL_law_340 ?_
  rw [lw_a1]
  refine V_sld C hX hbl hbs (j := i + 1) (by omega) (by omega) dL_law_341 ?_
  refine V_aload_n C 4 dL_law_342 rfl rfl ?_
  refine V_iload C 0 dL_law_343 rfl ?_
  refine V_iconst (v := 2) C dL_law_345 (by decide) ?_
  refine V_iadd C dL_law_346 ?_
  rw [lw_a2]
  refine V_sld C hX hbl hbs (j := i + 2) (by omega) (by omega) dL_law_347 ?_
  refine V_aload_n C 1 dL_law_348 rfl rfl ?_
  refine V_cH (As := [va_rf x, .int (xs (i + 1)), .int (xs (i + 2)), va_rf o]) (rest := []) C mh_92 (m_L_send l hl D dA bs hq h1 hk hw) hE rfl rfl (Nat.le_trans h_w0 (by decide)) (Nat.le_trans (by decide) hF) (Nat.le_trans (by decide) hLo) dL_law_349 (fun k σ2 hp => ?_)
  obtain ⟨q2, hq2, v, σ3, h2, hK⟩ := hn k σ2 hp
  refine V_istore (lv' := [(5, .int k), (4, .int (nI i)), (3, va_rf o), (2, va_rf mo), (1, va_rf x), (0, va_rf (some b))]) C dL_law_352 (by decide) rfl ?_
  refine V_aload_n C 3 dL_law_354 rfl rfl ?_
  refine V_aload_n C 5 dL_law_355 rfl rfl ?_
  refine V_iload C 1 dL_law_356 rfl ?_
  refine V_iconst (v := 1) C dL_law_358 (by decide) ?_
  refine V_iadd C dL_law_359 ?_
  rw [lw_a1]
  refine V_sld C hX hbl hbs (j := i + 1) (by omega) (by omega) dL_law_360 ?_
  refine V_aload_n C 5 dL_law_361 rfl rfl ?_
  refine V_iload C 1 dL_law_362 rfl ?_
  refine V_iconst (v := 2) C dL_law_364 (by decide) ?_
  refine V_iadd C dL_law_365 ?_
  rw [lw_a2]
  refine V_sld C hX hbl hbs (j := i + 2) (by omega) (by omega) dL_law_366 ?_
  refine V_cV (As := [.int (xs (i + 1)), .int (xs (i + 2))]) (rest := []) C mv_RL_95 (m_X10_send l D dA bs h2) hq2 rfl rfl (Nat.le_trans h_w0 (by decide)) (Nat.le_trans (by decide) hF) (Nat.le_trans (by decide) hLo) dL_law_367 ?_
  refine V_istore (lv' := [(6, .int v), (5, .int k), (4, .int (nI i)), (3, va_rf o), (2, va_rf mo), (1, va_rf x), (0, va_rf (some b))]) C dL_law_370 (by decide) rfl ?_
  refine V_goto (tgt := 734) C dL_law_372 (by decide) ?_
  exact V_sub [2, 3, 4, 5, 6] rfl (kk σ3 hK)
