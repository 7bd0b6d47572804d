theorem dL_0 : decode code 0 = .ok (.new 7, 3) := by decide +kernel
theorem dL_3 : decode code 3 = .ok (.dup, 1) := by decide +kernel
theorem dL_4 : decode code 4 = .ok (.invokespecial 9, 3) := by decide +kernel
theorem dL_7 : decode code 7 = .ok (.astore_n 1, 1) := by decide +kernel
theorem dL_8 : decode code 8 = .ok (.new 10, 3) := by decide +kernel
theorem dL_11 : decode code 11 = .ok (.dup, 1) := by decide +kernel
theorem dL_12 : decode code 12 = .ok (.invokespecial 12, 3) := by decide +kernel
theorem dL_15 : decode code 15 = .ok (.astore_n 2, 1) := by decide +kernel
theorem dL_16 : decode code 16 = .ok (.iconst 0, 1) := by decide +kernel
theorem dL_17 : decode code 17 = .ok (.istore_n 3, 1) := by decide +kernel
theorem dL_18 : decode code 18 = .ok (.iload_n 3, 1) := by decide +kernel
theorem dL_19 : decode code 19 = .ok (.aload_n 0, 1) := by decide +kernel
theorem dL_20 : decode code 20 = .ok (.arraylength, 1) := by decide +kernel
theorem dL_21 : decode code 21 = .ok (.iconst 3, 1) := by decide +kernel
theorem dL_22 : decode code 22 = .ok (.isub, 1) := by decide +kernel
theorem dL_23 : decode code 23 = .ok (.if_icmp .gt 317, 3) := by decide +kernel
theorem dL_26 : decode code 26 = .ok (.aload_n 0, 1) := by decide +kernel
theorem dL_27 : decode code 27 = .ok (.iload_n 3, 1) := by decide +kernel
theorem dL_28 : decode code 28 = .ok (.iaload, 1) := by decide +kernel
theorem dL_29 : decode code 29 = .ok (.bipush 15, 2) := by decide +kernel
theorem dL_31 : decode code 31 = .ok (.iand, 1) := by decide +kernel
theorem dL_32 : decode code 32 = .ok (.tableswitch 302 0 9 #[56, 89, 100, 121, 134, 157, 180, 203, 236, 269], 56) := by decide +kernel
theorem dL_88 : decode code 88 = .ok (.aload_n 1, 1) := by decide +kernel
theorem dL_89 : decode code 89 = .ok (.aload_n 0, 1) := by decide +kernel
theorem dL_90 : decode code 90 = .ok (.iload_n 3, 1) := by decide +kernel
theorem dL_91 : decode code 91 = .ok (.iconst 1, 1) := by decide +kernel
theorem dL_92 : decode code 92 = .ok (.iadd, 1) := by decide +kernel
theorem dL_93 : decode code 93 = .ok (.iaload, 1) := by decide +kernel
theorem dL_94 : decode code 94 = .ok (.aload_n 0, 1) := by decide +kernel
theorem dL_95 : decode code 95 = .ok (.iload_n 3, 1) := by decide +kernel
theorem dL_96 : decode code 96 = .ok (.iconst 2, 1) := by decide +kernel
theorem dL_97 : decode code 97 = .ok (.iadd, 1) := by decide +kernel
theorem dL_98 : decode code 98 = .ok (.iaload, 1) := by decide +kernel
theorem dL_99 : decode code 99 = .ok (.invokevirtual 13, 3) := by decide +kernel
theorem dL_102 : decode code 102 = .ok (.aload_n 2, 1) := by decide +kernel
theorem dL_103 : decode code 103 = .ok (.aload_n 0, 1) := by decide +kernel
theorem dL_104 : decode code 104 = .ok (.iload_n 3, 1) := by decide +kernel
theorem dL_105 : decode code 105 = .ok (.iconst 1, 1) := by decide +kernel
theorem dL_106 : decode code 106 = .ok (.iadd, 1) := by decide +kernel
theorem dL_107 : decode code 107 = .ok (.iaload, 1) := by decide +kernel
theorem dL_108 : decode code 108 = .ok (.aload_n 0, 1) := by decide +kernel
theorem dL_109 : decode code 109 = .ok (.iload_n 3, 1) := by decide +kernel
theorem dL_110 : decode code 110 = .ok (.iconst 2, 1) := by decide +kernel
theorem dL_111 : decode code 111 = .ok (.iadd, 1) := by decide +kernel
theorem dL_112 : decode code 112 = .ok (.iaload, 1) := by decide +kernel
theorem dL_113 : decode code 113 = .ok (.invokevirtual 17, 3) := by decide +kernel
theorem dL_116 : decode code 116 = .ok (.if_icmp .eq 218, 3) := by decide +kernel
theorem dL_119 : decode code 119 = .ok (.iconst 0, 1) := by decide +kernel
theorem dL_120 : decode code 120 = .ok (.ireturn, 1) := by decide +kernel
theorem dL_121 : decode code 121 = .ok (.aload_n 1, 1) := by decide +kernel
theorem dL_122 : decode code 122 = .ok (.invokevirtual 18, 3) := by decide +kernel
theorem dL_125 : decode code 125 = .ok (.aload_n 2, 1) := by decide +kernel
theorem dL_126 : decode code 126 = .ok (.invokevirtual 21, 3) := by decide +kernel
theorem dL_129 : decode code 129 = .ok (.goto 205, 3) := by decide +kernel
theorem dL_132 : decode code 132 = .ok (.aload_n 1, 1) := by decide +kernel
theorem dL_133 : decode code 133 = .ok (.aload_n 0, 1) := by decide +kernel
theorem dL_134 : decode code 134 = .ok (.iload_n 3, 1) := by decide +kernel
theorem dL_135 : decode code 135 = .ok (.iconst 1, 1) := by decide +kernel
theorem dL_136 : decode code 136 = .ok (.iadd, 1) := by decide +kernel
theorem dL_137 : decode code 137 = .ok (.iaload, 1) := by decide +kernel
theorem dL_138 : decode code 138 = .ok (.invokevirtual 22, 3) := by decide +kernel
theorem dL_141 : decode code 141 = .ok (.aload_n 2, 1) := by decide +kernel
theorem dL_142 : decode code 142 = .ok (.aload_n 0, 1) := by decide +kernel
theorem dL_143 : decode code 143 = .ok (.iload_n 3, 1) := by decide +kernel
theorem dL_144 : decode code 144 = .ok (.iconst 1, 1) := by decide +kernel
theorem dL_145 : decode code 145 = .ok (.iadd, 1) := by decide +kernel
theorem dL_146 : decode code 146 = .ok (.iaload, 1) := by decide +kernel
theorem dL_147 : decode code 147 = .ok (.invokevirtual 26, 3) := by decide +kernel
theorem dL_150 : decode code 150 = .ok (.goto 184, 3) := by decide +kernel
theorem dL_153 : decode code 153 = .ok (.aload_n 1, 1) := by decide +kernel
theorem dL_154 : decode code 154 = .ok (.invokevirtual 27, 3) := by decide +kernel
theorem dL_157 : decode code 157 = .ok (.aload_n 2, 1) := by decide +kernel
theorem dL_158 : decode code 158 = .ok (.invokevirtual 31, 3) := by decide +kernel
theorem dL_161 : decode code 161 = .ok (.if_icmp .eq 173, 3) := by decide +kernel
theorem dL_164 : decode code 164 = .ok (.iconst 0, 1) := by decide +kernel
theorem dL_165 : decode code 165 = .ok (.ireturn, 1) := by decide +kernel
theorem dL_166 : decode code 166 = .ok (.aload_n 1, 1) := by decide +kernel
theorem dL_167 : decode code 167 = .ok (.aload_n 0, 1) := by decide +kernel
theorem dL_168 : decode code 168 = .ok (.iload_n 3, 1) := by decide +kernel
theorem dL_169 : decode code 169 = .ok (.iconst 1, 1) := by decide +kernel
theorem dL_170 : decode code 170 = .ok (.iadd, 1) := by decide +kernel
theorem dL_171 : decode code 171 = .ok (.iaload, 1) := by decide +kernel
theorem dL_172 : decode code 172 = .ok (.invokevirtual 32, 3) := by decide +kernel
theorem dL_175 : decode code 175 = .ok (.aload_n 2, 1) := by decide +kernel
theorem dL_176 : decode code 176 = .ok (.aload_n 0, 1) := by decide +kernel
theorem dL_177 : decode code 177 = .ok (.iload_n 3, 1) := by decide +kernel
theorem dL_178 : decode code 178 = .ok (.iconst 1, 1) := by decide +kernel
theorem dL_179 : decode code 179 = .ok (.iadd, 1) := by decide +kernel
theorem dL_180 : decode code 180 = .ok (.iaload, 1) := by decide +kernel
theorem dL_181 : decode code 181 = .ok (.invokevirtual 36, 3) := by decide +kernel
theorem dL_184 : decode code 184 = .ok (.if_icmp .eq 150, 3) := by decide +kernel
theorem dL_187 : decode code 187 = .ok (.iconst 0, 1) := by decide +kernel
theorem dL_188 : decode code 188 = .ok (.ireturn, 1) := by decide +kernel
theorem dL_189 : decode code 189 = .ok (.aload_n 1, 1) := by decide +kernel
theorem dL_190 : decode code 190 = .ok (.aload_n 0, 1) := by decide +kernel
theorem dL_191 : decode code 191 = .ok (.iload_n 3, 1) := by decide +kernel
theorem dL_192 : decode code 192 = .ok (.iconst 1, 1) := by decide +kernel
theorem dL_193 : decode code 193 = .ok (.iadd, 1) := by decide +kernel
theorem dL_194 : decode code 194 = .ok (.iaload, 1) := by decide +kernel
theorem dL_195 : decode code 195 = .ok (.invokevirtual 37, 3) := by decide +kernel
theorem dL_198 : decode code 198 = .ok (.aload_n 2, 1) := by decide +kernel
theorem dL_199 : decode code 199 = .ok (.aload_n 0, 1) := by decide +kernel
theorem dL_200 : decode code 200 = .ok (.iload_n 3, 1) := by decide +kernel
theorem dL_201 : decode code 201 = .ok (.iconst 1, 1) := by decide +kernel
theorem dL_202 : decode code 202 = .ok (.iadd, 1) := by decide +kernel
theorem dL_203 : decode code 203 = .ok (.iaload, 1) := by decide +kernel
theorem dL_204 : decode code 204 = .ok (.invokevirtual 40, 3) := by decide +kernel
theorem dL_207 : decode code 207 = .ok (.if_icmp .eq 127, 3) := by decide +kernel
theorem dL_210 : decode code 210 = .ok (.iconst 0, 1) := by decide +kernel
theorem dL_211 : decode code 211 = .ok (.ireturn, 1) := by decide +kernel
theorem dL_212 : decode code 212 = .ok (.aload_n 1, 1) := by decide +kernel
theorem dL_213 : decode code 213 = .ok (.aload_n 0, 1) := by decide +kernel
theorem dL_214 : decode code 214 = .ok (.iload_n 3, 1) := by decide +kernel
theorem dL_215 : decode code 215 = .ok (.iconst 1, 1) := by decide +kernel
theorem dL_216 : decode code 216 = .ok (.iadd, 1) := by decide +kernel
theorem dL_217 : decode code 217 = .ok (.iaload, 1) := by decide +kernel
theorem dL_218 : decode code 218 = .ok (.invokevirtual 41, 3) := by decide +kernel
theorem dL_221 : decode code 221 = .ok (.aload_n 2, 1) := by decide +kernel
theorem dL_222 : decode code 222 = .ok (.aload_n 0, 1) := by decide +kernel
theorem dL_223 : decode code 223 = .ok (.iload_n 3, 1) := by decide +kernel
theorem dL_224 : decode code 224 = .ok (.iconst 1, 1) := by decide +kernel
theorem dL_225 : decode code 225 = .ok (.iadd, 1) := by decide +kernel
theorem dL_226 : decode code 226 = .ok (.iaload, 1) := by decide +kernel
theorem dL_227 : decode code 227 = .ok (.invokevirtual 44, 3) := by decide +kernel
theorem dL_230 : decode code 230 = .ok (.if_icmp .eq 104, 3) := by decide +kernel
theorem dL_233 : decode code 233 = .ok (.iconst 0, 1) := by decide +kernel
theorem dL_234 : decode code 234 = .ok (.ireturn, 1) := by decide +kernel
theorem dL_235 : decode code 235 = .ok (.aload_n 1, 1) := by decide +kernel
theorem dL_236 : decode code 236 = .ok (.aload_n 0, 1) := by decide +kernel
theorem dL_237 : decode code 237 = .ok (.iload_n 3, 1) := by decide +kernel
theorem dL_238 : decode code 238 = .ok (.iconst 1, 1) := by decide +kernel
theorem dL_239 : decode code 239 = .ok (.iadd, 1) := by decide +kernel
theorem dL_240 : decode code 240 = .ok (.iaload, 1) := by decide +kernel
theorem dL_241 : decode code 241 = .ok (.aload_n 0, 1) := by decide +kernel
theorem dL_242 : decode code 242 = .ok (.iload_n 3, 1) := by decide +kernel
theorem dL_243 : decode code 243 = .ok (.iconst 2, 1) := by decide +kernel
theorem dL_244 : decode code 244 = .ok (.iadd, 1) := by decide +kernel
theorem dL_245 : decode code 245 = .ok (.iaload, 1) := by decide +kernel
theorem dL_246 : decode code 246 = .ok (.invokevirtual 45, 3) := by decide +kernel
theorem dL_249 : decode code 249 = .ok (.aload_n 2, 1) := by decide +kernel
theorem dL_250 : decode code 250 = .ok (.aload_n 0, 1) := by decide +kernel
theorem dL_251 : decode code 251 = .ok (.iload_n 3, 1) := by decide +kernel
theorem dL_252 : decode code 252 = .ok (.iconst 1, 1) := by decide +kernel
theorem dL_253 : decode code 253 = .ok (.iadd, 1) := by decide +kernel
theorem dL_254 : decode code 254 = .ok (.iaload, 1) := by decide +kernel
theorem dL_255 : decode code 255 = .ok (.aload_n 0, 1) := by decide +kernel
theorem dL_256 : decode code 256 = .ok (.iload_n 3, 1) := by decide +kernel
theorem dL_257 : decode code 257 = .ok (.iconst 2, 1) := by decide +kernel
theorem dL_258 : decode code 258 = .ok (.iadd, 1) := by decide +kernel
theorem dL_259 : decode code 259 = .ok (.iaload, 1) := by decide +kernel
theorem dL_260 : decode code 260 = .ok (.invokevirtual 48, 3) := by decide +kernel
theorem dL_263 : decode code 263 = .ok (.if_icmp .eq 71, 3) := by decide +kernel
theorem dL_266 : decode code 266 = .ok (.iconst 0, 1) := by decide +kernel
theorem dL_267 : decode code 267 = .ok (.ireturn, 1) := by decide +kernel
theorem dL_268 : decode code 268 = .ok (.aload_n 1, 1) := by decide +kernel
theorem dL_269 : decode code 269 = .ok (.aload_n 0, 1) := by decide +kernel
theorem dL_270 : decode code 270 = .ok (.iload_n 3, 1) := by decide +kernel
theorem dL_271 : decode code 271 = .ok (.iconst 1, 1) := by decide +kernel
theorem dL_272 : decode code 272 = .ok (.iadd, 1) := by decide +kernel
theorem dL_273 : decode code 273 = .ok (.iaload, 1) := by decide +kernel
theorem dL_274 : decode code 274 = .ok (.aload_n 0, 1) := by decide +kernel
theorem dL_275 : decode code 275 = .ok (.iload_n 3, 1) := by decide +kernel
theorem dL_276 : decode code 276 = .ok (.iconst 2, 1) := by decide +kernel
theorem dL_277 : decode code 277 = .ok (.iadd, 1) := by decide +kernel
theorem dL_278 : decode code 278 = .ok (.iaload, 1) := by decide +kernel
theorem dL_279 : decode code 279 = .ok (.invokevirtual 49, 3) := by decide +kernel
theorem dL_282 : decode code 282 = .ok (.aload_n 2, 1) := by decide +kernel
theorem dL_283 : decode code 283 = .ok (.aload_n 0, 1) := by decide +kernel
theorem dL_284 : decode code 284 = .ok (.iload_n 3, 1) := by decide +kernel
theorem dL_285 : decode code 285 = .ok (.iconst 1, 1) := by decide +kernel
theorem dL_286 : decode code 286 = .ok (.iadd, 1) := by decide +kernel
theorem dL_287 : decode code 287 = .ok (.iaload, 1) := by decide +kernel
theorem dL_288 : decode code 288 = .ok (.aload_n 0, 1) := by decide +kernel
theorem dL_289 : decode code 289 = .ok (.iload_n 3, 1) := by decide +kernel
theorem dL_290 : decode code 290 = .ok (.iconst 2, 1) := by decide +kernel
theorem dL_291 : decode code 291 = .ok (.iadd, 1) := by decide +kernel
theorem dL_292 : decode code 292 = .ok (.iaload, 1) := by decide +kernel
theorem dL_293 : decode code 293 = .ok (.invokevirtual 53, 3) := by decide +kernel
theorem dL_296 : decode code 296 = .ok (.if_icmp .eq 38, 3) := by decide +kernel
theorem dL_299 : decode code 299 = .ok (.iconst 0, 1) := by decide +kernel
theorem dL_300 : decode code 300 = .ok (.ireturn, 1) := by decide +kernel
theorem dL_301 : decode code 301 = .ok (.aload_n 1, 1) := by decide +kernel
theorem dL_302 : decode code 302 = .ok (.aload_n 0, 1) := by decide +kernel
theorem dL_303 : decode code 303 = .ok (.iload_n 3, 1) := by decide +kernel
theorem dL_304 : decode code 304 = .ok (.iconst 1, 1) := by decide +kernel
theorem dL_305 : decode code 305 = .ok (.iadd, 1) := by decide +kernel
theorem dL_306 : decode code 306 = .ok (.iaload, 1) := by decide +kernel
theorem dL_307 : decode code 307 = .ok (.aload_n 0, 1) := by decide +kernel
theorem dL_308 : decode code 308 = .ok (.iload_n 3, 1) := by decide +kernel
theorem dL_309 : decode code 309 = .ok (.iconst 2, 1) := by decide +kernel
theorem dL_310 : decode code 310 = .ok (.iadd, 1) := by decide +kernel
theorem dL_311 : decode code 311 = .ok (.iaload, 1) := by decide +kernel
theorem dL_312 : decode code 312 = .ok (.invokevirtual 54, 3) := by decide +kernel
theorem dL_315 : decode code 315 = .ok (.aload_n 2, 1) := by decide +kernel
theorem dL_316 : decode code 316 = .ok (.aload_n 0, 1) := by decide +kernel
theorem dL_317 : decode code 317 = .ok (.iload_n 3, 1) := by decide +kernel
theorem dL_318 : decode code 318 = .ok (.iconst 1, 1) := by decide +kernel
theorem dL_319 : decode code 319 = .ok (.iadd, 1) := by decide +kernel
theorem dL_320 : decode code 320 = .ok (.iaload, 1) := by decide +kernel
theorem dL_321 : decode code 321 = .ok (.aload_n 0, 1) := by decide +kernel
theorem dL_322 : decode code 322 = .ok (.iload_n 3, 1) := by decide +kernel
theorem dL_323 : decode code 323 = .ok (.iconst 2, 1) := by decide +kernel
theorem dL_324 : decode code 324 = .ok (.iadd, 1) := by decide +kernel
theorem dL_325 : decode code 325 = .ok (.iaload, 1) := by decide +kernel
theorem dL_326 : decode code 326 = .ok (.invokevirtual 57, 3) := by decide +kernel
theorem dL_329 : decode code 329 = .ok (.if_icmp .eq 5, 3) := by decide +kernel
theorem dL_332 : decode code 332 = .ok (.iconst 0, 1) := by decide +kernel
theorem dL_333 : decode code 333 = .ok (.ireturn, 1) := by decide +kernel
theorem dL_334 : decode code 334 = .ok (.iinc 3 3, 3) := by decide +kernel
theorem dL_337 : decode code 337 = .ok (.goto (-319), 3) := by decide +kernel
theorem dL_340 : decode code 340 = .ok (.iconst 1, 1) := by decide +kernel
theorem dL_341 : decode code 341 = .ok (.ireturn, 1) := by decide +kernel
/-! two worlds side by side -/
def tl_A (ad : Nat → Nat) (n : Nat) : Nat → Prop := fun q => ∃ i, i < n ∧ q = ad i
theorem tl_cL (ad : Nat → Nat) (cA : ClassId) (σ : tc_S) : (tc_cW ad cA σ).length = 20 := rfl
theorem tl_cA {ad : Nat → Nat} {cA : ClassId} {σ : tc_S} {q : Nat × va_E} : ∀ {k : Nat}, (tc_cW ad cA σ)[k]? = some q → k < 20 ∧ q.1 = ad k
  | 0, h => by cases h; exact ⟨by decide, rfl⟩
  | 1, h => by cases h; exact ⟨by decide, rfl⟩
  | 2, h => by cases h; exact ⟨by decide, rfl⟩
  | 3, h => by cases h; exact ⟨by decide, rfl⟩
  | 4, h => by cases h; exact ⟨by decide, rfl⟩
  | 5, h => by cases h; exact ⟨by decide, rfl⟩
  | 6, h => by cases h; exact ⟨by decide, rfl⟩
  | 7, h => by cases h; exact ⟨by decide, rfl⟩
  | 8, h => by cases h; exact ⟨by decide, rfl⟩
  | 9, h => by cases h; exact ⟨by decide, rfl⟩
  | 10, h => by cases h; exact ⟨by decide, rfl⟩
  | 11, h => by cases h; exact ⟨by decide, rfl⟩
  | 12, h => by cases h; exact ⟨by decide, rfl⟩
  | 13, h => by cases h; exact ⟨by decide, rfl⟩
  | 14, h => by cases h; exact ⟨by decide, rfl⟩
  | 15, h => by cases h; exact ⟨by decide, rfl⟩
  | 16, h => by cases h; exact ⟨by decide, rfl⟩
  | 17, h => by cases h; exact ⟨by decide, rfl⟩
  | 18, h => by cases h; exact ⟨by decide, rfl⟩
  | 19, h => by cases h; exact ⟨by decide, rfl⟩
  | k + 20, h => by rw [List.getElem?_eq_none (by rw [tl_cL]; omega)] at h; cases h
theorem tl_cG {ad : Nat → Nat} {cA : ClassId} {σ : tc_S} : ∀ k, k < 20 → ∃ e, (tc_cW ad cA σ)[k]? = some (ad k, e)
  | 0, _ => ⟨_, rfl⟩
  | 1, _ => ⟨_, rfl⟩
  | 2, _ => ⟨_, rfl⟩
  | 3, _ => ⟨_, rfl⟩
  | 4, _ => ⟨_, rfl⟩
  | 5, _ => ⟨_, rfl⟩
  | 6, _ => ⟨_, rfl⟩
  | 7, _ => ⟨_, rfl⟩
  | 8, _ => ⟨_, rfl⟩
  | 9, _ => ⟨_, rfl⟩
  | 10, _ => ⟨_, rfl⟩
  | 11, _ => ⟨_, rfl⟩
  | 12, _ => ⟨_, rfl⟩
  | 13, _ => ⟨_, rfl⟩
  | 14, _ => ⟨_, rfl⟩
  | 15, _ => ⟨_, rfl⟩
  | 16, _ => ⟨_, rfl⟩
  | 17, _ => ⟨_, rfl⟩
  | 18, _ => ⟨_, rfl⟩
  | 19, _ => ⟨_, rfl⟩
  | k + 20, h => absurd h (by omega)
theorem tl_rL (ad : Nat → Nat) (cA : ClassId) (σ : tc_S) : (tc_rW ad cA σ).length = 11 := rfl
theorem tl_rA {ad : Nat → Nat} {cA : ClassId} {σ : tc_S} {q : Nat × va_E} : ∀ {k : Nat}, (tc_rW ad cA σ)[k]? = some q → k < 11 ∧ q.1 = ad k
  | 0, h => by cases h; exact ⟨by decide, rfl⟩
  | 1, h => by cases h; exact ⟨by decide, rfl⟩
  | 2, h => by cases h; exact ⟨by decide, rfl⟩
  | 3, h => by cases h; exact ⟨by decide, rfl⟩
  | 4, h => by cases h; exact ⟨by decide, rfl⟩
  | 5, h => by cases h; exact ⟨by decide, rfl⟩
  | 6, h => by cases h; exact ⟨by decide, rfl⟩
  | 7, h => by cases h; exact ⟨by decide, rfl⟩
  | 8, h => by cases h; exact ⟨by decide, rfl⟩
  | 9, h => by cases h; exact ⟨by decide, rfl⟩
  | 10, h => by cases h; exact ⟨by decide, rfl⟩
  | k + 11, h => by rw [List.getElem?_eq_none (by rw [tl_rL]; omega)] at h; cases h
theorem tl_rG {ad : Nat → Nat} {cA : ClassId} {σ : tc_S} : ∀ k, k < 11 → ∃ e, (tc_rW ad cA σ)[k]? = some (ad k, e)
  | 0, _ => ⟨_, rfl⟩
  | 1, _ => ⟨_, rfl⟩
  | 2, _ => ⟨_, rfl⟩
  | 3, _ => ⟨_, rfl⟩
  | 4, _ => ⟨_, rfl⟩
  | 5, _ => ⟨_, rfl⟩
  | 6, _ => ⟨_, rfl⟩
  | 7, _ => ⟨_, rfl⟩
  | 8, _ => ⟨_, rfl⟩
  | 9, _ => ⟨_, rfl⟩
  | 10, _ => ⟨_, rfl⟩
  | k + 11, h => absurd h (by omega)
theorem tl_split {A : Nat → Prop} {ad1 ad2 : Nat → Nat} {cA : ClassId} {σ0 τ0 : tc_S} (hD : va_D A (tc_cW ad1 cA σ0 ++ tc_rW ad2 cA τ0)) :
    (∀ σ, va_D (tl_A ad1 20) (tc_cW ad1 cA σ)) ∧ (∀ τ, va_D (tl_A ad2 11) (tc_rW ad2 cA τ)) ∧ (∀ q, tl_A ad1 20 q → A q) ∧ (∀ q, tl_A ad2 11 q → A q) ∧
    (∀ (τ : tc_S) (k : Nat) (q : Nat × va_E), (tc_rW ad2 cA τ)[k]? = some q → ¬ tl_A ad1 20 q.1) ∧ (∀ (σ : tc_S) (k : Nat) (q : Nat × va_E), (tc_cW ad1 cA σ)[k]? = some q → ¬ tl_A ad2 11 q.1) := by
  have g1 : ∀ i, i < 20 → ∃ e, (tc_cW ad1 cA σ0 ++ tc_rW ad2 cA τ0)[i]? = some (ad1 i, e) := fun i hi => by
    obtain ⟨e, h⟩ := tl_cG (ad := ad1) (cA := cA) (σ := σ0) i hi
    exact ⟨e, by rw [List.getElem?_append_left (by rw [tl_cL]; exact hi)]; exact h⟩
  have g2 : ∀ j, j < 11 → ∃ e, (tc_cW ad1 cA σ0 ++ tc_rW ad2 cA τ0)[20 + j]? = some (ad2 j, e) := fun j hj => by
    obtain ⟨e, h⟩ := tl_rG (ad := ad2) (cA := cA) (σ := τ0) j hj
    exact ⟨e, by rw [List.getElem?_append_right (by rw [tl_cL]; omega), tl_cL, Nat.add_sub_cancel_left]; exact h⟩
  have i1 : ∀ i j, i < 20 → j < 20 → ad1 i = ad1 j → i = j := fun i j hi hj h => by
    obtain ⟨e, a⟩ := g1 i hi
    obtain ⟨e', b⟩ := g1 j hj
    exact hD.1 i j _ _ a b h
  have i2 : ∀ i j, i < 11 → j < 11 → ad2 i = ad2 j → i = j := fun i j hi hj h => by
    obtain ⟨e, a⟩ := g2 i hi
    obtain ⟨e', b⟩ := g2 j hj
    have := hD.1 (20 + i) (20 + j) _ _ a b h
    omega
  have i3 : ∀ i j, i < 20 → j < 11 → ad1 i = ad2 j → False := fun i j hi hj h => by
    obtain ⟨e, a⟩ := g1 i hi
    obtain ⟨e', b⟩ := g2 j hj
    have := hD.1 i (20 + j) _ _ a b h
    omega
  refine ⟨fun σ => ⟨fun i j p q hp hq e => ?_, fun k q hk => ?_⟩, fun τ => ⟨fun i j p q hp hq e => ?_, fun k q hk => ?_⟩, fun q h => ?_, fun q h => ?_, fun τ k q hk h => ?_, fun σ k q hk h => ?_⟩
  · obtain ⟨a1, a2⟩ := tl_cA hp
    obtain ⟨b1, b2⟩ := tl_cA hq
    exact i1 i j a1 b1 (by rw [← a2, ← b2]; exact e)
  · obtain ⟨a1, a2⟩ := tl_cA hk
    exact ⟨k, a1, a2⟩
  · obtain ⟨a1, a2⟩ := tl_rA hp
    obtain ⟨b1, b2⟩ := tl_rA hq
    exact i2 i j a1 b1 (by rw [← a2, ← b2]; exact e)
  · obtain ⟨a1, a2⟩ := tl_rA hk
    exact ⟨k, a1, a2⟩
  · obtain ⟨i, hi, rfl⟩ := h
    obtain ⟨e, a⟩ := g1 i hi
    exact hD.2 i _ a
  · obtain ⟨i, hi, rfl⟩ := h
    obtain ⟨e, a⟩ := g2 i hi
    exact hD.2 _ _ a
  · obtain ⟨a1, a2⟩ := tl_rA hk
    obtain ⟨i, hi, e⟩ := h
    exact i3 i k hi a1 (by rw [← e, a2])
  · obtain ⟨a1, a2⟩ := tl_cA hk
    obtain ⟨i, hi, e⟩ := h
    exact i3 k i a1 hi (by rw [← e, a2])
/-! what stands fast in the law -/
def tl_C (p : Program) (s : State) (m : MethodId) (meth : Method) (c : Code) (b Ln : Nat) (xs : Nat → Int32) (D : va_G) (cA : ClassId) (ad1 ad2 : Nat → Nat) : Prop :=
  tc_C p s m #[Value.ref b] meth c "TwinConsoleLaw" code 4 ret D cA ∧ va_X b Ln xs s s.heap ∧ b < s.heap.size ∧
  (∀ σ, va_D (tl_A ad1 20) (tc_cW ad1 cA σ)) ∧ (∀ τ, va_D (tl_A ad2 11) (tc_rW ad2 cA τ)) ∧ (∀ q, tl_A ad1 20 q → s.heap.size ≤ q) ∧ (∀ q, tl_A ad2 11 q → s.heap.size ≤ q) ∧
  (∀ (τ : tc_S) (k : Nat) (q : Nat × va_E), (tc_rW ad2 cA τ)[k]? = some q → ¬ tl_A ad1 20 q.1) ∧ (∀ (σ : tc_S) (k : Nat) (q : Nat × va_E), (tc_cW ad1 cA σ)[k]? = some q → ¬ tl_A ad2 11 q.1)
abbrev tl_lv (b : Nat) (ad1 ad2 : Nat → Nat) (i : Int32) : List (Nat × Value) := [(3, .int i), (2, .ref (ad2 0)), (1, .ref (ad1 0)), (0, .ref b)]
theorem tl_end {Ln i : Nat} (hL : Ln ≤ 1536) (h : Ln < i + 3) (hi : i ≤ 4000) : Int32.ofNat Ln - 3 < nI i := by
  by_cases z : 3 ≤ Ln
  · rw [show Int32.ofNat Ln - 3 = nI (Ln - 3) from pk_sub (b := 3) z]
    exact nI_lt (by omega) (by omega)
  · have hz : Ln = 0 ∨ Ln = 1 ∨ Ln = 2 := by omega
    have h0 : ∀ w : Int32, w.toInt < 0 → w < nI i := fun w hw => by rw [Int32.lt_iff_toInt_lt, nI_toInt (by omega)]; omega
    rcases hz with rfl | rfl | rfl <;> exact h0 _ (by decide)
section TL
variable {p : Program} {l : Launch} {e : Env} {s : State} {m : MethodId} {below : List Frame} {meth : Method} {c : Code} {Q : State → Prop} {b Ln : Nat} {xs : Nat → Int32} {D : va_G} {cA : ClassId} {ad1 ad2 : Nat → Nat}
set_option maxHeartbeats 4000000 in
set_option maxRecDepth 100000 in
theorem tl_0 (C : tl_C p s m meth c b Ln xs D cA ad1 ad2) (hL : Ln ≤ 1536) {i bb : Nat} (hi : i + 3 ≤ Ln) (hbb : bb < 500000000) {σ τ : tc_S} {H : Heap} {locs : List Loc} {ls : Array Slot} (hT : tc_T bb σ τ) (hP : va_P D vwCl (tc_cW ad1 cA σ) H) (hO : va_P D vwCl (tc_rW ad2 cA τ) H) (hS : va_S (fun q => s.heap.size ≤ q) s.heap H locs) (hl : lv_has ls 4 (tl_lv b ad1 ad2 (nI i)))
    (hZ : ∀ {σ τ : tc_S} {H : Heap} {locs : List Loc} {ls : Array Slot}, tc_T (bb + 810000) σ τ → va_P D vwCl (tc_cW ad1 cA σ) H → va_P D vwCl (tc_rW ad2 cA τ) H → va_S (fun q => s.heap.size ≤ q) s.heap H locs → lv_has ls 4 (tl_lv b ad1 ad2 (nI i)) → W p l e room_1 s m #[Value.ref b] below meth c H locs 31 3770 Q (F0 m 334 ls [])) : W p l e room_1 s m #[Value.ref b] below meth c H locs 31 3770 Q (F0 m 88 ls []) := by
  obtain ⟨C0, hX, hbl, hJ1, hJ2, hA1, hA2, hd1, hd2⟩ := C
  have C1 := C0
  obtain ⟨hx, hb, hml, hown, ⟨hK, hN⟩, hr, hlk⟩ := C1
  have hbA : ¬ s.heap.size ≤ b := by omega
  have in1 : vp_in (nI i + 1) Ln := by rw [nI_1]; exact vp_in_nI (by omega) (by omega)
  have in2 : vp_in (nI i + 2) Ln := by rw [show nI i + 2 = nI (i + 2) from nI_add i 2]; exact vp_in_nI (by omega) (by omega)
  obtain ⟨a, g, e1, e2, hq⟩ := tp_rom hT (xs (nI i + 1).toNatClampNeg) (xs (nI i + 2).toNatClampNeg)
  refine lv_aload_n hx hb dL_88 rfl (lv_at hl 2 rfl) ?_
  refine lv_aload_n hx hb dL_89 rfl (lv_at hl 3 rfl) ?_
  refine lv_iload_n hx hb dL_90 rfl (lv_at hl 0 rfl) ?_
  refine lv_iconst (v := 1) hx hb dL_91 (by decide) ?_
  refine lv_iadd hx hb dL_92 ?_
  refine va_sld hx hb hX hbl hbA hS in1 dL_93 ?_
  refine lv_aload_n hx hb dL_94 rfl (lv_at hl 3 rfl) ?_
  refine lv_iload_n hx hb dL_95 rfl (lv_at hl 0 rfl) ?_
  refine lv_iconst (v := 2) hx hb dL_96 (by decide) ?_
  refine lv_iadd hx hb dL_97 ?_
  refine va_sld hx hb hX hbl hbA hS in2 dL_98 ?_
  refine tl_i (wo := tc_rW ad2 cA τ) (rest := []) C0 (k_XT_rom hJ1 e1) tv_L_13 (by decide) (by decide) hP hO hS hA1 (hd1 τ) hl 0 rfl rfl (by decide) (by decide) (by decide) dL_99 rfl (fun H locs hP hO hS => ?_)
  refine lv_aload_n hx hb dL_102 rfl (lv_at hl 1 rfl) ?_
  refine lv_aload_n hx hb dL_103 rfl (lv_at hl 3 rfl) ?_
  refine lv_iload_n hx hb dL_104 rfl (lv_at hl 0 rfl) ?_
  refine lv_iconst (v := 1) hx hb dL_105 (by decide) ?_
  refine lv_iadd hx hb dL_106 ?_
  refine va_sld hx hb hX hbl hbA hS in1 dL_107 ?_
  refine lv_aload_n hx hb dL_108 rfl (lv_at hl 3 rfl) ?_
  refine lv_iload_n hx hb dL_109 rfl (lv_at hl 0 rfl) ?_
  refine lv_iconst (v := 2) hx hb dL_110 (by decide) ?_
  refine lv_iadd hx hb dL_111 ?_
  refine va_sld hx hb hX hbl hbA hS in2 dL_112 ?_
  refine tl_i (wo := tc_cW ad1 cA a.2) (rest := [.int a.1]) C0 (k_XR_rom hJ2 e2) tv_L_17 (by decide) (by decide) hO hP hS hA2 (hd2 _) hl 0 rfl rfl (Nat.le_of_ble_eq_true rfl) (by decide) (by decide) dL_113 rfl (fun H locs hO hP hS => ?_)
  refine lv_icmp_eq (tgt := 334) hx hb dL_116 (by decide) (fun hc => ?_) (fun hc => absurd hq.1 hc)
  exact hZ (tc_T_mono hq.2 (by omega)) hP hO hS hl
set_option maxHeartbeats 4000000 in
set_option maxRecDepth 100000 in
theorem tl_1 (C : tl_C p s m meth c b Ln xs D cA ad1 ad2) (hL : Ln ≤ 1536) {i bb : Nat} (hi : i + 3 ≤ Ln) (hbb : bb < 500000000) {σ τ : tc_S} {H : Heap} {locs : List Loc} {ls : Array Slot} (hT : tc_T bb σ τ) (hP : va_P D vwCl (tc_cW ad1 cA σ) H) (hO : va_P D vwCl (tc_rW ad2 cA τ) H) (hS : va_S (fun q => s.heap.size ≤ q) s.heap H locs) (hl : lv_has ls 4 (tl_lv b ad1 ad2 (nI i)))
    (hZ : ∀ {σ τ : tc_S} {H : Heap} {locs : List Loc} {ls : Array Slot}, tc_T (bb + 810000) σ τ → va_P D vwCl (tc_cW ad1 cA σ) H → va_P D vwCl (tc_rW ad2 cA τ) H → va_S (fun q => s.heap.size ≤ q) s.heap H locs → lv_has ls 4 (tl_lv b ad1 ad2 (nI i)) → W p l e room_1 s m #[Value.ref b] below meth c H locs 31 3770 Q (F0 m 334 ls [])) : W p l e room_1 s m #[Value.ref b] below meth c H locs 31 3770 Q (F0 m 121 ls []) := by
  obtain ⟨C0, hX, hbl, hJ1, hJ2, hA1, hA2, hd1, hd2⟩ := C
  have C1 := C0
  obtain ⟨hx, hb, hml, hown, ⟨hK, hN⟩, hr, hlk⟩ := C1
  have hbA : ¬ s.heap.size ≤ b := by omega
  obtain ⟨a, g, e1, e2, hq⟩ := tp_reset hT
  refine lv_aload_n hx hb dL_121 rfl (lv_at hl 2 rfl) ?_
  refine tl_v (wo := tc_rW ad2 cA τ) (rest := []) C0 (k_XT_reset hJ1 e1) tv_L_18 (by decide) (by decide) hP hO hS hA1 (hd1 τ) hl 0 rfl rfl (by decide) (by decide) (by decide) dL_122 rfl (fun H locs hP hO hS => ?_)
  refine lv_aload_n hx hb dL_125 rfl (lv_at hl 1 rfl) ?_
  refine tl_v (wo := tc_cW ad1 cA a) (rest := []) C0 (k_XR_reset hJ2 e2) tv_L_21 (by decide) (by decide) hO hP hS hA2 (hd2 _) hl 0 rfl rfl (Nat.le_of_ble_eq_true rfl) (by decide) (by decide) dL_126 rfl (fun H locs hO hP hS => ?_)
  refine lv_goto (tgt := 334) hx hb dL_129 (by decide) ?_
  exact hZ (tc_T_mono hq (by omega)) hP hO hS hl
set_option maxHeartbeats 4000000 in
set_option maxRecDepth 100000 in
theorem tl_2 (C : tl_C p s m meth c b Ln xs D cA ad1 ad2) (hL : Ln ≤ 1536) {i bb : Nat} (hi : i + 3 ≤ Ln) (hbb : bb < 500000000) {σ τ : tc_S} {H : Heap} {locs : List Loc} {ls : Array Slot} (hT : tc_T bb σ τ) (hP : va_P D vwCl (tc_cW ad1 cA σ) H) (hO : va_P D vwCl (tc_rW ad2 cA τ) H) (hS : va_S (fun q => s.heap.size ≤ q) s.heap H locs) (hl : lv_has ls 4 (tl_lv b ad1 ad2 (nI i)))
    (hZ : ∀ {σ τ : tc_S} {H : Heap} {locs : List Loc} {ls : Array Slot}, tc_T (bb + 810000) σ τ → va_P D vwCl (tc_cW ad1 cA σ) H → va_P D vwCl (tc_rW ad2 cA τ) H → va_S (fun q => s.heap.size ≤ q) s.heap H locs → lv_has ls 4 (tl_lv b ad1 ad2 (nI i)) → W p l e room_1 s m #[Value.ref b] below meth c H locs 31 3770 Q (F0 m 334 ls [])) : W p l e room_1 s m #[Value.ref b] below meth c H locs 31 3770 Q (F0 m 132 ls []) := by
  obtain ⟨C0, hX, hbl, hJ1, hJ2, hA1, hA2, hd1, hd2⟩ := C
  have C1 := C0
  obtain ⟨hx, hb, hml, hown, ⟨hK, hN⟩, hr, hlk⟩ := C1
  have hbA : ¬ s.heap.size ≤ b := by omega
  have in1 : vp_in (nI i + 1) Ln := by rw [nI_1]; exact vp_in_nI (by omega) (by omega)
  obtain ⟨a, g, e1, e2, hq⟩ := tp_pad hT (xs (nI i + 1).toNatClampNeg)
  refine lv_aload_n hx hb dL_132 rfl (lv_at hl 2 rfl) ?_
  refine lv_aload_n hx hb dL_133 rfl (lv_at hl 3 rfl) ?_
  refine lv_iload_n hx hb dL_134 rfl (lv_at hl 0 rfl) ?_
  refine lv_iconst (v := 1) hx hb dL_135 (by decide) ?_
  refine lv_iadd hx hb dL_136 ?_
  refine va_sld hx hb hX hbl hbA hS in1 dL_137 ?_
  refine tl_v (wo := tc_rW ad2 cA τ) (rest := []) C0 (k_XT_pad hJ1 e1) tv_L_22 (by decide) (by decide) hP hO hS hA1 (hd1 τ) hl 0 rfl rfl (by decide) (by decide) (by decide) dL_138 rfl (fun H locs hP hO hS => ?_)
  refine lv_aload_n hx hb dL_141 rfl (lv_at hl 1 rfl) ?_
  refine lv_aload_n hx hb dL_142 rfl (lv_at hl 3 rfl) ?_
  refine lv_iload_n hx hb dL_143 rfl (lv_at hl 0 rfl) ?_
  refine lv_iconst (v := 1) hx hb dL_144 (by decide) ?_
  refine lv_iadd hx hb dL_145 ?_
  refine va_sld hx hb hX hbl hbA hS in1 dL_146 ?_
  refine tl_v (wo := tc_cW ad1 cA a) (rest := []) C0 (k_XR_pad hJ2 e2) tv_L_26 (by decide) (by decide) hO hP hS hA2 (hd2 _) hl 0 rfl rfl (Nat.le_of_ble_eq_true rfl) (by decide) (by decide) dL_147 rfl (fun H locs hO hP hS => ?_)
  refine lv_goto (tgt := 334) hx hb dL_150 (by decide) ?_
  exact hZ (tc_T_mono hq (by omega)) hP hO hS hl
set_option maxHeartbeats 4000000 in
set_option maxRecDepth 100000 in
theorem tl_3 (C : tl_C p s m meth c b Ln xs D cA ad1 ad2) (hL : Ln ≤ 1536) {i bb : Nat} (hi : i + 3 ≤ Ln) (hbb : bb < 500000000) {σ τ : tc_S} {H : Heap} {locs : List Loc} {ls : Array Slot} (hT : tc_T bb σ τ) (hP : va_P D vwCl (tc_cW ad1 cA σ) H) (hO : va_P D vwCl (tc_rW ad2 cA τ) H) (hS : va_S (fun q => s.heap.size ≤ q) s.heap H locs) (hl : lv_has ls 4 (tl_lv b ad1 ad2 (nI i)))
    (hZ : ∀ {σ τ : tc_S} {H : Heap} {locs : List Loc} {ls : Array Slot}, tc_T (bb + 810000) σ τ → va_P D vwCl (tc_cW ad1 cA σ) H → va_P D vwCl (tc_rW ad2 cA τ) H → va_S (fun q => s.heap.size ≤ q) s.heap H locs → lv_has ls 4 (tl_lv b ad1 ad2 (nI i)) → W p l e room_1 s m #[Value.ref b] below meth c H locs 31 3770 Q (F0 m 334 ls [])) : W p l e room_1 s m #[Value.ref b] below meth c H locs 31 3770 Q (F0 m 153 ls []) := by
  obtain ⟨C0, hX, hbl, hJ1, hJ2, hA1, hA2, hd1, hd2⟩ := C
  have C1 := C0
  obtain ⟨hx, hb, hml, hown, ⟨hK, hN⟩, hr, hlk⟩ := C1
  have hbA : ¬ s.heap.size ≤ b := by omega
  obtain ⟨a, g, e1, e2, hq⟩ := tp_step hT (by omega)
  refine lv_aload_n hx hb dL_153 rfl (lv_at hl 2 rfl) ?_
  refine tl_i (wo := tc_rW ad2 cA τ) (rest := []) C0 (k_XT_step hJ1 e1) tv_L_27 (by decide) (by decide) hP hO hS hA1 (hd1 τ) hl 0 rfl rfl (by decide) (by decide) (by decide) dL_154 rfl (fun H locs hP hO hS => ?_)
  refine lv_aload_n hx hb dL_157 rfl (lv_at hl 1 rfl) ?_
  refine tl_i (wo := tc_cW ad1 cA a.2) (rest := [.int a.1]) C0 (k_XR_step hJ2 e2) tv_L_31 (by decide) (by decide) hO hP hS hA2 (hd2 _) hl 0 rfl rfl (Nat.le_of_ble_eq_true rfl) (by decide) (by decide) dL_158 rfl (fun H locs hO hP hS => ?_)
  refine lv_icmp_eq (tgt := 334) hx hb dL_161 (by decide) (fun hc => ?_) (fun hc => absurd hq.1 hc)
  exact hZ (tc_T_mono hq.2 (by omega)) hP hO hS hl
set_option maxHeartbeats 4000000 in
set_option maxRecDepth 100000 in
theorem tl_4 (C : tl_C p s m meth c b Ln xs D cA ad1 ad2) (hL : Ln ≤ 1536) {i bb : Nat} (hi : i + 3 ≤ Ln) (hbb : bb < 500000000) {σ τ : tc_S} {H : Heap} {locs : List Loc} {ls : Array Slot} (hT : tc_T bb σ τ) (hP : va_P D vwCl (tc_cW ad1 cA σ) H) (hO : va_P D vwCl (tc_rW ad2 cA τ) H) (hS : va_S (fun q => s.heap.size ≤ q) s.heap H locs) (hl : lv_has ls 4 (tl_lv b ad1 ad2 (nI i)))
    (hZ : ∀ {σ τ : tc_S} {H : Heap} {locs : List Loc} {ls : Array Slot}, tc_T (bb + 810000) σ τ → va_P D vwCl (tc_cW ad1 cA σ) H → va_P D vwCl (tc_rW ad2 cA τ) H → va_S (fun q => s.heap.size ≤ q) s.heap H locs → lv_has ls 4 (tl_lv b ad1 ad2 (nI i)) → W p l e room_1 s m #[Value.ref b] below meth c H locs 31 3770 Q (F0 m 334 ls [])) : W p l e room_1 s m #[Value.ref b] below meth c H locs 31 3770 Q (F0 m 166 ls []) := by
  obtain ⟨C0, hX, hbl, hJ1, hJ2, hA1, hA2, hd1, hd2⟩ := C
  have C1 := C0
  obtain ⟨hx, hb, hml, hown, ⟨hK, hN⟩, hr, hlk⟩ := C1
  have hbA : ¬ s.heap.size ≤ b := by omega
  have in1 : vp_in (nI i + 1) Ln := by rw [nI_1]; exact vp_in_nI (by omega) (by omega)
  obtain ⟨a, g, e1, e2, hq⟩ := tp_run hT (by omega) (xs (nI i + 1).toNatClampNeg)
  refine lv_aload_n hx hb dL_166 rfl (lv_at hl 2 rfl) ?_
  refine lv_aload_n hx hb dL_167 rfl (lv_at hl 3 rfl) ?_
  refine lv_iload_n hx hb dL_168 rfl (lv_at hl 0 rfl) ?_
  refine lv_iconst (v := 1) hx hb dL_169 (by decide) ?_
  refine lv_iadd hx hb dL_170 ?_
  refine va_sld hx hb hX hbl hbA hS in1 dL_171 ?_
  refine tl_i (wo := tc_rW ad2 cA τ) (rest := []) C0 (k_XT_run hJ1 e1) tv_L_32 (by decide) (by decide) hP hO hS hA1 (hd1 τ) hl 0 rfl rfl (by decide) (by decide) (by decide) dL_172 rfl (fun H locs hP hO hS => ?_)
  refine lv_aload_n hx hb dL_175 rfl (lv_at hl 1 rfl) ?_
  refine lv_aload_n hx hb dL_176 rfl (lv_at hl 3 rfl) ?_
  refine lv_iload_n hx hb dL_177 rfl (lv_at hl 0 rfl) ?_
  refine lv_iconst (v := 1) hx hb dL_178 (by decide) ?_
  refine lv_iadd hx hb dL_179 ?_
  refine va_sld hx hb hX hbl hbA hS in1 dL_180 ?_
  refine tl_i (wo := tc_cW ad1 cA a.2) (rest := [.int a.1]) C0 (k_XR_run hJ2 e2) tv_L_36 (by decide) (by decide) hO hP hS hA2 (hd2 _) hl 0 rfl rfl (Nat.le_of_ble_eq_true rfl) (by decide) (by decide) dL_181 rfl (fun H locs hO hP hS => ?_)
  refine lv_icmp_eq (tgt := 334) hx hb dL_184 (by decide) (fun hc => ?_) (fun hc => absurd hq.1 hc)
  exact hZ (tc_T_mono hq.2 (by omega)) hP hO hS hl
set_option maxHeartbeats 4000000 in
set_option maxRecDepth 100000 in
theorem tl_5 (C : tl_C p s m meth c b Ln xs D cA ad1 ad2) (hL : Ln ≤ 1536) {i bb : Nat} (hi : i + 3 ≤ Ln) (hbb : bb < 500000000) {σ τ : tc_S} {H : Heap} {locs : List Loc} {ls : Array Slot} (hT : tc_T bb σ τ) (hP : va_P D vwCl (tc_cW ad1 cA σ) H) (hO : va_P D vwCl (tc_rW ad2 cA τ) H) (hS : va_S (fun q => s.heap.size ≤ q) s.heap H locs) (hl : lv_has ls 4 (tl_lv b ad1 ad2 (nI i)))
    (hZ : ∀ {σ τ : tc_S} {H : Heap} {locs : List Loc} {ls : Array Slot}, tc_T (bb + 810000) σ τ → va_P D vwCl (tc_cW ad1 cA σ) H → va_P D vwCl (tc_rW ad2 cA τ) H → va_S (fun q => s.heap.size ≤ q) s.heap H locs → lv_has ls 4 (tl_lv b ad1 ad2 (nI i)) → W p l e room_1 s m #[Value.ref b] below meth c H locs 31 3770 Q (F0 m 334 ls [])) : W p l e room_1 s m #[Value.ref b] below meth c H locs 31 3770 Q (F0 m 189 ls []) := by
  obtain ⟨C0, hX, hbl, hJ1, hJ2, hA1, hA2, hd1, hd2⟩ := C
  have C1 := C0
  obtain ⟨hx, hb, hml, hown, ⟨hK, hN⟩, hr, hlk⟩ := C1
  have hbA : ¬ s.heap.size ≤ b := by omega
  have in1 : vp_in (nI i + 1) Ln := by rw [nI_1]; exact vp_in_nI (by omega) (by omega)
  obtain ⟨a, g, e1, e2, hq⟩ := tp_memory hT (xs (nI i + 1).toNatClampNeg)
  refine lv_aload_n hx hb dL_189 rfl (lv_at hl 2 rfl) ?_
  refine lv_aload_n hx hb dL_190 rfl (lv_at hl 3 rfl) ?_
  refine lv_iload_n hx hb dL_191 rfl (lv_at hl 0 rfl) ?_
  refine lv_iconst (v := 1) hx hb dL_192 (by decide) ?_
  refine lv_iadd hx hb dL_193 ?_
  refine va_sld hx hb hX hbl hbA hS in1 dL_194 ?_
  refine tl_i (wo := tc_rW ad2 cA τ) (rest := []) C0 (k_XT_memory hJ1 e1) tv_L_37 (by decide) (by decide) hP hO hS hA1 (hd1 τ) hl 0 rfl rfl (by decide) (by decide) (by decide) dL_195 rfl (fun H locs hP hO hS => ?_)
  refine lv_aload_n hx hb dL_198 rfl (lv_at hl 1 rfl) ?_
  refine lv_aload_n hx hb dL_199 rfl (lv_at hl 3 rfl) ?_
  refine lv_iload_n hx hb dL_200 rfl (lv_at hl 0 rfl) ?_
  refine lv_iconst (v := 1) hx hb dL_201 (by decide) ?_
  refine lv_iadd hx hb dL_202 ?_
  refine va_sld hx hb hX hbl hbA hS in1 dL_203 ?_
  refine tl_i (wo := tc_cW ad1 cA a.2) (rest := [.int a.1]) C0 (k_XR_memory hJ2 e2) tv_L_40 (by decide) (by decide) hO hP hS hA2 (hd2 _) hl 0 rfl rfl (Nat.le_of_ble_eq_true rfl) (by decide) (by decide) dL_204 rfl (fun H locs hO hP hS => ?_)
  refine lv_icmp_eq (tgt := 334) hx hb dL_207 (by decide) (fun hc => ?_) (fun hc => absurd hq.1 hc)
  exact hZ (tc_T_mono hq.2 (by omega)) hP hO hS hl
set_option maxHeartbeats 4000000 in
set_option maxRecDepth 100000 in
theorem tl_6 (C : tl_C p s m meth c b Ln xs D cA ad1 ad2) (hL : Ln ≤ 1536) {i bb : Nat} (hi : i + 3 ≤ Ln) (hbb : bb < 500000000) {σ τ : tc_S} {H : Heap} {locs : List Loc} {ls : Array Slot} (hT : tc_T bb σ τ) (hP : va_P D vwCl (tc_cW ad1 cA σ) H) (hO : va_P D vwCl (tc_rW ad2 cA τ) H) (hS : va_S (fun q => s.heap.size ≤ q) s.heap H locs) (hl : lv_has ls 4 (tl_lv b ad1 ad2 (nI i)))
    (hZ : ∀ {σ τ : tc_S} {H : Heap} {locs : List Loc} {ls : Array Slot}, tc_T (bb + 810000) σ τ → va_P D vwCl (tc_cW ad1 cA σ) H → va_P D vwCl (tc_rW ad2 cA τ) H → va_S (fun q => s.heap.size ≤ q) s.heap H locs → lv_has ls 4 (tl_lv b ad1 ad2 (nI i)) → W p l e room_1 s m #[Value.ref b] below meth c H locs 31 3770 Q (F0 m 334 ls [])) : W p l e room_1 s m #[Value.ref b] below meth c H locs 31 3770 Q (F0 m 212 ls []) := by
  obtain ⟨C0, hX, hbl, hJ1, hJ2, hA1, hA2, hd1, hd2⟩ := C
  have C1 := C0
  obtain ⟨hx, hb, hml, hown, ⟨hK, hN⟩, hr, hlk⟩ := C1
  have hbA : ¬ s.heap.size ≤ b := by omega
  have in1 : vp_in (nI i + 1) Ln := by rw [nI_1]; exact vp_in_nI (by omega) (by omega)
  obtain ⟨a, g, e1, e2, hq⟩ := tp_register hT (xs (nI i + 1).toNatClampNeg)
  refine lv_aload_n hx hb dL_212 rfl (lv_at hl 2 rfl) ?_
  refine lv_aload_n hx hb dL_213 rfl (lv_at hl 3 rfl) ?_
  refine lv_iload_n hx hb dL_214 rfl (lv_at hl 0 rfl) ?_
  refine lv_iconst (v := 1) hx hb dL_215 (by decide) ?_
  refine lv_iadd hx hb dL_216 ?_
  refine va_sld hx hb hX hbl hbA hS in1 dL_217 ?_
  refine tl_i (wo := tc_rW ad2 cA τ) (rest := []) C0 (k_XT_register hJ1 e1) tv_L_41 (by decide) (by decide) hP hO hS hA1 (hd1 τ) hl 0 rfl rfl (by decide) (by decide) (by decide) dL_218 rfl (fun H locs hP hO hS => ?_)
  refine lv_aload_n hx hb dL_221 rfl (lv_at hl 1 rfl) ?_
  refine lv_aload_n hx hb dL_222 rfl (lv_at hl 3 rfl) ?_
  refine lv_iload_n hx hb dL_223 rfl (lv_at hl 0 rfl) ?_
  refine lv_iconst (v := 1) hx hb dL_224 (by decide) ?_
  refine lv_iadd hx hb dL_225 ?_
  refine va_sld hx hb hX hbl hbA hS in1 dL_226 ?_
  refine tl_i (wo := tc_cW ad1 cA a.2) (rest := [.int a.1]) C0 (k_XR_register hJ2 e2) tv_L_44 (by decide) (by decide) hO hP hS hA2 (hd2 _) hl 0 rfl rfl (Nat.le_of_ble_eq_true rfl) (by decide) (by decide) dL_227 rfl (fun H locs hO hP hS => ?_)
  refine lv_icmp_eq (tgt := 334) hx hb dL_230 (by decide) (fun hc => ?_) (fun hc => absurd hq.1 hc)
  exact hZ (tc_T_mono hq.2 (by omega)) hP hO hS hl
set_option maxHeartbeats 4000000 in
set_option maxRecDepth 100000 in
theorem tl_7 (C : tl_C p s m meth c b Ln xs D cA ad1 ad2) (hL : Ln ≤ 1536) {i bb : Nat} (hi : i + 3 ≤ Ln) (hbb : bb < 500000000) {σ τ : tc_S} {H : Heap} {locs : List Loc} {ls : Array Slot} (hT : tc_T bb σ τ) (hP : va_P D vwCl (tc_cW ad1 cA σ) H) (hO : va_P D vwCl (tc_rW ad2 cA τ) H) (hS : va_S (fun q => s.heap.size ≤ q) s.heap H locs) (hl : lv_has ls 4 (tl_lv b ad1 ad2 (nI i)))
    (hZ : ∀ {σ τ : tc_S} {H : Heap} {locs : List Loc} {ls : Array Slot}, tc_T (bb + 810000) σ τ → va_P D vwCl (tc_cW ad1 cA σ) H → va_P D vwCl (tc_rW ad2 cA τ) H → va_S (fun q => s.heap.size ≤ q) s.heap H locs → lv_has ls 4 (tl_lv b ad1 ad2 (nI i)) → W p l e room_1 s m #[Value.ref b] below meth c H locs 31 3770 Q (F0 m 334 ls [])) : W p l e room_1 s m #[Value.ref b] below meth c H locs 31 3770 Q (F0 m 235 ls []) := by
  obtain ⟨C0, hX, hbl, hJ1, hJ2, hA1, hA2, hd1, hd2⟩ := C
  have C1 := C0
  obtain ⟨hx, hb, hml, hown, ⟨hK, hN⟩, hr, hlk⟩ := C1
  have hbA : ¬ s.heap.size ≤ b := by omega
  have in1 : vp_in (nI i + 1) Ln := by rw [nI_1]; exact vp_in_nI (by omega) (by omega)
  have in2 : vp_in (nI i + 2) Ln := by rw [show nI i + 2 = nI (i + 2) from nI_add i 2]; exact vp_in_nI (by omega) (by omega)
  obtain ⟨a, g, e1, e2, hq⟩ := tp_seed hT (xs (nI i + 1).toNatClampNeg) (xs (nI i + 2).toNatClampNeg)
  refine lv_aload_n hx hb dL_235 rfl (lv_at hl 2 rfl) ?_
  refine lv_aload_n hx hb dL_236 rfl (lv_at hl 3 rfl) ?_
  refine lv_iload_n hx hb dL_237 rfl (lv_at hl 0 rfl) ?_
  refine lv_iconst (v := 1) hx hb dL_238 (by decide) ?_
  refine lv_iadd hx hb dL_239 ?_
  refine va_sld hx hb hX hbl hbA hS in1 dL_240 ?_
  refine lv_aload_n hx hb dL_241 rfl (lv_at hl 3 rfl) ?_
  refine lv_iload_n hx hb dL_242 rfl (lv_at hl 0 rfl) ?_
  refine lv_iconst (v := 2) hx hb dL_243 (by decide) ?_
  refine lv_iadd hx hb dL_244 ?_
  refine va_sld hx hb hX hbl hbA hS in2 dL_245 ?_
  refine tl_i (wo := tc_rW ad2 cA τ) (rest := []) C0 (k_XT_seed hJ1 e1) tv_L_45 (by decide) (by decide) hP hO hS hA1 (hd1 τ) hl 0 rfl rfl (by decide) (by decide) (by decide) dL_246 rfl (fun H locs hP hO hS => ?_)
  refine lv_aload_n hx hb dL_249 rfl (lv_at hl 1 rfl) ?_
  refine lv_aload_n hx hb dL_250 rfl (lv_at hl 3 rfl) ?_
  refine lv_iload_n hx hb dL_251 rfl (lv_at hl 0 rfl) ?_
  refine lv_iconst (v := 1) hx hb dL_252 (by decide) ?_
  refine lv_iadd hx hb dL_253 ?_
  refine va_sld hx hb hX hbl hbA hS in1 dL_254 ?_
  refine lv_aload_n hx hb dL_255 rfl (lv_at hl 3 rfl) ?_
  refine lv_iload_n hx hb dL_256 rfl (lv_at hl 0 rfl) ?_
  refine lv_iconst (v := 2) hx hb dL_257 (by decide) ?_
  refine lv_iadd hx hb dL_258 ?_
  refine va_sld hx hb hX hbl hbA hS in2 dL_259 ?_
  refine tl_i (wo := tc_cW ad1 cA a.2) (rest := [.int a.1]) C0 (k_XR_seed hJ2 e2) tv_L_48 (by decide) (by decide) hO hP hS hA2 (hd2 _) hl 0 rfl rfl (Nat.le_of_ble_eq_true rfl) (by decide) (by decide) dL_260 rfl (fun H locs hO hP hS => ?_)
  refine lv_icmp_eq (tgt := 334) hx hb dL_263 (by decide) (fun hc => ?_) (fun hc => absurd hq.1 hc)
  exact hZ (tc_T_mono hq.2 (by omega)) hP hO hS hl
set_option maxHeartbeats 4000000 in
set_option maxRecDepth 100000 in
theorem tl_8 (C : tl_C p s m meth c b Ln xs D cA ad1 ad2) (hL : Ln ≤ 1536) {i bb : Nat} (hi : i + 3 ≤ Ln) (hbb : bb < 500000000) {σ τ : tc_S} {H : Heap} {locs : List Loc} {ls : Array Slot} (hT : tc_T bb σ τ) (hP : va_P D vwCl (tc_cW ad1 cA σ) H) (hO : va_P D vwCl (tc_rW ad2 cA τ) H) (hS : va_S (fun q => s.heap.size ≤ q) s.heap H locs) (hl : lv_has ls 4 (tl_lv b ad1 ad2 (nI i)))
    (hZ : ∀ {σ τ : tc_S} {H : Heap} {locs : List Loc} {ls : Array Slot}, tc_T (bb + 810000) σ τ → va_P D vwCl (tc_cW ad1 cA σ) H → va_P D vwCl (tc_rW ad2 cA τ) H → va_S (fun q => s.heap.size ≤ q) s.heap H locs → lv_has ls 4 (tl_lv b ad1 ad2 (nI i)) → W p l e room_1 s m #[Value.ref b] below meth c H locs 31 3770 Q (F0 m 334 ls [])) : W p l e room_1 s m #[Value.ref b] below meth c H locs 31 3770 Q (F0 m 268 ls []) := by
  obtain ⟨C0, hX, hbl, hJ1, hJ2, hA1, hA2, hd1, hd2⟩ := C
  have C1 := C0
  obtain ⟨hx, hb, hml, hown, ⟨hK, hN⟩, hr, hlk⟩ := C1
  have hbA : ¬ s.heap.size ≤ b := by omega
  have in1 : vp_in (nI i + 1) Ln := by rw [nI_1]; exact vp_in_nI (by omega) (by omega)
  have in2 : vp_in (nI i + 2) Ln := by rw [show nI i + 2 = nI (i + 2) from nI_add i 2]; exact vp_in_nI (by omega) (by omega)
  obtain ⟨a, g, e1, e2, hq⟩ := tp_video hT (xs (nI i + 1).toNatClampNeg) (xs (nI i + 2).toNatClampNeg)
  refine lv_aload_n hx hb dL_268 rfl (lv_at hl 2 rfl) ?_
  refine lv_aload_n hx hb dL_269 rfl (lv_at hl 3 rfl) ?_
  refine lv_iload_n hx hb dL_270 rfl (lv_at hl 0 rfl) ?_
  refine lv_iconst (v := 1) hx hb dL_271 (by decide) ?_
  refine lv_iadd hx hb dL_272 ?_
  refine va_sld hx hb hX hbl hbA hS in1 dL_273 ?_
  refine lv_aload_n hx hb dL_274 rfl (lv_at hl 3 rfl) ?_
  refine lv_iload_n hx hb dL_275 rfl (lv_at hl 0 rfl) ?_
  refine lv_iconst (v := 2) hx hb dL_276 (by decide) ?_
  refine lv_iadd hx hb dL_277 ?_
  refine va_sld hx hb hX hbl hbA hS in2 dL_278 ?_
  refine tl_i (wo := tc_rW ad2 cA τ) (rest := []) C0 (k_XT_video hJ1 e1) tv_L_49 (by decide) (by decide) hP hO hS hA1 (hd1 τ) hl 0 rfl rfl (by decide) (by decide) (by decide) dL_279 rfl (fun H locs hP hO hS => ?_)
  refine lv_aload_n hx hb dL_282 rfl (lv_at hl 1 rfl) ?_
  refine lv_aload_n hx hb dL_283 rfl (lv_at hl 3 rfl) ?_
  refine lv_iload_n hx hb dL_284 rfl (lv_at hl 0 rfl) ?_
  refine lv_iconst (v := 1) hx hb dL_285 (by decide) ?_
  refine lv_iadd hx hb dL_286 ?_
  refine va_sld hx hb hX hbl hbA hS in1 dL_287 ?_
  refine lv_aload_n hx hb dL_288 rfl (lv_at hl 3 rfl) ?_
  refine lv_iload_n hx hb dL_289 rfl (lv_at hl 0 rfl) ?_
  refine lv_iconst (v := 2) hx hb dL_290 (by decide) ?_
  refine lv_iadd hx hb dL_291 ?_
  refine va_sld hx hb hX hbl hbA hS in2 dL_292 ?_
  refine tl_i (wo := tc_cW ad1 cA a.2) (rest := [.int a.1]) C0 (k_XR_video hJ2 e2) tv_L_53 (by decide) (by decide) hO hP hS hA2 (hd2 _) hl 0 rfl rfl (Nat.le_of_ble_eq_true rfl) (by decide) (by decide) dL_293 rfl (fun H locs hO hP hS => ?_)
  refine lv_icmp_eq (tgt := 334) hx hb dL_296 (by decide) (fun hc => ?_) (fun hc => absurd hq.1 hc)
  exact hZ (tc_T_mono hq.2 (by omega)) hP hO hS hl
set_option maxHeartbeats 4000000 in
set_option maxRecDepth 100000 in
theorem tl_9 (C : tl_C p s m meth c b Ln xs D cA ad1 ad2) (hL : Ln ≤ 1536) {i bb : Nat} (hi : i + 3 ≤ Ln) (hbb : bb < 500000000) {σ τ : tc_S} {H : Heap} {locs : List Loc} {ls : Array Slot} (hT : tc_T bb σ τ) (hP : va_P D vwCl (tc_cW ad1 cA σ) H) (hO : va_P D vwCl (tc_rW ad2 cA τ) H) (hS : va_S (fun q => s.heap.size ≤ q) s.heap H locs) (hl : lv_has ls 4 (tl_lv b ad1 ad2 (nI i)))
    (hZ : ∀ {σ τ : tc_S} {H : Heap} {locs : List Loc} {ls : Array Slot}, tc_T (bb + 810000) σ τ → va_P D vwCl (tc_cW ad1 cA σ) H → va_P D vwCl (tc_rW ad2 cA τ) H → va_S (fun q => s.heap.size ≤ q) s.heap H locs → lv_has ls 4 (tl_lv b ad1 ad2 (nI i)) → W p l e room_1 s m #[Value.ref b] below meth c H locs 31 3770 Q (F0 m 334 ls [])) : W p l e room_1 s m #[Value.ref b] below meth c H locs 31 3770 Q (F0 m 301 ls []) := by
  obtain ⟨C0, hX, hbl, hJ1, hJ2, hA1, hA2, hd1, hd2⟩ := C
  have C1 := C0
  obtain ⟨hx, hb, hml, hown, ⟨hK, hN⟩, hr, hlk⟩ := C1
  have hbA : ¬ s.heap.size ≤ b := by omega
  have in1 : vp_in (nI i + 1) Ln := by rw [nI_1]; exact vp_in_nI (by omega) (by omega)
  have in2 : vp_in (nI i + 2) Ln := by rw [show nI i + 2 = nI (i + 2) from nI_add i 2]; exact vp_in_nI (by omega) (by omega)
  obtain ⟨a, g, e1, e2, hq⟩ := tp_pixel hT (xs (nI i + 1).toNatClampNeg) (xs (nI i + 2).toNatClampNeg)
  refine lv_aload_n hx hb dL_301 rfl (lv_at hl 2 rfl) ?_
  refine lv_aload_n hx hb dL_302 rfl (lv_at hl 3 rfl) ?_
  refine lv_iload_n hx hb dL_303 rfl (lv_at hl 0 rfl) ?_
  refine lv_iconst (v := 1) hx hb dL_304 (by decide) ?_
  refine lv_iadd hx hb dL_305 ?_
  refine va_sld hx hb hX hbl hbA hS in1 dL_306 ?_
  refine lv_aload_n hx hb dL_307 rfl (lv_at hl 3 rfl) ?_
  refine lv_iload_n hx hb dL_308 rfl (lv_at hl 0 rfl) ?_
  refine lv_iconst (v := 2) hx hb dL_309 (by decide) ?_
  refine lv_iadd hx hb dL_310 ?_
  refine va_sld hx hb hX hbl hbA hS in2 dL_311 ?_
  refine tl_i (wo := tc_rW ad2 cA τ) (rest := []) C0 (k_XT_pixel hJ1 e1) tv_L_54 (by decide) (by decide) hP hO hS hA1 (hd1 τ) hl 0 rfl rfl (by decide) (by decide) (by decide) dL_312 rfl (fun H locs hP hO hS => ?_)
  refine lv_aload_n hx hb dL_315 rfl (lv_at hl 1 rfl) ?_
  refine lv_aload_n hx hb dL_316 rfl (lv_at hl 3 rfl) ?_
  refine lv_iload_n hx hb dL_317 rfl (lv_at hl 0 rfl) ?_
  refine lv_iconst (v := 1) hx hb dL_318 (by decide) ?_
  refine lv_iadd hx hb dL_319 ?_
  refine va_sld hx hb hX hbl hbA hS in1 dL_320 ?_
  refine lv_aload_n hx hb dL_321 rfl (lv_at hl 3 rfl) ?_
  refine lv_iload_n hx hb dL_322 rfl (lv_at hl 0 rfl) ?_
  refine lv_iconst (v := 2) hx hb dL_323 (by decide) ?_
  refine lv_iadd hx hb dL_324 ?_
  refine va_sld hx hb hX hbl hbA hS in2 dL_325 ?_
  refine tl_i (wo := tc_cW ad1 cA a.2) (rest := [.int a.1]) C0 (k_XR_pixel hJ2 e2) tv_L_57 (by decide) (by decide) hO hP hS hA2 (hd2 _) hl 0 rfl rfl (Nat.le_of_ble_eq_true rfl) (by decide) (by decide) dL_326 rfl (fun H locs hO hP hS => ?_)
  refine lv_icmp_eq (tgt := 334) hx hb dL_329 (by decide) (fun hc => ?_) (fun hc => absurd hq.1 hc)
  exact hZ (tc_T_mono hq.2 (by omega)) hP hO hS hl
set_option maxHeartbeats 4000000 in
set_option maxRecDepth 100000 in
theorem tl_loop (C : tl_C p s m meth c b Ln xs D cA ad1 ad2) (hL : Ln ≤ 1536) (hE : ∀ (H : Heap) (ls : Array Slot), W p l e room_1 s m #[Value.ref b] below meth c H [] 31 3770 Q (F0 m 341 ls [.int 1])) : ∀ (n : Nat) {i bb : Nat} {σ τ : tc_S} {H : Heap} {locs : List Loc} {ls : Array Slot}, Ln < i + n → i ≤ 4000 → bb ≤ 270000 * i → tc_T bb σ τ → va_P D vwCl (tc_cW ad1 cA σ) H → va_P D vwCl (tc_rW ad2 cA τ) H → va_S (fun q => s.heap.size ≤ q) s.heap H locs → lv_has ls 4 (tl_lv b ad1 ad2 (nI i)) → W p l e room_1 s m #[Value.ref b] below meth c H locs 31 3770 Q (F0 m 18 ls []) := by
  intro n
  induction n with
  | zero =>
    intro i bb σ τ H locs ls h1 hi4 h2 hT hP hO hS hl
    obtain ⟨C0, hX, hbl, hJ1, hJ2, hA1, hA2, hd1, hd2⟩ := C
    obtain ⟨hx, hb, hml, hown, ⟨hK, hN⟩, hr, hlk⟩ := C0
    have hbA : ¬ s.heap.size ≤ b := by omega
    refine lv_iload_n hx hb dL_18 rfl (lv_at hl 0 rfl) ?_
    refine lv_aload_n hx hb dL_19 rfl (lv_at hl 3 rfl) ?_
    refine va_slen hx hb hX hbl hbA hS dL_20 ?_
    refine lv_iconst (v := 3) hx hb dL_21 (by decide) ?_
    refine lv_isub hx hb dL_22 ?_
    refine lv_icmp_gt (tgt := 340) hx hb dL_23 (by decide) (fun hc => ?_) (fun hc => ?_)
    · refine va_forget hS.2.2 ?_
      refine lv_iconst (v := 1) hx hb dL_340 (by decide) ?_
      exact hE H ls
    · exact absurd (tl_end hL (i := i) (by omega) hi4) hc
  | succ n ih =>
    intro i bb σ τ H locs ls h1 hi4 h2 hT hP hO hS hl
    have C9 := C
    obtain ⟨C0, hX, hbl, hJ1, hJ2, hA1, hA2, hd1, hd2⟩ := C
    obtain ⟨hx, hb, hml, hown, ⟨hK, hN⟩, hr, hlk⟩ := C0
    have hbA : ¬ s.heap.size ≤ b := by omega
    refine lv_iload_n hx hb dL_18 rfl (lv_at hl 0 rfl) ?_
    refine lv_aload_n hx hb dL_19 rfl (lv_at hl 3 rfl) ?_
    refine va_slen hx hb hX hbl hbA hS dL_20 ?_
    refine lv_iconst (v := 3) hx hb dL_21 (by decide) ?_
    refine lv_isub hx hb dL_22 ?_
    refine lv_icmp_gt (tgt := 340) hx hb dL_23 (by decide) (fun hc => ?_) (fun hc => ?_)
    · refine va_forget hS.2.2 ?_
      refine lv_iconst (v := 1) hx hb dL_340 (by decide) ?_
      exact hE H ls
    have hi : i + 3 ≤ Ln := by
      by_cases z : i + 3 ≤ Ln
      · exact z
      · exact absurd (tl_end hL (i := i) (by omega) hi4) hc
    have hbb : bb < 500000000 := by omega
    have hZ : ∀ {σ τ : tc_S} {H : Heap} {locs : List Loc} {ls : Array Slot}, tc_T (bb + 810000) σ τ → va_P D vwCl (tc_cW ad1 cA σ) H → va_P D vwCl (tc_rW ad2 cA τ) H → va_S (fun q => s.heap.size ≤ q) s.heap H locs → lv_has ls 4 (tl_lv b ad1 ad2 (nI i)) → W p l e room_1 s m #[Value.ref b] below meth c H locs 31 3770 Q (F0 m 334 ls []) := by
      intro σ τ H locs ls hT hP hO hS hl
      refine lv_iinc (k := 0) (v := (nI i + 3)) (lv' := tl_lv b ad1 ad2 (nI i + 3)) hx hb dL_334 hl rfl rfl (by decide) rfl (fun ls hl => ?_)
      refine lv_goto (tgt := 18) hx hb dL_337 (by decide) ?_
      rw [show nI i + 3 = nI (i + 3) from nI_add i 3] at hl
      exact ih (i := i + 3) (bb := bb + 810000) (by omega) (by omega) (by omega) hT hP hO hS hl
    have in0 : vp_in (nI i) Ln := vp_in_nI (by omega) (by omega)
    refine lv_aload_n hx hb dL_26 rfl (lv_at hl 3 rfl) ?_
    refine lv_iload_n hx hb dL_27 rfl (lv_at hl 0 rfl) ?_
    refine va_sld hx hb hX hbl hbA hS in0 dL_28 ?_
    refine lv_bipush (v := 15) hx hb dL_29 (by decide) ?_
    refine lv_iand hx hb dL_31 ?_
    generalize (xs (nI i).toNatClampNeg &&& 15) = x
    by_cases hc0 : x = 0
    · refine lv_tableIn (off := 56) (tgt := 88) hx hb dL_32 (by rw [hc0]; decide) (by rw [hc0]; decide) (by rw [hc0]; decide) (by decide) ?_
      exact tl_0 C9 hL hi hbb hT hP hO hS hl hZ
    by_cases hc1 : x = 1
    · refine lv_tableIn (off := 89) (tgt := 121) hx hb dL_32 (by rw [hc1]; decide) (by rw [hc1]; decide) (by rw [hc1]; decide) (by decide) ?_
      exact tl_1 C9 hL hi hbb hT hP hO hS hl hZ
    by_cases hc2 : x = 2
    · refine lv_tableIn (off := 100) (tgt := 132) hx hb dL_32 (by rw [hc2]; decide) (by rw [hc2]; decide) (by rw [hc2]; decide) (by decide) ?_
      exact tl_2 C9 hL hi hbb hT hP hO hS hl hZ
    by_cases hc3 : x = 3
    · refine lv_tableIn (off := 121) (tgt := 153) hx hb dL_32 (by rw [hc3]; decide) (by rw [hc3]; decide) (by rw [hc3]; decide) (by decide) ?_
      exact tl_3 C9 hL hi hbb hT hP hO hS hl hZ
    by_cases hc4 : x = 4
    · refine lv_tableIn (off := 134) (tgt := 166) hx hb dL_32 (by rw [hc4]; decide) (by rw [hc4]; decide) (by rw [hc4]; decide) (by decide) ?_
      exact tl_4 C9 hL hi hbb hT hP hO hS hl hZ
    by_cases hc5 : x = 5
    · refine lv_tableIn (off := 157) (tgt := 189) hx hb dL_32 (by rw [hc5]; decide) (by rw [hc5]; decide) (by rw [hc5]; decide) (by decide) ?_
      exact tl_5 C9 hL hi hbb hT hP hO hS hl hZ
    by_cases hc6 : x = 6
    · refine lv_tableIn (off := 180) (tgt := 212) hx hb dL_32 (by rw [hc6]; decide) (by rw [hc6]; decide) (by rw [hc6]; decide) (by decide) ?_
      exact tl_6 C9 hL hi hbb hT hP hO hS hl hZ
    by_cases hc7 : x = 7
    · refine lv_tableIn (off := 203) (tgt := 235) hx hb dL_32 (by rw [hc7]; decide) (by rw [hc7]; decide) (by rw [hc7]; decide) (by decide) ?_
      exact tl_7 C9 hL hi hbb hT hP hO hS hl hZ
    by_cases hc8 : x = 8
    · refine lv_tableIn (off := 236) (tgt := 268) hx hb dL_32 (by rw [hc8]; decide) (by rw [hc8]; decide) (by rw [hc8]; decide) (by decide) ?_
      exact tl_8 C9 hL hi hbb hT hP hO hS hl hZ
    by_cases hc9 : x = 9
    · refine lv_tableIn (off := 269) (tgt := 301) hx hb dL_32 (by rw [hc9]; decide) (by rw [hc9]; decide) (by rw [hc9]; decide) (by decide) ?_
      exact tl_9 C9 hL hi hbb hT hP hO hS hl hZ
    have hn0 := lv_neT (a := 0) hc0 (by decide)
    have hn1 := lv_neT (a := 1) hc1 (by decide)
    have hn2 := lv_neT (a := 2) hc2 (by decide)
    have hn3 := lv_neT (a := 3) hc3 (by decide)
    have hn4 := lv_neT (a := 4) hc4 (by decide)
    have hn5 := lv_neT (a := 5) hc5 (by decide)
    have hn6 := lv_neT (a := 6) hc6 (by decide)
    have hn7 := lv_neT (a := 7) hc7 (by decide)
    have hn8 := lv_neT (a := 8) hc8 (by decide)
    have hn9 := lv_neT (a := 9) hc9 (by decide)
    refine lv_tableOut (tgt := 334) hx hb dL_32 (by omega) (by decide) ?_
    exact hZ (tc_T_mono hT (by omega)) hP hO hS hl
end TL
