section
/-! ETModel.readValue -/
theorem l199_0 : (ax_dt (ax_T 199)).lookup 0 = some (.aload_n 0, 1, 0, 0, 0) := by decide +kernel
theorem l199_1 : (ax_dt (ax_T 199)).lookup 1 = some (.getfield 312, 3, 9, 40, 0) := by decide +kernel
theorem l199_4 : (ax_dt (ax_T 199)).lookup 4 = some (.istore_n 2, 1, 0, 0, 0) := by decide +kernel
theorem l199_5 : (ax_dt (ax_T 199)).lookup 5 = some (.aload_n 0, 1, 0, 0, 0) := by decide +kernel
theorem l199_6 : (ax_dt (ax_T 199)).lookup 6 = some (.getfield 38, 3, 9, 12, 0) := by decide +kernel
theorem l199_9 : (ax_dt (ax_T 199)).lookup 9 = some (.iload_n 1, 1, 0, 0, 0) := by decide +kernel
theorem l199_10 : (ax_dt (ax_T 199)).lookup 10 = some (.iaload, 1, 0, 0, 0) := by decide +kernel
theorem l199_11 : (ax_dt (ax_T 199)).lookup 11 = some (.tableswitch 293 5 25 #[111, 125, 139, 229, 293, 245, 97, 154, 187, 237, 202, 293, 293, 293, 293, 293, 293, 293, 293, 293, 219], 97, 0, 0, 0) := by decide +kernel
theorem l199_108 : (ax_dt (ax_T 199)).lookup 108 = some (.aload_n 0, 1, 0, 0, 0) := by decide +kernel
theorem l199_109 : (ax_dt (ax_T 199)).lookup 109 = some (.getfield 41, 3, 9, 13, 0) := by decide +kernel
theorem l199_112 : (ax_dt (ax_T 199)).lookup 112 = some (.iload_n 1, 1, 0, 0, 0) := by decide +kernel
theorem l199_113 : (ax_dt (ax_T 199)).lookup 113 = some (.aload_n 0, 1, 0, 0, 0) := by decide +kernel
theorem l199_114 : (ax_dt (ax_T 199)).lookup 114 = some (.iconst 1, 1, 0, 0, 0) := by decide +kernel
theorem l199_115 : (ax_dt (ax_T 199)).lookup 115 = some (.invokevirtual 343, 3, 189, 1, 0) := by decide +kernel
theorem l199_118 : (ax_dt (ax_T 199)).lookup 118 = some (.lastore, 1, 0, 0, 0) := by decide +kernel
theorem l199_119 : (ax_dt (ax_T 199)).lookup 119 = some (.goto 237, 3, 0, 0, 0) := by decide +kernel
theorem l199_122 : (ax_dt (ax_T 199)).lookup 122 = some (.aload_n 0, 1, 0, 0, 0) := by decide +kernel
theorem l199_123 : (ax_dt (ax_T 199)).lookup 123 = some (.getfield 41, 3, 9, 13, 0) := by decide +kernel
theorem l199_126 : (ax_dt (ax_T 199)).lookup 126 = some (.iload_n 1, 1, 0, 0, 0) := by decide +kernel
theorem l199_127 : (ax_dt (ax_T 199)).lookup 127 = some (.aload_n 0, 1, 0, 0, 0) := by decide +kernel
theorem l199_128 : (ax_dt (ax_T 199)).lookup 128 = some (.iconst 2, 1, 0, 0, 0) := by decide +kernel
theorem l199_129 : (ax_dt (ax_T 199)).lookup 129 = some (.invokevirtual 343, 3, 189, 1, 0) := by decide +kernel
theorem l199_132 : (ax_dt (ax_T 199)).lookup 132 = some (.lastore, 1, 0, 0, 0) := by decide +kernel
theorem l199_133 : (ax_dt (ax_T 199)).lookup 133 = some (.goto 223, 3, 0, 0, 0) := by decide +kernel
theorem l199_136 : (ax_dt (ax_T 199)).lookup 136 = some (.aload_n 0, 1, 0, 0, 0) := by decide +kernel
theorem l199_137 : (ax_dt (ax_T 199)).lookup 137 = some (.getfield 41, 3, 9, 13, 0) := by decide +kernel
theorem l199_140 : (ax_dt (ax_T 199)).lookup 140 = some (.iload_n 1, 1, 0, 0, 0) := by decide +kernel
theorem l199_141 : (ax_dt (ax_T 199)).lookup 141 = some (.aload_n 0, 1, 0, 0, 0) := by decide +kernel
theorem l199_142 : (ax_dt (ax_T 199)).lookup 142 = some (.iconst 4, 1, 0, 0, 0) := by decide +kernel
theorem l199_143 : (ax_dt (ax_T 199)).lookup 143 = some (.invokevirtual 343, 3, 189, 1, 0) := by decide +kernel
theorem l199_146 : (ax_dt (ax_T 199)).lookup 146 = some (.lastore, 1, 0, 0, 0) := by decide +kernel
theorem l199_147 : (ax_dt (ax_T 199)).lookup 147 = some (.goto 209, 3, 0, 0, 0) := by decide +kernel
theorem l199_150 : (ax_dt (ax_T 199)).lookup 150 = some (.aload_n 0, 1, 0, 0, 0) := by decide +kernel
theorem l199_151 : (ax_dt (ax_T 199)).lookup 151 = some (.getfield 41, 3, 9, 13, 0) := by decide +kernel
theorem l199_154 : (ax_dt (ax_T 199)).lookup 154 = some (.iload_n 1, 1, 0, 0, 0) := by decide +kernel
theorem l199_155 : (ax_dt (ax_T 199)).lookup 155 = some (.aload_n 0, 1, 0, 0, 0) := by decide +kernel
theorem l199_156 : (ax_dt (ax_T 199)).lookup 156 = some (.bipush 8, 2, 0, 0, 0) := by decide +kernel
theorem l199_158 : (ax_dt (ax_T 199)).lookup 158 = some (.invokevirtual 343, 3, 189, 1, 0) := by decide +kernel
theorem l199_161 : (ax_dt (ax_T 199)).lookup 161 = some (.lastore, 1, 0, 0, 0) := by decide +kernel
theorem l199_162 : (ax_dt (ax_T 199)).lookup 162 = some (.goto 194, 3, 0, 0, 0) := by decide +kernel
theorem l199_165 : (ax_dt (ax_T 199)).lookup 165 = some (.aload_n 0, 1, 0, 0, 0) := by decide +kernel
theorem l199_166 : (ax_dt (ax_T 199)).lookup 166 = some (.getfield 41, 3, 9, 13, 0) := by decide +kernel
theorem l199_169 : (ax_dt (ax_T 199)).lookup 169 = some (.iload_n 1, 1, 0, 0, 0) := by decide +kernel
theorem l199_170 : (ax_dt (ax_T 199)).lookup 170 = some (.aload_n 0, 1, 0, 0, 0) := by decide +kernel
theorem l199_171 : (ax_dt (ax_T 199)).lookup 171 = some (.iconst 1, 1, 0, 0, 0) := by decide +kernel
theorem l199_172 : (ax_dt (ax_T 199)).lookup 172 = some (.invokevirtual 343, 3, 189, 1, 0) := by decide +kernel
theorem l199_175 : (ax_dt (ax_T 199)).lookup 175 = some (.lastore, 1, 0, 0, 0) := by decide +kernel
theorem l199_176 : (ax_dt (ax_T 199)).lookup 176 = some (.aload_n 0, 1, 0, 0, 0) := by decide +kernel
theorem l199_177 : (ax_dt (ax_T 199)).lookup 177 = some (.getfield 41, 3, 9, 13, 0) := by decide +kernel
theorem l199_180 : (ax_dt (ax_T 199)).lookup 180 = some (.iload_n 1, 1, 0, 0, 0) := by decide +kernel
theorem l199_181 : (ax_dt (ax_T 199)).lookup 181 = some (.laload, 1, 0, 0, 0) := by decide +kernel
theorem l199_182 : (ax_dt (ax_T 199)).lookup 182 = some (.lconst 1, 1, 0, 0, 0) := by decide +kernel
theorem l199_183 : (ax_dt (ax_T 199)).lookup 183 = some (.lcmp, 1, 0, 0, 0) := by decide +kernel
theorem l199_184 : (ax_dt (ax_T 199)).lookup 184 = some (.ifCond .le 172, 3, 0, 0, 0) := by decide +kernel
theorem l199_187 : (ax_dt (ax_T 199)).lookup 187 = some (.aload_n 0, 1, 0, 0, 0) := by decide +kernel
theorem l199_188 : (ax_dt (ax_T 199)).lookup 188 = some (.bipush 6, 2, 0, 0, 0) := by decide +kernel
theorem l199_190 : (ax_dt (ax_T 199)).lookup 190 = some (.iconst 0, 1, 0, 0, 0) := by decide +kernel
theorem l199_191 : (ax_dt (ax_T 199)).lookup 191 = some (.iload_n 2, 1, 0, 0, 0) := by decide +kernel
theorem l199_192 : (ax_dt (ax_T 199)).lookup 192 = some (.invokevirtual 318, 3, 186, 3, 0) := by decide +kernel
theorem l199_195 : (ax_dt (ax_T 199)).lookup 195 = some (.goto 161, 3, 0, 0, 0) := by decide +kernel
theorem l199_198 : (ax_dt (ax_T 199)).lookup 198 = some (.aload_n 0, 1, 0, 0, 0) := by decide +kernel
theorem l199_199 : (ax_dt (ax_T 199)).lookup 199 = some (.getfield 41, 3, 9, 13, 0) := by decide +kernel
theorem l199_202 : (ax_dt (ax_T 199)).lookup 202 = some (.iload_n 1, 1, 0, 0, 0) := by decide +kernel
theorem l199_203 : (ax_dt (ax_T 199)).lookup 203 = some (.aload_n 0, 1, 0, 0, 0) := by decide +kernel
theorem l199_204 : (ax_dt (ax_T 199)).lookup 204 = some (.iconst 1, 1, 0, 0, 0) := by decide +kernel
theorem l199_205 : (ax_dt (ax_T 199)).lookup 205 = some (.lconst 0, 1, 0, 0, 0) := by decide +kernel
theorem l199_206 : (ax_dt (ax_T 199)).lookup 206 = some (.invokevirtual 339, 3, 190, 2, 0) := by decide +kernel
theorem l199_209 : (ax_dt (ax_T 199)).lookup 209 = some (.lastore, 1, 0, 0, 0) := by decide +kernel
theorem l199_210 : (ax_dt (ax_T 199)).lookup 210 = some (.goto 146, 3, 0, 0, 0) := by decide +kernel
theorem l199_213 : (ax_dt (ax_T 199)).lookup 213 = some (.aload_n 0, 1, 0, 0, 0) := by decide +kernel
theorem l199_214 : (ax_dt (ax_T 199)).lookup 214 = some (.getfield 41, 3, 9, 13, 0) := by decide +kernel
theorem l199_217 : (ax_dt (ax_T 199)).lookup 217 = some (.iload_n 1, 1, 0, 0, 0) := by decide +kernel
theorem l199_218 : (ax_dt (ax_T 199)).lookup 218 = some (.aload_n 0, 1, 0, 0, 0) := by decide +kernel
theorem l199_219 : (ax_dt (ax_T 199)).lookup 219 = some (.iconst 0, 1, 0, 0, 0) := by decide +kernel
theorem l199_220 : (ax_dt (ax_T 199)).lookup 220 = some (.ldc2_w 361, 3, 0, 0, 9223372036854775807) := by decide +kernel
theorem l199_223 : (ax_dt (ax_T 199)).lookup 223 = some (.invokevirtual 339, 3, 190, 2, 0) := by decide +kernel
theorem l199_226 : (ax_dt (ax_T 199)).lookup 226 = some (.lastore, 1, 0, 0, 0) := by decide +kernel
theorem l199_227 : (ax_dt (ax_T 199)).lookup 227 = some (.goto 129, 3, 0, 0, 0) := by decide +kernel
theorem l199_230 : (ax_dt (ax_T 199)).lookup 230 = some (.aload_n 0, 1, 0, 0, 0) := by decide +kernel
theorem l199_231 : (ax_dt (ax_T 199)).lookup 231 = some (.getfield 41, 3, 9, 13, 0) := by decide +kernel
theorem l199_234 : (ax_dt (ax_T 199)).lookup 234 = some (.iload_n 1, 1, 0, 0, 0) := by decide +kernel
theorem l199_235 : (ax_dt (ax_T 199)).lookup 235 = some (.lconst 1, 1, 0, 0, 0) := by decide +kernel
theorem l199_236 : (ax_dt (ax_T 199)).lookup 236 = some (.lastore, 1, 0, 0, 0) := by decide +kernel
theorem l199_237 : (ax_dt (ax_T 199)).lookup 237 = some (.goto 119, 3, 0, 0, 0) := by decide +kernel
theorem l199_240 : (ax_dt (ax_T 199)).lookup 240 = some (.aload_n 0, 1, 0, 0, 0) := by decide +kernel
theorem l199_241 : (ax_dt (ax_T 199)).lookup 241 = some (.iload_n 1, 1, 0, 0, 0) := by decide +kernel
theorem l199_242 : (ax_dt (ax_T 199)).lookup 242 = some (.invokevirtual 363, 3, 197, 1, 0) := by decide +kernel
theorem l199_245 : (ax_dt (ax_T 199)).lookup 245 = some (.goto 111, 3, 0, 0, 0) := by decide +kernel
theorem l199_248 : (ax_dt (ax_T 199)).lookup 248 = some (.aload_n 0, 1, 0, 0, 0) := by decide +kernel
theorem l199_249 : (ax_dt (ax_T 199)).lookup 249 = some (.iload_n 1, 1, 0, 0, 0) := by decide +kernel
theorem l199_250 : (ax_dt (ax_T 199)).lookup 250 = some (.invokevirtual 366, 3, 198, 1, 0) := by decide +kernel
theorem l199_253 : (ax_dt (ax_T 199)).lookup 253 = some (.goto 103, 3, 0, 0, 0) := by decide +kernel
theorem l199_256 : (ax_dt (ax_T 199)).lookup 256 = some (.aload_n 0, 1, 0, 0, 0) := by decide +kernel
theorem l199_257 : (ax_dt (ax_T 199)).lookup 257 = some (.iconst 1, 1, 0, 0, 0) := by decide +kernel
theorem l199_258 : (ax_dt (ax_T 199)).lookup 258 = some (.invokevirtual 343, 3, 189, 1, 0) := by decide +kernel
theorem l199_261 : (ax_dt (ax_T 199)).lookup 261 = some (.l2i, 1, 0, 0, 0) := by decide +kernel
theorem l199_262 : (ax_dt (ax_T 199)).lookup 262 = some (.istore_n 3, 1, 0, 0, 0) := by decide +kernel
theorem l199_263 : (ax_dt (ax_T 199)).lookup 263 = some (.aload_n 0, 1, 0, 0, 0) := by decide +kernel
theorem l199_264 : (ax_dt (ax_T 199)).lookup 264 = some (.iload_n 3, 1, 0, 0, 0) := by decide +kernel
theorem l199_265 : (ax_dt (ax_T 199)).lookup 265 = some (.invokevirtual 322, 3, 188, 1, 0) := by decide +kernel
theorem l199_268 : (ax_dt (ax_T 199)).lookup 268 = some (.ifCond .eq 88, 3, 0, 0, 0) := by decide +kernel
theorem l199_271 : (ax_dt (ax_T 199)).lookup 271 = some (.aload_n 0, 1, 0, 0, 0) := by decide +kernel
theorem l199_272 : (ax_dt (ax_T 199)).lookup 272 = some (.iload_n 1, 1, 0, 0, 0) := by decide +kernel
theorem l199_273 : (ax_dt (ax_T 199)).lookup 273 = some (.aload_n 0, 1, 0, 0, 0) := by decide +kernel
theorem l199_274 : (ax_dt (ax_T 199)).lookup 274 = some (.iconst 0, 1, 0, 0, 0) := by decide +kernel
theorem l199_275 : (ax_dt (ax_T 199)).lookup 275 = some (.invokestatic 284, 3, 135, 1, 0) := by decide +kernel
theorem l199_278 : (ax_dt (ax_T 199)).lookup 278 = some (.aload_n 0, 1, 0, 0, 0) := by decide +kernel
theorem l199_279 : (ax_dt (ax_T 199)).lookup 279 = some (.getfield 312, 3, 9, 40, 0) := by decide +kernel
theorem l199_282 : (ax_dt (ax_T 199)).lookup 282 = some (.iadd, 1, 0, 0, 0) := by decide +kernel
theorem l199_283 : (ax_dt (ax_T 199)).lookup 283 = some (.iload_n 3, 1, 0, 0, 0) := by decide +kernel
theorem l199_284 : (ax_dt (ax_T 199)).lookup 284 = some (.invokevirtual 354, 3, 196, 2, 0) := by decide +kernel
theorem l199_287 : (ax_dt (ax_T 199)).lookup 287 = some (.iload_n 3, 1, 0, 0, 0) := by decide +kernel
theorem l199_288 : (ax_dt (ax_T 199)).lookup 288 = some (.invokevirtual 358, 3, 195, 3, 0) := by decide +kernel
theorem l199_291 : (ax_dt (ax_T 199)).lookup 291 = some (.aload_n 0, 1, 0, 0, 0) := by decide +kernel
theorem l199_292 : (ax_dt (ax_T 199)).lookup 292 = some (.aload_n 0, 1, 0, 0, 0) := by decide +kernel
theorem l199_293 : (ax_dt (ax_T 199)).lookup 293 = some (.getfield 312, 3, 9, 40, 0) := by decide +kernel
theorem l199_296 : (ax_dt (ax_T 199)).lookup 296 = some (.iload_n 3, 1, 0, 0, 0) := by decide +kernel
theorem l199_297 : (ax_dt (ax_T 199)).lookup 297 = some (.iadd, 1, 0, 0, 0) := by decide +kernel
theorem l199_298 : (ax_dt (ax_T 199)).lookup 298 = some (.putfield 312, 3, 9, 40, 0) := by decide +kernel
theorem l199_301 : (ax_dt (ax_T 199)).lookup 301 = some (.goto 55, 3, 0, 0, 0) := by decide +kernel
theorem l199_304 : (ax_dt (ax_T 199)).lookup 304 = some (.aload_n 0, 1, 0, 0, 0) := by decide +kernel
theorem l199_305 : (ax_dt (ax_T 199)).lookup 305 = some (.getfield 117, 3, 9, 51, 0) := by decide +kernel
theorem l199_308 : (ax_dt (ax_T 199)).lookup 308 = some (.iload_n 1, 1, 0, 0, 0) := by decide +kernel
theorem l199_309 : (ax_dt (ax_T 199)).lookup 309 = some (.sipush 3200, 3, 0, 0, 0) := by decide +kernel
theorem l199_312 : (ax_dt (ax_T 199)).lookup 312 = some (.aload_n 0, 1, 0, 0, 0) := by decide +kernel
theorem l199_313 : (ax_dt (ax_T 199)).lookup 313 = some (.getfield 137, 3, 9, 3, 0) := by decide +kernel
theorem l199_316 : (ax_dt (ax_T 199)).lookup 316 = some (.imul, 1, 0, 0, 0) := by decide +kernel
theorem l199_317 : (ax_dt (ax_T 199)).lookup 317 = some (.isub, 1, 0, 0, 0) := by decide +kernel
theorem l199_318 : (ax_dt (ax_T 199)).lookup 318 = some (.aload_n 0, 1, 0, 0, 0) := by decide +kernel
theorem l199_319 : (ax_dt (ax_T 199)).lookup 319 = some (.getfield 312, 3, 9, 40, 0) := by decide +kernel
theorem l199_322 : (ax_dt (ax_T 199)).lookup 322 = some (.iastore, 1, 0, 0, 0) := by decide +kernel
theorem l199_323 : (ax_dt (ax_T 199)).lookup 323 = some (.aload_n 0, 1, 0, 0, 0) := by decide +kernel
theorem l199_324 : (ax_dt (ax_T 199)).lookup 324 = some (.getfield 41, 3, 9, 13, 0) := by decide +kernel
theorem l199_327 : (ax_dt (ax_T 199)).lookup 327 = some (.iload_n 1, 1, 0, 0, 0) := by decide +kernel
theorem l199_328 : (ax_dt (ax_T 199)).lookup 328 = some (.aload_n 0, 1, 0, 0, 0) := by decide +kernel
theorem l199_329 : (ax_dt (ax_T 199)).lookup 329 = some (.getfield 38, 3, 9, 12, 0) := by decide +kernel
theorem l199_332 : (ax_dt (ax_T 199)).lookup 332 = some (.iload_n 1, 1, 0, 0, 0) := by decide +kernel
theorem l199_333 : (ax_dt (ax_T 199)).lookup 333 = some (.iaload, 1, 0, 0, 0) := by decide +kernel
theorem l199_334 : (ax_dt (ax_T 199)).lookup 334 = some (.bipush 19, 2, 0, 0, 0) := by decide +kernel
theorem l199_336 : (ax_dt (ax_T 199)).lookup 336 = some (.if_icmp .ne 11, 3, 0, 0, 0) := by decide +kernel
theorem l199_339 : (ax_dt (ax_T 199)).lookup 339 = some (.aload_n 0, 1, 0, 0, 0) := by decide +kernel
theorem l199_340 : (ax_dt (ax_T 199)).lookup 340 = some (.iconst 4, 1, 0, 0, 0) := by decide +kernel
theorem l199_341 : (ax_dt (ax_T 199)).lookup 341 = some (.invokevirtual 343, 3, 189, 1, 0) := by decide +kernel
theorem l199_344 : (ax_dt (ax_T 199)).lookup 344 = some (.goto 11, 3, 0, 0, 0) := by decide +kernel
theorem l199_347 : (ax_dt (ax_T 199)).lookup 347 = some (.aload_n 0, 1, 0, 0, 0) := by decide +kernel
theorem l199_348 : (ax_dt (ax_T 199)).lookup 348 = some (.iconst 0, 1, 0, 0, 0) := by decide +kernel
theorem l199_349 : (ax_dt (ax_T 199)).lookup 349 = some (.ldc2_w 337, 3, 0, 0, 2147483647) := by decide +kernel
theorem l199_352 : (ax_dt (ax_T 199)).lookup 352 = some (.invokevirtual 339, 3, 190, 2, 0) := by decide +kernel
theorem l199_355 : (ax_dt (ax_T 199)).lookup 355 = some (.lastore, 1, 0, 0, 0) := by decide +kernel
theorem l199_356 : (ax_dt (ax_T 199)).lookup 356 = some (.return_, 1, 0, 0, 0) := by decide +kernel
noncomputable def F_X11_readValue_304 (v1 : Int) (μ : bM) : Option (Int × bM) := bG (bR (3200 * (μ 76 3))) (bG (bR (v1 - (3200 * (μ 76 3)))) (bG (0 ≤ (v1 - (3200 * (μ 76 3))) ∧ (v1 - (3200 * (μ 76 3))) < 3200) (bG (0 ≤ v1 ∧ v1 < 6400) (if ¬ ((bset μ 111 (v1 - (3200 * (μ 76 3))).toNat (μ 76 40)) 86 v1.toNat) = 19 then bMm (F_X11_row 0 2147483647 (bset μ 111 (v1 - (3200 * (μ 76 3))).toNat (μ 76 40))) (fun w5 μ6 => bG (0 ≤ v1 ∧ v1 < 6400) (some (0, (bset μ6 87 v1.toNat w5)))) else bMm (F_X11_fixed 4 (bset μ 111 (v1 - (3200 * (μ 76 3))).toNat (μ 76 40))) (fun w10 μ11 => bG (0 ≤ v1 ∧ v1 < 6400) (some (0, (bset μ11 87 v1.toNat w10))))))))
noncomputable def F_X11_readValue (v1 : Int) (μ : bM) : Option (Int × bM) := bG (0 ≤ v1 ∧ v1 < 6400) (if (μ 86 v1.toNat) = 5 then bMm (F_X11_fixed 2 μ) (fun w1 μ2 => bG (0 ≤ v1 ∧ v1 < 6400) (some (0, (bset μ2 87 v1.toNat w1)))) else if (μ 86 v1.toNat) = 6 then bMm (F_X11_fixed 4 μ) (fun w6 μ7 => bG (0 ≤ v1 ∧ v1 < 6400) (some (0, (bset μ7 87 v1.toNat w6)))) else if (μ 86 v1.toNat) = 7 then bMm (F_X11_fixed 8 μ) (fun w11 μ12 => bG (0 ≤ v1 ∧ v1 < 6400) (some (0, (bset μ12 87 v1.toNat w11)))) else if (μ 86 v1.toNat) = 8 then bMm (F_X11_readText8 v1 μ) (fun w16 μ17 => some (0, μ17)) else if (μ 86 v1.toNat) = 9 then F_X11_readValue_304 v1 μ else if (μ 86 v1.toNat) = 10 then bMm (F_X11_fixed 1 μ) (fun w19 μ20 => bMm (F_X11_has (b32 w19) μ20) (fun w22 μ23 => if w22 = 0 then some (0, μ23) else (F_X11_from 0 μ23).bind fun w26 => bG (bR (w26 + (μ23 76 40))) (bMm (F_X11_keep (w26 + (μ23 76 40)) (b32 w19) μ23) (fun w28 μ29 => bMm (F_X11_textIs v1 w28 (b32 w19) μ29) (fun w31 μ32 => bG (bR ((μ32 76 40) + (b32 w19))) (some (0, (bset μ32 76 40 ((μ32 76 40) + (b32 w19)))))))))) else if (μ 86 v1.toNat) = 11 then bMm (F_X11_fixed 1 μ) (fun w36 μ37 => bG (0 ≤ v1 ∧ v1 < 6400) (some (0, (bset μ37 87 v1.toNat w36)))) else if (μ 86 v1.toNat) = 12 then bMm (F_X11_fixed 1 μ) (fun w41 μ42 => bG (0 ≤ v1 ∧ v1 < 6400) (bG (0 ≤ v1 ∧ v1 < 6400) (if (bCmp ((bset μ42 87 v1.toNat w41) 87 v1.toNat) 1) ≤ 0 then some (0, (bset μ42 87 v1.toNat w41)) else bMm (F_X11_bad 6 0 (μ 76 40) (bset μ42 87 v1.toNat w41)) (fun w46 μ47 => some (0, μ47))))) else if (μ 86 v1.toNat) = 13 then bMm (F_X11_row 1 0 μ) (fun w51 μ52 => bG (0 ≤ v1 ∧ v1 < 6400) (some (0, (bset μ52 87 v1.toNat w51)))) else if (μ 86 v1.toNat) = 14 then bMm (F_X11_readText14 v1 μ) (fun w56 μ57 => some (0, μ57)) else if (μ 86 v1.toNat) = 15 then bMm (F_X11_row 0 9223372036854775807 μ) (fun w59 μ60 => bG (0 ≤ v1 ∧ v1 < 6400) (some (0, (bset μ60 87 v1.toNat w59)))) else if (μ 86 v1.toNat) = 16 then F_X11_readValue_304 v1 μ else if (μ 86 v1.toNat) = 17 then F_X11_readValue_304 v1 μ else if (μ 86 v1.toNat) = 18 then F_X11_readValue_304 v1 μ else if (μ 86 v1.toNat) = 19 then F_X11_readValue_304 v1 μ else if (μ 86 v1.toNat) = 20 then F_X11_readValue_304 v1 μ else if (μ 86 v1.toNat) = 21 then F_X11_readValue_304 v1 μ else if (μ 86 v1.toNat) = 22 then F_X11_readValue_304 v1 μ else if (μ 86 v1.toNat) = 23 then F_X11_readValue_304 v1 μ else if (μ 86 v1.toNat) = 24 then F_X11_readValue_304 v1 μ else if (μ 86 v1.toNat) = 25 then bG (0 ≤ v1 ∧ v1 < 6400) (some (0, (bset μ 87 v1.toNat 1))) else F_X11_readValue_304 v1 μ)
theorem p_X11_readValue_304 {L : Nat} {xs : Nat → Int32} {d : Nat} {μ : bM}  {κ : (Int × bM) → Option bX} (hr : ∀ r : Int × bM, κ r = (bMc) r)  {v1 : Int} (h1 : bR v1) : bD L xs (d + 4) 199 304 [(0, .ref 76), (1, bI v1)] [] μ ((F_X11_readValue_304 v1 μ).bind κ) := by
  unfold F_X11_readValue_304
  refine bD.ok fun hk => ?_
  refine b_s (pc' := 305) (lv1 := [(0, .ref 76), (1, bI v1)]) (st' := [.ref 76]) l199_304 (fun _ => rfl) ?_
  refine b_gp (q' := 111) (j := 35) l199_305 (by rfl) (by decide) (by decide) rfl hk rfl rfl (b_pc (pc' := 308) rfl ?_)
  refine b_s (pc' := 309) (lv1 := [(0, .ref 76), (1, bI v1)]) (st' := [bI v1, .ref 111]) l199_308 (fun _ => rfl) ?_
  refine b_sipush l199_309 (by decide) (b_pc (pc' := 312) rfl ?_)
  refine b_s (pc' := 313) (lv1 := [(0, .ref 76), (1, bI v1)]) (st' := [.ref 76, bI 3200, bI v1, .ref 111]) l199_312 (fun _ => rfl) ?_
  refine b_gi l199_313 (by rfl) (by decide) (by decide) rfl (b_pc (pc' := 316) rfl ?_)
  refine b_imul l199_316 fun g1 => (b_pc (pc' := 317) rfl ?_)
  refine b_isub l199_317 fun g2 => (b_pc (pc' := 318) rfl ?_)
  refine b_s (pc' := 319) (lv1 := [(0, .ref 76), (1, bI v1)]) (st' := [.ref 76, bI (v1 - (3200 * (μ 76 3))), .ref 111]) l199_318 (fun _ => rfl) ?_
  refine b_gi l199_319 (by rfl) (by decide) (by decide) rfl (b_pc (pc' := 322) rfl ?_)
  refine b_g fun g16 => ?_
  refine b_ias l199_322 (by rfl) g16 (bO_f hk (ci := 9) (by rfl) rfl) (bD.ok fun hk3 => b_pc (pc' := 323) rfl ?_)
  refine b_s (pc' := 324) (lv1 := [(0, .ref 76), (1, bI v1)]) (st' := [.ref 76]) l199_323 (fun _ => rfl) ?_
  refine b_gp (q' := 87) (j := 11) l199_324 (by rfl) (by decide) (by decide) rfl hk3 rfl rfl (b_pc (pc' := 327) rfl ?_)
  refine b_s (pc' := 328) (lv1 := [(0, .ref 76), (1, bI v1)]) (st' := [bI v1, .ref 87]) l199_327 (fun _ => rfl) ?_
  refine b_s (pc' := 329) (lv1 := [(0, .ref 76), (1, bI v1)]) (st' := [.ref 76, bI v1, .ref 87]) l199_328 (fun _ => rfl) ?_
  refine b_gp (q' := 86) (j := 10) l199_329 (by rfl) (by decide) (by decide) rfl hk3 rfl rfl (b_pc (pc' := 332) rfl ?_)
  refine b_s (pc' := 333) (lv1 := [(0, .ref 76), (1, bI v1)]) (st' := [bI v1, .ref 86, bI v1, .ref 87]) l199_332 (fun _ => rfl) ?_
  refine b_g fun g15 => ?_
  refine b_ial l199_333 (by rfl) g15 (b_pc (pc' := 334) rfl ?_)
  refine b_bipush l199_334 (by decide) (b_pc (pc' := 336) rfl ?_)
  refine b_ine (pt := 347) l199_336 (bO_i hk3 (by rfl)) (by decide) (by decide) rfl (fun c4 => ?_) (fun c4 => b_pc (pc' := 339) rfl ?_)
  · refine b_s (pc' := 348) (lv1 := [(0, .ref 76), (1, bI v1)]) (st' := [.ref 76, bI v1, .ref 87]) l199_347 (fun _ => rfl) ?_
    refine b_s (pc' := 349) (lv1 := [(0, .ref 76), (1, bI v1)]) (st' := [bI 0, .ref 76, bI v1, .ref 87]) l199_348 (fun _ => rfl) ?_
    refine b_s (pc' := 352) (lv1 := [(0, .ref 76), (1, bI v1)]) (st' := [bLg 2147483647, bI 0, .ref 76, bI v1, .ref 87]) l199_349 (fun _ => rfl) ?_
    refine b_cMl l199_352 rfl (b_rc (ci := 9) (by rfl) (by decide) (by decide +kernel)) (Nat.le_of_ble_eq_true rfl) (Nat.le_of_ble_eq_true rfl) rfl (r_X11_row 0 (by decide) 2147483647 (by decide)) fun w5 μ6 hw5 => bD.ok fun hk7 => b_pc (pc' := 355) rfl ?_
    refine b_g fun g9 => ?_
    refine b_las l199_355 (by rfl) g9 hw5 (bD.ok fun hk8 => b_pc (pc' := 356) rfl ?_)
    exact b_retv l199_356 rfl (hr _)
  · refine b_s (pc' := 340) (lv1 := [(0, .ref 76), (1, bI v1)]) (st' := [.ref 76, bI v1, .ref 87]) l199_339 (fun _ => rfl) ?_
    refine b_s (pc' := 341) (lv1 := [(0, .ref 76), (1, bI v1)]) (st' := [bI 4, .ref 76, bI v1, .ref 87]) l199_340 (fun _ => rfl) ?_
    refine b_cMl l199_341 rfl (b_rc (ci := 9) (by rfl) (by decide) (by decide +kernel)) (Nat.le_of_ble_eq_true rfl) (Nat.le_of_ble_eq_true rfl) rfl (r_X11_fixed 4 (by decide)) fun w10 μ11 hw10 => bD.ok fun hk12 => b_pc (pc' := 344) rfl ?_
    refine b_s (pc' := 355) (lv1 := [(0, .ref 76), (1, bI v1)]) (st' := [bLg w10, bI v1, .ref 87]) l199_344 (fun _ => rfl) ?_
    refine b_g fun g14 => ?_
    refine b_las l199_355 (by rfl) g14 hw10 (bD.ok fun hk13 => b_pc (pc' := 356) rfl ?_)
    exact b_retv l199_356 rfl (hr _)
theorem r_X11_readValue {L : Nat} {xs : Nat → Int32} {d : Nat} {μ : bM}  (v1 : Int) (h1 : bR v1) : bD L xs (d + 4) 199 0 [(0, .ref 76), (1, bI v1)] [] μ ((F_X11_readValue v1 μ).bind (bMc)) := by
  have hr : ∀ r, (bMc) r = (bMc) r := fun _ => rfl
  unfold F_X11_readValue
  refine bD.ok fun hk => ?_
  refine b_s (pc' := 1) (lv1 := [(0, .ref 76), (1, bI v1)]) (st' := [.ref 76]) l199_0 (fun _ => rfl) ?_
  refine b_gi l199_1 (by rfl) (by decide) (by decide) rfl (b_pc (pc' := 4) rfl ?_)
  refine b_w (pc' := 5) (lv1 := ax_st1 [(0, .ref 76), (1, bI v1)] 2 (bI (μ 76 40))) (lv' := [(0, .ref 76), (1, bI v1), (2, bI (μ 76 40))]) (st' := []) l199_4 (fun _ => rfl) (bSb rfl (bSb rfl (bSb rfl bSn))) ?_
  refine b_s (pc' := 6) (lv1 := [(0, .ref 76), (1, bI v1), (2, bI (μ 76 40))]) (st' := [.ref 76]) l199_5 (fun _ => rfl) ?_
  refine b_gp (q' := 86) (j := 10) l199_6 (by rfl) (by decide) (by decide) rfl hk rfl rfl (b_pc (pc' := 9) rfl ?_)
  refine b_s (pc' := 10) (lv1 := [(0, .ref 76), (1, bI v1), (2, bI (μ 76 40))]) (st' := [bI v1, .ref 86]) l199_9 (fun _ => rfl) ?_
  refine b_g fun g87 => ?_
  refine b_ial l199_10 (by rfl) g87 (b_pc (pc' := 11) rfl ?_)
  refine b_tsw l199_11 (bO_i hk (by rfl)) (by decide) (by decide) (by decide) ?_
  refine b_pc (pc' := bTg [(5, 122), (6, 136), (7, 150), (8, 240), (9, 304), (10, 256), (11, 108), (12, 165), (13, 198), (14, 248), (15, 213), (16, 304), (17, 304), (18, 304), (19, 304), (20, 304), (21, 304), (22, 304), (23, 304), (24, 304), (25, 230)] 304 (μ 86 v1.toNat)) rfl ?_
  refine b_tg (fun c86 => ?_) (fun c86 => ?_)
  · refine b_s (pc' := 123) (lv1 := [(0, .ref 76), (1, bI v1), (2, bI (μ 76 40))]) (st' := [.ref 76]) l199_122 (fun _ => rfl) ?_
    refine b_gp (q' := 87) (j := 11) l199_123 (by rfl) (by decide) (by decide) rfl hk rfl rfl (b_pc (pc' := 126) rfl ?_)
    refine b_s (pc' := 127) (lv1 := [(0, .ref 76), (1, bI v1), (2, bI (μ 76 40))]) (st' := [bI v1, .ref 87]) l199_126 (fun _ => rfl) ?_
    refine b_s (pc' := 128) (lv1 := [(0, .ref 76), (1, bI v1), (2, bI (μ 76 40))]) (st' := [.ref 76, bI v1, .ref 87]) l199_127 (fun _ => rfl) ?_
    refine b_s (pc' := 129) (lv1 := [(0, .ref 76), (1, bI v1), (2, bI (μ 76 40))]) (st' := [bI 2, .ref 76, bI v1, .ref 87]) l199_128 (fun _ => rfl) ?_
    refine b_cMl l199_129 rfl (b_rc (ci := 9) (by rfl) (by decide) (by decide +kernel)) (Nat.le_of_ble_eq_true rfl) (Nat.le_of_ble_eq_true rfl) rfl (r_X11_fixed 2 (by decide)) fun w1 μ2 hw1 => bD.ok fun hk3 => b_pc (pc' := 132) rfl ?_
    refine b_g fun g5 => ?_
    refine b_las l199_132 (by rfl) g5 hw1 (bD.ok fun hk4 => b_pc (pc' := 133) rfl ?_)
    refine b_s (pc' := 356) (lv1 := [(0, .ref 76), (1, bI v1), (2, bI (μ 76 40))]) (st' := []) l199_133 (fun _ => rfl) ?_
    exact b_retv l199_356 rfl (hr _)
  · refine b_tg (fun c85 => ?_) (fun c85 => ?_)
    · refine b_s (pc' := 137) (lv1 := [(0, .ref 76), (1, bI v1), (2, bI (μ 76 40))]) (st' := [.ref 76]) l199_136 (fun _ => rfl) ?_
      refine b_gp (q' := 87) (j := 11) l199_137 (by rfl) (by decide) (by decide) rfl hk rfl rfl (b_pc (pc' := 140) rfl ?_)
      refine b_s (pc' := 141) (lv1 := [(0, .ref 76), (1, bI v1), (2, bI (μ 76 40))]) (st' := [bI v1, .ref 87]) l199_140 (fun _ => rfl) ?_
      refine b_s (pc' := 142) (lv1 := [(0, .ref 76), (1, bI v1), (2, bI (μ 76 40))]) (st' := [.ref 76, bI v1, .ref 87]) l199_141 (fun _ => rfl) ?_
      refine b_s (pc' := 143) (lv1 := [(0, .ref 76), (1, bI v1), (2, bI (μ 76 40))]) (st' := [bI 4, .ref 76, bI v1, .ref 87]) l199_142 (fun _ => rfl) ?_
      refine b_cMl l199_143 rfl (b_rc (ci := 9) (by rfl) (by decide) (by decide +kernel)) (Nat.le_of_ble_eq_true rfl) (Nat.le_of_ble_eq_true rfl) rfl (r_X11_fixed 4 (by decide)) fun w6 μ7 hw6 => bD.ok fun hk8 => b_pc (pc' := 146) rfl ?_
      refine b_g fun g10 => ?_
      refine b_las l199_146 (by rfl) g10 hw6 (bD.ok fun hk9 => b_pc (pc' := 147) rfl ?_)
      refine b_s (pc' := 356) (lv1 := [(0, .ref 76), (1, bI v1), (2, bI (μ 76 40))]) (st' := []) l199_147 (fun _ => rfl) ?_
      exact b_retv l199_356 rfl (hr _)
    · refine b_tg (fun c84 => ?_) (fun c84 => ?_)
      · refine b_s (pc' := 151) (lv1 := [(0, .ref 76), (1, bI v1), (2, bI (μ 76 40))]) (st' := [.ref 76]) l199_150 (fun _ => rfl) ?_
        refine b_gp (q' := 87) (j := 11) l199_151 (by rfl) (by decide) (by decide) rfl hk rfl rfl (b_pc (pc' := 154) rfl ?_)
        refine b_s (pc' := 155) (lv1 := [(0, .ref 76), (1, bI v1), (2, bI (μ 76 40))]) (st' := [bI v1, .ref 87]) l199_154 (fun _ => rfl) ?_
        refine b_s (pc' := 156) (lv1 := [(0, .ref 76), (1, bI v1), (2, bI (μ 76 40))]) (st' := [.ref 76, bI v1, .ref 87]) l199_155 (fun _ => rfl) ?_
        refine b_bipush l199_156 (by decide) (b_pc (pc' := 158) rfl ?_)
        refine b_cMl l199_158 rfl (b_rc (ci := 9) (by rfl) (by decide) (by decide +kernel)) (Nat.le_of_ble_eq_true rfl) (Nat.le_of_ble_eq_true rfl) rfl (r_X11_fixed 8 (by decide)) fun w11 μ12 hw11 => bD.ok fun hk13 => b_pc (pc' := 161) rfl ?_
        refine b_g fun g15 => ?_
        refine b_las l199_161 (by rfl) g15 hw11 (bD.ok fun hk14 => b_pc (pc' := 162) rfl ?_)
        refine b_s (pc' := 356) (lv1 := [(0, .ref 76), (1, bI v1), (2, bI (μ 76 40))]) (st' := []) l199_162 (fun _ => rfl) ?_
        exact b_retv l199_356 rfl (hr _)
      · refine b_tg (fun c83 => ?_) (fun c83 => ?_)
        · refine b_s (pc' := 241) (lv1 := [(0, .ref 76), (1, bI v1), (2, bI (μ 76 40))]) (st' := [.ref 76]) l199_240 (fun _ => rfl) ?_
          refine b_s (pc' := 242) (lv1 := [(0, .ref 76), (1, bI v1), (2, bI (μ 76 40))]) (st' := [bI v1, .ref 76]) l199_241 (fun _ => rfl) ?_
          refine b_cMv l199_242 rfl (b_rc (ci := 9) (by rfl) (by decide) (by decide +kernel)) (Nat.le_of_ble_eq_true rfl) (Nat.le_of_ble_eq_true rfl) rfl (r_X11_readText8 v1 h1) fun w16 μ17 hw16 => bD.ok fun hk18 => b_pc (pc' := 245) rfl ?_
          refine b_s (pc' := 356) (lv1 := [(0, .ref 76), (1, bI v1), (2, bI (μ 76 40))]) (st' := []) l199_245 (fun _ => rfl) ?_
          exact b_retv l199_356 rfl (hr _)
        · refine b_tg (fun c82 => ?_) (fun c82 => ?_)
          · refine bD.wk (lv' := [(0, .ref 76), (1, bI v1)]) (bSb rfl (bSb rfl bSn)) ?_
            exact p_X11_readValue_304 hr h1
          · refine b_tg (fun c81 => ?_) (fun c81 => ?_)
            · refine b_s (pc' := 257) (lv1 := [(0, .ref 76), (1, bI v1), (2, bI (μ 76 40))]) (st' := [.ref 76]) l199_256 (fun _ => rfl) ?_
              refine b_s (pc' := 258) (lv1 := [(0, .ref 76), (1, bI v1), (2, bI (μ 76 40))]) (st' := [bI 1, .ref 76]) l199_257 (fun _ => rfl) ?_
              refine b_cMl l199_258 rfl (b_rc (ci := 9) (by rfl) (by decide) (by decide +kernel)) (Nat.le_of_ble_eq_true rfl) (Nat.le_of_ble_eq_true rfl) rfl (r_X11_fixed 1 (by decide)) fun w19 μ20 hw19 => bD.ok fun hk21 => b_pc (pc' := 261) rfl ?_
              refine b_l2i l199_261 (b_pc (pc' := 262) rfl ?_)
              refine b_w (pc' := 263) (lv1 := ax_st1 [(0, .ref 76), (1, bI v1), (2, bI (μ 76 40))] 3 (bI (b32 w19))) (lv' := [(0, .ref 76), (1, bI v1), (3, bI (b32 w19))]) (st' := []) l199_262 (fun _ => rfl) (bSb rfl (bSb rfl (bSb rfl bSn))) ?_
              refine b_s (pc' := 264) (lv1 := [(0, .ref 76), (1, bI v1), (3, bI (b32 w19))]) (st' := [.ref 76]) l199_263 (fun _ => rfl) ?_
              refine b_s (pc' := 265) (lv1 := [(0, .ref 76), (1, bI v1), (3, bI (b32 w19))]) (st' := [bI (b32 w19), .ref 76]) l199_264 (fun _ => rfl) ?_
              refine b_cMz l199_265 rfl (b_rc (ci := 9) (by rfl) (by decide) (by decide +kernel)) (Nat.le_of_ble_eq_true rfl) (Nat.le_of_ble_eq_true rfl) rfl (r_X11_has (b32 w19) (b32_R _)) fun w22 μ23 hw22 => bD.ok fun hk24 => b_pc (pc' := 268) rfl ?_
              refine b_zeq (pt := 356) l199_268 (bZ_R hw22) (by decide) rfl (fun c25 => ?_) (fun c25 => b_pc (pc' := 271) rfl ?_)
              · exact b_retv l199_356 rfl (hr _)
              · refine b_s (pc' := 272) (lv1 := [(0, .ref 76), (1, bI v1), (3, bI (b32 w19))]) (st' := [.ref 76]) l199_271 (fun _ => rfl) ?_
                refine b_s (pc' := 273) (lv1 := [(0, .ref 76), (1, bI v1), (3, bI (b32 w19))]) (st' := [bI v1, .ref 76]) l199_272 (fun _ => rfl) ?_
                refine b_s (pc' := 274) (lv1 := [(0, .ref 76), (1, bI v1), (3, bI (b32 w19))]) (st' := [.ref 76, bI v1, .ref 76]) l199_273 (fun _ => rfl) ?_
                refine b_s (pc' := 275) (lv1 := [(0, .ref 76), (1, bI v1), (3, bI (b32 w19))]) (st' := [bI 0, .ref 76, bI v1, .ref 76]) l199_274 (fun _ => rfl) ?_
                refine b_cPi l199_275 rfl (fun _ => trivial) (Nat.le_of_ble_eq_true rfl) (Nat.le_of_ble_eq_true rfl) rfl (r_X11_from 0 (by decide)) fun w26 hw26 => b_pc (pc' := 278) rfl ?_
                refine b_s (pc' := 279) (lv1 := [(0, .ref 76), (1, bI v1), (3, bI (b32 w19))]) (st' := [.ref 76, bI w26, .ref 76, bI v1, .ref 76]) l199_278 (fun _ => rfl) ?_
                refine b_gi l199_279 (by rfl) (by decide) (by decide) rfl (b_pc (pc' := 282) rfl ?_)
                refine b_iadd l199_282 fun g27 => (b_pc (pc' := 283) rfl ?_)
                refine b_s (pc' := 284) (lv1 := [(0, .ref 76), (1, bI v1), (3, bI (b32 w19))]) (st' := [bI (b32 w19), bI (w26 + (μ23 76 40)), .ref 76, bI v1, .ref 76]) l199_283 (fun _ => rfl) ?_
                refine b_cMi l199_284 rfl (b_rc (ci := 9) (by rfl) (by decide) (by decide +kernel)) (Nat.le_of_ble_eq_true rfl) (Nat.le_of_ble_eq_true rfl) rfl (r_X11_keep (w26 + (μ23 76 40)) g27 (b32 w19) (b32_R _)) fun w28 μ29 hw28 => bD.ok fun hk30 => b_pc (pc' := 287) rfl ?_
                refine b_s (pc' := 288) (lv1 := [(0, .ref 76), (1, bI v1), (3, bI (b32 w19))]) (st' := [bI (b32 w19), bI w28, bI v1, .ref 76]) l199_287 (fun _ => rfl) ?_
                refine b_cMv l199_288 rfl (b_rc (ci := 9) (by rfl) (by decide) (by decide +kernel)) (Nat.le_of_ble_eq_true rfl) (Nat.le_of_ble_eq_true rfl) rfl (r_X11_textIs v1 h1 w28 hw28 (b32 w19) (b32_R _)) fun w31 μ32 hw31 => bD.ok fun hk33 => b_pc (pc' := 291) rfl ?_
                refine b_s (pc' := 292) (lv1 := [(0, .ref 76), (1, bI v1), (3, bI (b32 w19))]) (st' := [.ref 76]) l199_291 (fun _ => rfl) ?_
                refine b_s (pc' := 293) (lv1 := [(0, .ref 76), (1, bI v1), (3, bI (b32 w19))]) (st' := [.ref 76, .ref 76]) l199_292 (fun _ => rfl) ?_
                refine b_gi l199_293 (by rfl) (by decide) (by decide) rfl (b_pc (pc' := 296) rfl ?_)
                refine b_s (pc' := 297) (lv1 := [(0, .ref 76), (1, bI v1), (3, bI (b32 w19))]) (st' := [bI (b32 w19), bI (μ32 76 40), .ref 76]) l199_296 (fun _ => rfl) ?_
                refine b_iadd l199_297 fun g34 => (b_pc (pc' := 298) rfl ?_)
                refine b_pi l199_298 (by rfl) (by decide) (by decide) rfl rfl g34 (bD.ok fun hk35 => b_pc (pc' := 301) rfl ?_)
                refine b_s (pc' := 356) (lv1 := [(0, .ref 76), (1, bI v1), (3, bI (b32 w19))]) (st' := []) l199_301 (fun _ => rfl) ?_
                exact b_retv l199_356 rfl (hr _)
            · refine b_tg (fun c80 => ?_) (fun c80 => ?_)
              · refine b_s (pc' := 109) (lv1 := [(0, .ref 76), (1, bI v1), (2, bI (μ 76 40))]) (st' := [.ref 76]) l199_108 (fun _ => rfl) ?_
                refine b_gp (q' := 87) (j := 11) l199_109 (by rfl) (by decide) (by decide) rfl hk rfl rfl (b_pc (pc' := 112) rfl ?_)
                refine b_s (pc' := 113) (lv1 := [(0, .ref 76), (1, bI v1), (2, bI (μ 76 40))]) (st' := [bI v1, .ref 87]) l199_112 (fun _ => rfl) ?_
                refine b_s (pc' := 114) (lv1 := [(0, .ref 76), (1, bI v1), (2, bI (μ 76 40))]) (st' := [.ref 76, bI v1, .ref 87]) l199_113 (fun _ => rfl) ?_
                refine b_s (pc' := 115) (lv1 := [(0, .ref 76), (1, bI v1), (2, bI (μ 76 40))]) (st' := [bI 1, .ref 76, bI v1, .ref 87]) l199_114 (fun _ => rfl) ?_
                refine b_cMl l199_115 rfl (b_rc (ci := 9) (by rfl) (by decide) (by decide +kernel)) (Nat.le_of_ble_eq_true rfl) (Nat.le_of_ble_eq_true rfl) rfl (r_X11_fixed 1 (by decide)) fun w36 μ37 hw36 => bD.ok fun hk38 => b_pc (pc' := 118) rfl ?_
                refine b_g fun g40 => ?_
                refine b_las l199_118 (by rfl) g40 hw36 (bD.ok fun hk39 => b_pc (pc' := 119) rfl ?_)
                refine b_s (pc' := 356) (lv1 := [(0, .ref 76), (1, bI v1), (2, bI (μ 76 40))]) (st' := []) l199_119 (fun _ => rfl) ?_
                exact b_retv l199_356 rfl (hr _)
              · refine b_tg (fun c79 => ?_) (fun c79 => ?_)
                · refine b_s (pc' := 166) (lv1 := [(0, .ref 76), (1, bI v1), (2, bI (μ 76 40))]) (st' := [.ref 76]) l199_165 (fun _ => rfl) ?_
                  refine b_gp (q' := 87) (j := 11) l199_166 (by rfl) (by decide) (by decide) rfl hk rfl rfl (b_pc (pc' := 169) rfl ?_)
                  refine b_s (pc' := 170) (lv1 := [(0, .ref 76), (1, bI v1), (2, bI (μ 76 40))]) (st' := [bI v1, .ref 87]) l199_169 (fun _ => rfl) ?_
                  refine b_s (pc' := 171) (lv1 := [(0, .ref 76), (1, bI v1), (2, bI (μ 76 40))]) (st' := [.ref 76, bI v1, .ref 87]) l199_170 (fun _ => rfl) ?_
                  refine b_s (pc' := 172) (lv1 := [(0, .ref 76), (1, bI v1), (2, bI (μ 76 40))]) (st' := [bI 1, .ref 76, bI v1, .ref 87]) l199_171 (fun _ => rfl) ?_
                  refine b_cMl l199_172 rfl (b_rc (ci := 9) (by rfl) (by decide) (by decide +kernel)) (Nat.le_of_ble_eq_true rfl) (Nat.le_of_ble_eq_true rfl) rfl (r_X11_fixed 1 (by decide)) fun w41 μ42 hw41 => bD.ok fun hk43 => b_pc (pc' := 175) rfl ?_
                  refine b_g fun g50 => ?_
                  refine b_las l199_175 (by rfl) g50 hw41 (bD.ok fun hk44 => b_pc (pc' := 176) rfl ?_)
                  refine b_s (pc' := 177) (lv1 := [(0, .ref 76), (1, bI v1), (2, bI (μ 76 40))]) (st' := [.ref 76]) l199_176 (fun _ => rfl) ?_
                  refine b_gp (q' := 87) (j := 11) l199_177 (by rfl) (by decide) (by decide) rfl hk44 rfl rfl (b_pc (pc' := 180) rfl ?_)
                  refine b_s (pc' := 181) (lv1 := [(0, .ref 76), (1, bI v1), (2, bI (μ 76 40))]) (st' := [bI v1, .ref 87]) l199_180 (fun _ => rfl) ?_
                  refine b_g fun g49 => ?_
                  refine b_lal l199_181 (by rfl) g49 (b_pc (pc' := 182) rfl ?_)
                  refine b_lconst (e := 1) l199_182 (by decide) (b_pc (pc' := 183) rfl ?_)
                  refine b_lcmp l199_183 (bO_l hk44 (by rfl)) (by decide) (b_pc (pc' := 184) rfl ?_)
                  refine b_zle (pt := 356) l199_184 (bCmp_R _ _) (by decide) rfl (fun c45 => ?_) (fun c45 => b_pc (pc' := 187) rfl ?_)
                  · exact b_retv l199_356 rfl (hr _)
                  · refine b_s (pc' := 188) (lv1 := [(0, .ref 76), (1, bI v1), (2, bI (μ 76 40))]) (st' := [.ref 76]) l199_187 (fun _ => rfl) ?_
                    refine b_bipush l199_188 (by decide) (b_pc (pc' := 190) rfl ?_)
                    refine b_s (pc' := 191) (lv1 := [(0, .ref 76), (1, bI v1), (2, bI (μ 76 40))]) (st' := [bI 0, bI 6, .ref 76]) l199_190 (fun _ => rfl) ?_
                    refine b_s (pc' := 192) (lv1 := [(0, .ref 76), (1, bI v1), (2, bI (μ 76 40))]) (st' := [bI (μ 76 40), bI 0, bI 6, .ref 76]) l199_191 (fun _ => rfl) ?_
                    refine b_cMv l199_192 rfl (b_rc (ci := 9) (by rfl) (by decide) (by decide +kernel)) (Nat.le_of_ble_eq_true rfl) (Nat.le_of_ble_eq_true rfl) rfl (r_X11_bad 6 (by decide) 0 (by decide) (μ 76 40) (bO_f hk (ci := 9) (by rfl) rfl)) fun w46 μ47 hw46 => bD.ok fun hk48 => b_pc (pc' := 195) rfl ?_
                    refine b_s (pc' := 356) (lv1 := [(0, .ref 76), (1, bI v1), (2, bI (μ 76 40))]) (st' := []) l199_195 (fun _ => rfl) ?_
                    exact b_retv l199_356 rfl (hr _)
                · refine b_tg (fun c78 => ?_) (fun c78 => ?_)
                  · refine b_s (pc' := 199) (lv1 := [(0, .ref 76), (1, bI v1), (2, bI (μ 76 40))]) (st' := [.ref 76]) l199_198 (fun _ => rfl) ?_
                    refine b_gp (q' := 87) (j := 11) l199_199 (by rfl) (by decide) (by decide) rfl hk rfl rfl (b_pc (pc' := 202) rfl ?_)
                    refine b_s (pc' := 203) (lv1 := [(0, .ref 76), (1, bI v1), (2, bI (μ 76 40))]) (st' := [bI v1, .ref 87]) l199_202 (fun _ => rfl) ?_
                    refine b_s (pc' := 204) (lv1 := [(0, .ref 76), (1, bI v1), (2, bI (μ 76 40))]) (st' := [.ref 76, bI v1, .ref 87]) l199_203 (fun _ => rfl) ?_
                    refine b_s (pc' := 205) (lv1 := [(0, .ref 76), (1, bI v1), (2, bI (μ 76 40))]) (st' := [bI 1, .ref 76, bI v1, .ref 87]) l199_204 (fun _ => rfl) ?_
                    refine b_lconst (e := 0) l199_205 (by decide) (b_pc (pc' := 206) rfl ?_)
                    refine b_cMl l199_206 rfl (b_rc (ci := 9) (by rfl) (by decide) (by decide +kernel)) (Nat.le_of_ble_eq_true rfl) (Nat.le_of_ble_eq_true rfl) rfl (r_X11_row 1 (by decide) 0 (by decide)) fun w51 μ52 hw51 => bD.ok fun hk53 => b_pc (pc' := 209) rfl ?_
                    refine b_g fun g55 => ?_
                    refine b_las l199_209 (by rfl) g55 hw51 (bD.ok fun hk54 => b_pc (pc' := 210) rfl ?_)
                    refine b_s (pc' := 356) (lv1 := [(0, .ref 76), (1, bI v1), (2, bI (μ 76 40))]) (st' := []) l199_210 (fun _ => rfl) ?_
                    exact b_retv l199_356 rfl (hr _)
                  · refine b_tg (fun c77 => ?_) (fun c77 => ?_)
                    · refine b_s (pc' := 249) (lv1 := [(0, .ref 76), (1, bI v1), (2, bI (μ 76 40))]) (st' := [.ref 76]) l199_248 (fun _ => rfl) ?_
                      refine b_s (pc' := 250) (lv1 := [(0, .ref 76), (1, bI v1), (2, bI (μ 76 40))]) (st' := [bI v1, .ref 76]) l199_249 (fun _ => rfl) ?_
                      refine b_cMv l199_250 rfl (b_rc (ci := 9) (by rfl) (by decide) (by decide +kernel)) (Nat.le_of_ble_eq_true rfl) (Nat.le_of_ble_eq_true rfl) rfl (r_X11_readText14 v1 h1) fun w56 μ57 hw56 => bD.ok fun hk58 => b_pc (pc' := 253) rfl ?_
                      refine b_s (pc' := 356) (lv1 := [(0, .ref 76), (1, bI v1), (2, bI (μ 76 40))]) (st' := []) l199_253 (fun _ => rfl) ?_
                      exact b_retv l199_356 rfl (hr _)
                    · refine b_tg (fun c76 => ?_) (fun c76 => ?_)
                      · refine b_s (pc' := 214) (lv1 := [(0, .ref 76), (1, bI v1), (2, bI (μ 76 40))]) (st' := [.ref 76]) l199_213 (fun _ => rfl) ?_
                        refine b_gp (q' := 87) (j := 11) l199_214 (by rfl) (by decide) (by decide) rfl hk rfl rfl (b_pc (pc' := 217) rfl ?_)
                        refine b_s (pc' := 218) (lv1 := [(0, .ref 76), (1, bI v1), (2, bI (μ 76 40))]) (st' := [bI v1, .ref 87]) l199_217 (fun _ => rfl) ?_
                        refine b_s (pc' := 219) (lv1 := [(0, .ref 76), (1, bI v1), (2, bI (μ 76 40))]) (st' := [.ref 76, bI v1, .ref 87]) l199_218 (fun _ => rfl) ?_
                        refine b_s (pc' := 220) (lv1 := [(0, .ref 76), (1, bI v1), (2, bI (μ 76 40))]) (st' := [bI 0, .ref 76, bI v1, .ref 87]) l199_219 (fun _ => rfl) ?_
                        refine b_s (pc' := 223) (lv1 := [(0, .ref 76), (1, bI v1), (2, bI (μ 76 40))]) (st' := [bLg 9223372036854775807, bI 0, .ref 76, bI v1, .ref 87]) l199_220 (fun _ => rfl) ?_
                        refine b_cMl l199_223 rfl (b_rc (ci := 9) (by rfl) (by decide) (by decide +kernel)) (Nat.le_of_ble_eq_true rfl) (Nat.le_of_ble_eq_true rfl) rfl (r_X11_row 0 (by decide) 9223372036854775807 (by decide)) fun w59 μ60 hw59 => bD.ok fun hk61 => b_pc (pc' := 226) rfl ?_
                        refine b_g fun g63 => ?_
                        refine b_las l199_226 (by rfl) g63 hw59 (bD.ok fun hk62 => b_pc (pc' := 227) rfl ?_)
                        refine b_s (pc' := 356) (lv1 := [(0, .ref 76), (1, bI v1), (2, bI (μ 76 40))]) (st' := []) l199_227 (fun _ => rfl) ?_
                        exact b_retv l199_356 rfl (hr _)
                      · refine b_tg (fun c75 => ?_) (fun c75 => ?_)
                        · refine bD.wk (lv' := [(0, .ref 76), (1, bI v1)]) (bSb rfl (bSb rfl bSn)) ?_
                          exact p_X11_readValue_304 hr h1
                        · refine b_tg (fun c74 => ?_) (fun c74 => ?_)
                          · refine bD.wk (lv' := [(0, .ref 76), (1, bI v1)]) (bSb rfl (bSb rfl bSn)) ?_
                            exact p_X11_readValue_304 hr h1
                          · refine b_tg (fun c73 => ?_) (fun c73 => ?_)
                            · refine bD.wk (lv' := [(0, .ref 76), (1, bI v1)]) (bSb rfl (bSb rfl bSn)) ?_
                              exact p_X11_readValue_304 hr h1
                            · refine b_tg (fun c72 => ?_) (fun c72 => ?_)
                              · refine bD.wk (lv' := [(0, .ref 76), (1, bI v1)]) (bSb rfl (bSb rfl bSn)) ?_
                                exact p_X11_readValue_304 hr h1
                              · refine b_tg (fun c71 => ?_) (fun c71 => ?_)
                                · refine bD.wk (lv' := [(0, .ref 76), (1, bI v1)]) (bSb rfl (bSb rfl bSn)) ?_
                                  exact p_X11_readValue_304 hr h1
                                · refine b_tg (fun c70 => ?_) (fun c70 => ?_)
                                  · refine bD.wk (lv' := [(0, .ref 76), (1, bI v1)]) (bSb rfl (bSb rfl bSn)) ?_
                                    exact p_X11_readValue_304 hr h1
                                  · refine b_tg (fun c69 => ?_) (fun c69 => ?_)
                                    · refine bD.wk (lv' := [(0, .ref 76), (1, bI v1)]) (bSb rfl (bSb rfl bSn)) ?_
                                      exact p_X11_readValue_304 hr h1
                                    · refine b_tg (fun c68 => ?_) (fun c68 => ?_)
                                      · refine bD.wk (lv' := [(0, .ref 76), (1, bI v1)]) (bSb rfl (bSb rfl bSn)) ?_
                                        exact p_X11_readValue_304 hr h1
                                      · refine b_tg (fun c67 => ?_) (fun c67 => ?_)
                                        · refine bD.wk (lv' := [(0, .ref 76), (1, bI v1)]) (bSb rfl (bSb rfl bSn)) ?_
                                          exact p_X11_readValue_304 hr h1
                                        · refine b_tg (fun c66 => ?_) (fun c66 => ?_)
                                          · refine b_s (pc' := 231) (lv1 := [(0, .ref 76), (1, bI v1), (2, bI (μ 76 40))]) (st' := [.ref 76]) l199_230 (fun _ => rfl) ?_
                                            refine b_gp (q' := 87) (j := 11) l199_231 (by rfl) (by decide) (by decide) rfl hk rfl rfl (b_pc (pc' := 234) rfl ?_)
                                            refine b_s (pc' := 235) (lv1 := [(0, .ref 76), (1, bI v1), (2, bI (μ 76 40))]) (st' := [bI v1, .ref 87]) l199_234 (fun _ => rfl) ?_
                                            refine b_lconst (e := 1) l199_235 (by decide) (b_pc (pc' := 236) rfl ?_)
                                            refine b_g fun g65 => ?_
                                            refine b_las l199_236 (by rfl) g65 (by decide) (bD.ok fun hk64 => b_pc (pc' := 237) rfl ?_)
                                            refine b_s (pc' := 356) (lv1 := [(0, .ref 76), (1, bI v1), (2, bI (μ 76 40))]) (st' := []) l199_237 (fun _ => rfl) ?_
                                            exact b_retv l199_356 rfl (hr _)
                                          · refine b_pc (pc' := 304) rfl ?_
                                            refine bD.wk (lv' := [(0, .ref 76), (1, bI v1)]) (bSb rfl (bSb rfl bSn)) ?_
                                            exact p_X11_readValue_304 hr h1
/-! ETModel.readEntry -/
theorem l200_0 : (ax_dt (ax_T 200)).lookup 0 = some (.aload_n 0, 1, 0, 0, 0) := by decide +kernel
theorem l200_1 : (ax_dt (ax_T 200)).lookup 1 = some (.getfield 312, 3, 9, 40, 0) := by decide +kernel
theorem l200_4 : (ax_dt (ax_T 200)).lookup 4 = some (.istore_n 3, 1, 0, 0, 0) := by decide +kernel
theorem l200_5 : (ax_dt (ax_T 200)).lookup 5 = some (.aload_n 0, 1, 0, 0, 0) := by decide +kernel
theorem l200_6 : (ax_dt (ax_T 200)).lookup 6 = some (.iconst 0, 1, 0, 0, 0) := by decide +kernel
theorem l200_7 : (ax_dt (ax_T 200)).lookup 7 = some (.ldc2_w 337, 3, 0, 0, 2147483647) := by decide +kernel
theorem l200_10 : (ax_dt (ax_T 200)).lookup 10 = some (.invokevirtual 339, 3, 190, 2, 0) := by decide +kernel
theorem l200_13 : (ax_dt (ax_T 200)).lookup 13 = some (.lstore 4, 2, 0, 0, 0) := by decide +kernel
theorem l200_15 : (ax_dt (ax_T 200)).lookup 15 = some (.aload_n 0, 1, 0, 0, 0) := by decide +kernel
theorem l200_16 : (ax_dt (ax_T 200)).lookup 16 = some (.getfield 300, 3, 9, 37, 0) := by decide +kernel
theorem l200_19 : (ax_dt (ax_T 200)).lookup 19 = some (.iconst (-1), 1, 0, 0, 0) := by decide +kernel
theorem l200_20 : (ax_dt (ax_T 200)).lookup 20 = some (.if_icmp .eq 5, 3, 0, 0, 0) := by decide +kernel
theorem l200_23 : (ax_dt (ax_T 200)).lookup 23 = some (.iconst (-1), 1, 0, 0, 0) := by decide +kernel
theorem l200_24 : (ax_dt (ax_T 200)).lookup 24 = some (.ireturn, 1, 0, 0, 0) := by decide +kernel
theorem l200_25 : (ax_dt (ax_T 200)).lookup 25 = some (.lload 4, 2, 0, 0, 0) := by decide +kernel
theorem l200_27 : (ax_dt (ax_T 200)).lookup 27 = some (.lconst 0, 1, 0, 0, 0) := by decide +kernel
theorem l200_28 : (ax_dt (ax_T 200)).lookup 28 = some (.lcmp, 1, 0, 0, 0) := by decide +kernel
theorem l200_29 : (ax_dt (ax_T 200)).lookup 29 = some (.ifCond .ne 17, 3, 0, 0, 0) := by decide +kernel
theorem l200_32 : (ax_dt (ax_T 200)).lookup 32 = some (.iload_n 1, 1, 0, 0, 0) := by decide +kernel
theorem l200_33 : (ax_dt (ax_T 200)).lookup 33 = some (.iconst (-1), 1, 0, 0, 0) := by decide +kernel
theorem l200_34 : (ax_dt (ax_T 200)).lookup 34 = some (.if_icmp .ne 10, 3, 0, 0, 0) := by decide +kernel
theorem l200_37 : (ax_dt (ax_T 200)).lookup 37 = some (.aload_n 0, 1, 0, 0, 0) := by decide +kernel
theorem l200_38 : (ax_dt (ax_T 200)).lookup 38 = some (.iconst 5, 1, 0, 0, 0) := by decide +kernel
theorem l200_39 : (ax_dt (ax_T 200)).lookup 39 = some (.iconst 0, 1, 0, 0, 0) := by decide +kernel
theorem l200_40 : (ax_dt (ax_T 200)).lookup 40 = some (.iload_n 3, 1, 0, 0, 0) := by decide +kernel
theorem l200_41 : (ax_dt (ax_T 200)).lookup 41 = some (.invokevirtual 318, 3, 186, 3, 0) := by decide +kernel
theorem l200_44 : (ax_dt (ax_T 200)).lookup 44 = some (.iconst (-1), 1, 0, 0, 0) := by decide +kernel
theorem l200_45 : (ax_dt (ax_T 200)).lookup 45 = some (.ireturn, 1, 0, 0, 0) := by decide +kernel
theorem l200_46 : (ax_dt (ax_T 200)).lookup 46 = some (.aload_n 0, 1, 0, 0, 0) := by decide +kernel
theorem l200_47 : (ax_dt (ax_T 200)).lookup 47 = some (.lload 4, 2, 0, 0, 0) := by decide +kernel
theorem l200_49 : (ax_dt (ax_T 200)).lookup 49 = some (.invokevirtual 369, 3, 194, 1, 0) := by decide +kernel
theorem l200_52 : (ax_dt (ax_T 200)).lookup 52 = some (.istore 6, 2, 0, 0, 0) := by decide +kernel
theorem l200_54 : (ax_dt (ax_T 200)).lookup 54 = some (.iload 6, 2, 0, 0, 0) := by decide +kernel
theorem l200_56 : (ax_dt (ax_T 200)).lookup 56 = some (.iconst (-1), 1, 0, 0, 0) := by decide +kernel
theorem l200_57 : (ax_dt (ax_T 200)).lookup 57 = some (.if_icmp .ne 10, 3, 0, 0, 0) := by decide +kernel
theorem l200_60 : (ax_dt (ax_T 200)).lookup 60 = some (.aload_n 0, 1, 0, 0, 0) := by decide +kernel
theorem l200_61 : (ax_dt (ax_T 200)).lookup 61 = some (.iconst 5, 1, 0, 0, 0) := by decide +kernel
theorem l200_62 : (ax_dt (ax_T 200)).lookup 62 = some (.iconst 0, 1, 0, 0, 0) := by decide +kernel
theorem l200_63 : (ax_dt (ax_T 200)).lookup 63 = some (.iload_n 3, 1, 0, 0, 0) := by decide +kernel
theorem l200_64 : (ax_dt (ax_T 200)).lookup 64 = some (.invokevirtual 318, 3, 186, 3, 0) := by decide +kernel
theorem l200_67 : (ax_dt (ax_T 200)).lookup 67 = some (.aload_n 0, 1, 0, 0, 0) := by decide +kernel
theorem l200_68 : (ax_dt (ax_T 200)).lookup 68 = some (.getfield 13, 3, 9, 4, 0) := by decide +kernel
theorem l200_71 : (ax_dt (ax_T 200)).lookup 71 = some (.aload_n 0, 1, 0, 0, 0) := by decide +kernel
theorem l200_72 : (ax_dt (ax_T 200)).lookup 72 = some (.getfield 137, 3, 9, 3, 0) := by decide +kernel
theorem l200_75 : (ax_dt (ax_T 200)).lookup 75 = some (.iaload, 1, 0, 0, 0) := by decide +kernel
theorem l200_76 : (ax_dt (ax_T 200)).lookup 76 = some (.sipush 400, 3, 0, 0, 0) := by decide +kernel
theorem l200_79 : (ax_dt (ax_T 200)).lookup 79 = some (.if_icmp .eq 9, 3, 0, 0, 0) := by decide +kernel
theorem l200_82 : (ax_dt (ax_T 200)).lookup 82 = some (.iload_n 2, 1, 0, 0, 0) := by decide +kernel
theorem l200_83 : (ax_dt (ax_T 200)).lookup 83 = some (.bipush 30, 2, 0, 0, 0) := by decide +kernel
theorem l200_85 : (ax_dt (ax_T 200)).lookup 85 = some (.if_icmp .le 11, 3, 0, 0, 0) := by decide +kernel
theorem l200_88 : (ax_dt (ax_T 200)).lookup 88 = some (.aload_n 0, 1, 0, 0, 0) := by decide +kernel
theorem l200_89 : (ax_dt (ax_T 200)).lookup 89 = some (.bipush 8, 2, 0, 0, 0) := by decide +kernel
theorem l200_91 : (ax_dt (ax_T 200)).lookup 91 = some (.iconst 0, 1, 0, 0, 0) := by decide +kernel
theorem l200_92 : (ax_dt (ax_T 200)).lookup 92 = some (.iload_n 3, 1, 0, 0, 0) := by decide +kernel
theorem l200_93 : (ax_dt (ax_T 200)).lookup 93 = some (.invokevirtual 318, 3, 186, 3, 0) := by decide +kernel
theorem l200_96 : (ax_dt (ax_T 200)).lookup 96 = some (.aload_n 0, 1, 0, 0, 0) := by decide +kernel
theorem l200_97 : (ax_dt (ax_T 200)).lookup 97 = some (.getfield 300, 3, 9, 37, 0) := by decide +kernel
theorem l200_100 : (ax_dt (ax_T 200)).lookup 100 = some (.iconst (-1), 1, 0, 0, 0) := by decide +kernel
theorem l200_101 : (ax_dt (ax_T 200)).lookup 101 = some (.if_icmp .eq 5, 3, 0, 0, 0) := by decide +kernel
theorem l200_104 : (ax_dt (ax_T 200)).lookup 104 = some (.iconst (-1), 1, 0, 0, 0) := by decide +kernel
theorem l200_105 : (ax_dt (ax_T 200)).lookup 105 = some (.ireturn, 1, 0, 0, 0) := by decide +kernel
theorem l200_106 : (ax_dt (ax_T 200)).lookup 106 = some (.aload_n 0, 1, 0, 0, 0) := by decide +kernel
theorem l200_107 : (ax_dt (ax_T 200)).lookup 107 = some (.aload_n 0, 1, 0, 0, 0) := by decide +kernel
theorem l200_108 : (ax_dt (ax_T 200)).lookup 108 = some (.getfield 98, 3, 9, 45, 0) := by decide +kernel
theorem l200_111 : (ax_dt (ax_T 200)).lookup 111 = some (.iload 6, 2, 0, 0, 0) := by decide +kernel
theorem l200_113 : (ax_dt (ax_T 200)).lookup 113 = some (.iaload, 1, 0, 0, 0) := by decide +kernel
theorem l200_114 : (ax_dt (ax_T 200)).lookup 114 = some (.iload_n 1, 1, 0, 0, 0) := by decide +kernel
theorem l200_115 : (ax_dt (ax_T 200)).lookup 115 = some (.aload_n 0, 1, 0, 0, 0) := by decide +kernel
theorem l200_116 : (ax_dt (ax_T 200)).lookup 116 = some (.getfield 17, 3, 9, 5, 0) := by decide +kernel
theorem l200_119 : (ax_dt (ax_T 200)).lookup 119 = some (.aload_n 0, 1, 0, 0, 0) := by decide +kernel
theorem l200_120 : (ax_dt (ax_T 200)).lookup 120 = some (.getfield 137, 3, 9, 3, 0) := by decide +kernel
theorem l200_123 : (ax_dt (ax_T 200)).lookup 123 = some (.iaload, 1, 0, 0, 0) := by decide +kernel
theorem l200_124 : (ax_dt (ax_T 200)).lookup 124 = some (.iconst 1, 1, 0, 0, 0) := by decide +kernel
theorem l200_125 : (ax_dt (ax_T 200)).lookup 125 = some (.isub, 1, 0, 0, 0) := by decide +kernel
theorem l200_126 : (ax_dt (ax_T 200)).lookup 126 = some (.invokevirtual 148, 3, 142, 3, 0) := by decide +kernel
theorem l200_129 : (ax_dt (ax_T 200)).lookup 129 = some (.istore 7, 2, 0, 0, 0) := by decide +kernel
theorem l200_131 : (ax_dt (ax_T 200)).lookup 131 = some (.aload_n 0, 1, 0, 0, 0) := by decide +kernel
theorem l200_132 : (ax_dt (ax_T 200)).lookup 132 = some (.getfield 114, 3, 9, 50, 0) := by decide +kernel
theorem l200_135 : (ax_dt (ax_T 200)).lookup 135 = some (.iload 7, 2, 0, 0, 0) := by decide +kernel
theorem l200_137 : (ax_dt (ax_T 200)).lookup 137 = some (.iload_n 3, 1, 0, 0, 0) := by decide +kernel
theorem l200_138 : (ax_dt (ax_T 200)).lookup 138 = some (.aload_n 0, 1, 0, 0, 0) := by decide +kernel
theorem l200_139 : (ax_dt (ax_T 200)).lookup 139 = some (.getfield 372, 3, 9, 52, 0) := by decide +kernel
theorem l200_142 : (ax_dt (ax_T 200)).lookup 142 = some (.isub, 1, 0, 0, 0) := by decide +kernel
theorem l200_143 : (ax_dt (ax_T 200)).lookup 143 = some (.iastore, 1, 0, 0, 0) := by decide +kernel
theorem l200_144 : (ax_dt (ax_T 200)).lookup 144 = some (.iconst 0, 1, 0, 0, 0) := by decide +kernel
theorem l200_145 : (ax_dt (ax_T 200)).lookup 145 = some (.istore 8, 2, 0, 0, 0) := by decide +kernel
theorem l200_147 : (ax_dt (ax_T 200)).lookup 147 = some (.iload 8, 2, 0, 0, 0) := by decide +kernel
theorem l200_149 : (ax_dt (ax_T 200)).lookup 149 = some (.aload_n 0, 1, 0, 0, 0) := by decide +kernel
theorem l200_150 : (ax_dt (ax_T 200)).lookup 150 = some (.getfield 105, 3, 9, 47, 0) := by decide +kernel
theorem l200_153 : (ax_dt (ax_T 200)).lookup 153 = some (.iload 6, 2, 0, 0, 0) := by decide +kernel
theorem l200_155 : (ax_dt (ax_T 200)).lookup 155 = some (.iaload, 1, 0, 0, 0) := by decide +kernel
theorem l200_156 : (ax_dt (ax_T 200)).lookup 156 = some (.if_icmp .ge 138, 3, 0, 0, 0) := by decide +kernel
theorem l200_159 : (ax_dt (ax_T 200)).lookup 159 = some (.aload_n 0, 1, 0, 0, 0) := by decide +kernel
theorem l200_160 : (ax_dt (ax_T 200)).lookup 160 = some (.getfield 300, 3, 9, 37, 0) := by decide +kernel
theorem l200_163 : (ax_dt (ax_T 200)).lookup 163 = some (.iconst (-1), 1, 0, 0, 0) := by decide +kernel
theorem l200_164 : (ax_dt (ax_T 200)).lookup 164 = some (.if_icmp .ne 130, 3, 0, 0, 0) := by decide +kernel
theorem l200_167 : (ax_dt (ax_T 200)).lookup 167 = some (.aload_n 0, 1, 0, 0, 0) := by decide +kernel
theorem l200_168 : (ax_dt (ax_T 200)).lookup 168 = some (.iload 7, 2, 0, 0, 0) := by decide +kernel
theorem l200_170 : (ax_dt (ax_T 200)).lookup 170 = some (.aload_n 0, 1, 0, 0, 0) := by decide +kernel
theorem l200_171 : (ax_dt (ax_T 200)).lookup 171 = some (.getfield 108, 3, 9, 48, 0) := by decide +kernel
theorem l200_174 : (ax_dt (ax_T 200)).lookup 174 = some (.bipush 8, 2, 0, 0, 0) := by decide +kernel
theorem l200_176 : (ax_dt (ax_T 200)).lookup 176 = some (.iload 6, 2, 0, 0, 0) := by decide +kernel
theorem l200_178 : (ax_dt (ax_T 200)).lookup 178 = some (.imul, 1, 0, 0, 0) := by decide +kernel
theorem l200_179 : (ax_dt (ax_T 200)).lookup 179 = some (.iload 8, 2, 0, 0, 0) := by decide +kernel
theorem l200_181 : (ax_dt (ax_T 200)).lookup 181 = some (.iadd, 1, 0, 0, 0) := by decide +kernel
theorem l200_182 : (ax_dt (ax_T 200)).lookup 182 = some (.iaload, 1, 0, 0, 0) := by decide +kernel
theorem l200_183 : (ax_dt (ax_T 200)).lookup 183 = some (.aload_n 0, 1, 0, 0, 0) := by decide +kernel
theorem l200_184 : (ax_dt (ax_T 200)).lookup 184 = some (.getfield 111, 3, 9, 49, 0) := by decide +kernel
theorem l200_187 : (ax_dt (ax_T 200)).lookup 187 = some (.bipush 8, 2, 0, 0, 0) := by decide +kernel
theorem l200_189 : (ax_dt (ax_T 200)).lookup 189 = some (.iload 6, 2, 0, 0, 0) := by decide +kernel
theorem l200_191 : (ax_dt (ax_T 200)).lookup 191 = some (.imul, 1, 0, 0, 0) := by decide +kernel
theorem l200_192 : (ax_dt (ax_T 200)).lookup 192 = some (.iload 8, 2, 0, 0, 0) := by decide +kernel
theorem l200_194 : (ax_dt (ax_T 200)).lookup 194 = some (.iadd, 1, 0, 0, 0) := by decide +kernel
theorem l200_195 : (ax_dt (ax_T 200)).lookup 195 = some (.iaload, 1, 0, 0, 0) := by decide +kernel
theorem l200_196 : (ax_dt (ax_T 200)).lookup 196 = some (.lconst 0, 1, 0, 0, 0) := by decide +kernel
theorem l200_197 : (ax_dt (ax_T 200)).lookup 197 = some (.invokevirtual 188, 3, 152, 4, 0) := by decide +kernel
theorem l200_200 : (ax_dt (ax_T 200)).lookup 200 = some (.istore 9, 2, 0, 0, 0) := by decide +kernel
theorem l200_202 : (ax_dt (ax_T 200)).lookup 202 = some (.bipush 8, 2, 0, 0, 0) := by decide +kernel
theorem l200_204 : (ax_dt (ax_T 200)).lookup 204 = some (.aload_n 0, 1, 0, 0, 0) := by decide +kernel
theorem l200_205 : (ax_dt (ax_T 200)).lookup 205 = some (.iload 7, 2, 0, 0, 0) := by decide +kernel
theorem l200_207 : (ax_dt (ax_T 200)).lookup 207 = some (.invokevirtual 140, 3, 140, 1, 0) := by decide +kernel
theorem l200_210 : (ax_dt (ax_T 200)).lookup 210 = some (.imul, 1, 0, 0, 0) := by decide +kernel
theorem l200_211 : (ax_dt (ax_T 200)).lookup 211 = some (.iload 9, 2, 0, 0, 0) := by decide +kernel
theorem l200_213 : (ax_dt (ax_T 200)).lookup 213 = some (.iadd, 1, 0, 0, 0) := by decide +kernel
theorem l200_214 : (ax_dt (ax_T 200)).lookup 214 = some (.iconst 1, 1, 0, 0, 0) := by decide +kernel
theorem l200_215 : (ax_dt (ax_T 200)).lookup 215 = some (.isub, 1, 0, 0, 0) := by decide +kernel
theorem l200_216 : (ax_dt (ax_T 200)).lookup 216 = some (.istore 10, 2, 0, 0, 0) := by decide +kernel
theorem l200_218 : (ax_dt (ax_T 200)).lookup 218 = some (.aload_n 0, 1, 0, 0, 0) := by decide +kernel
theorem l200_219 : (ax_dt (ax_T 200)).lookup 219 = some (.getfield 312, 3, 9, 40, 0) := by decide +kernel
theorem l200_222 : (ax_dt (ax_T 200)).lookup 222 = some (.istore 11, 2, 0, 0, 0) := by decide +kernel
theorem l200_224 : (ax_dt (ax_T 200)).lookup 224 = some (.aload_n 0, 1, 0, 0, 0) := by decide +kernel
theorem l200_225 : (ax_dt (ax_T 200)).lookup 225 = some (.iload 10, 2, 0, 0, 0) := by decide +kernel
theorem l200_227 : (ax_dt (ax_T 200)).lookup 227 = some (.invokevirtual 375, 3, 199, 1, 0) := by decide +kernel
theorem l200_230 : (ax_dt (ax_T 200)).lookup 230 = some (.aload_n 0, 1, 0, 0, 0) := by decide +kernel
theorem l200_231 : (ax_dt (ax_T 200)).lookup 231 = some (.getfield 51, 3, 9, 16, 0) := by decide +kernel
theorem l200_234 : (ax_dt (ax_T 200)).lookup 234 = some (.aload_n 0, 1, 0, 0, 0) := by decide +kernel
theorem l200_235 : (ax_dt (ax_T 200)).lookup 235 = some (.getfield 137, 3, 9, 3, 0) := by decide +kernel
theorem l200_238 : (ax_dt (ax_T 200)).lookup 238 = some (.aload_n 0, 1, 0, 0, 0) := by decide +kernel
theorem l200_239 : (ax_dt (ax_T 200)).lookup 239 = some (.getfield 51, 3, 9, 16, 0) := by decide +kernel
theorem l200_242 : (ax_dt (ax_T 200)).lookup 242 = some (.aload_n 0, 1, 0, 0, 0) := by decide +kernel
theorem l200_243 : (ax_dt (ax_T 200)).lookup 243 = some (.getfield 137, 3, 9, 3, 0) := by decide +kernel
theorem l200_246 : (ax_dt (ax_T 200)).lookup 246 = some (.iaload, 1, 0, 0, 0) := by decide +kernel
theorem l200_247 : (ax_dt (ax_T 200)).lookup 247 = some (.aload_n 0, 1, 0, 0, 0) := by decide +kernel
theorem l200_248 : (ax_dt (ax_T 200)).lookup 248 = some (.getfield 48, 3, 9, 15, 0) := by decide +kernel
theorem l200_251 : (ax_dt (ax_T 200)).lookup 251 = some (.iload 10, 2, 0, 0, 0) := by decide +kernel
theorem l200_253 : (ax_dt (ax_T 200)).lookup 253 = some (.iaload, 1, 0, 0, 0) := by decide +kernel
theorem l200_254 : (ax_dt (ax_T 200)).lookup 254 = some (.iadd, 1, 0, 0, 0) := by decide +kernel
theorem l200_255 : (ax_dt (ax_T 200)).lookup 255 = some (.iastore, 1, 0, 0, 0) := by decide +kernel
theorem l200_256 : (ax_dt (ax_T 200)).lookup 256 = some (.aload_n 0, 1, 0, 0, 0) := by decide +kernel
theorem l200_257 : (ax_dt (ax_T 200)).lookup 257 = some (.getfield 300, 3, 9, 37, 0) := by decide +kernel
theorem l200_260 : (ax_dt (ax_T 200)).lookup 260 = some (.iconst (-1), 1, 0, 0, 0) := by decide +kernel
theorem l200_261 : (ax_dt (ax_T 200)).lookup 261 = some (.if_icmp .ne 27, 3, 0, 0, 0) := by decide +kernel
theorem l200_264 : (ax_dt (ax_T 200)).lookup 264 = some (.aload_n 0, 1, 0, 0, 0) := by decide +kernel
theorem l200_265 : (ax_dt (ax_T 200)).lookup 265 = some (.getfield 51, 3, 9, 16, 0) := by decide +kernel
theorem l200_268 : (ax_dt (ax_T 200)).lookup 268 = some (.aload_n 0, 1, 0, 0, 0) := by decide +kernel
theorem l200_269 : (ax_dt (ax_T 200)).lookup 269 = some (.getfield 137, 3, 9, 3, 0) := by decide +kernel
theorem l200_272 : (ax_dt (ax_T 200)).lookup 272 = some (.iaload, 1, 0, 0, 0) := by decide +kernel
theorem l200_273 : (ax_dt (ax_T 200)).lookup 273 = some (.sipush 30000, 3, 0, 0, 0) := by decide +kernel
theorem l200_276 : (ax_dt (ax_T 200)).lookup 276 = some (.if_icmp .le 12, 3, 0, 0, 0) := by decide +kernel
theorem l200_279 : (ax_dt (ax_T 200)).lookup 279 = some (.aload_n 0, 1, 0, 0, 0) := by decide +kernel
theorem l200_280 : (ax_dt (ax_T 200)).lookup 280 = some (.bipush 8, 2, 0, 0, 0) := by decide +kernel
theorem l200_282 : (ax_dt (ax_T 200)).lookup 282 = some (.iconst 0, 1, 0, 0, 0) := by decide +kernel
theorem l200_283 : (ax_dt (ax_T 200)).lookup 283 = some (.iload 11, 2, 0, 0, 0) := by decide +kernel
theorem l200_285 : (ax_dt (ax_T 200)).lookup 285 = some (.invokevirtual 318, 3, 186, 3, 0) := by decide +kernel
theorem l200_288 : (ax_dt (ax_T 200)).lookup 288 = some (.iinc 8 1, 3, 0, 0, 0) := by decide +kernel
theorem l200_291 : (ax_dt (ax_T 200)).lookup 291 = some (.goto (-144), 3, 0, 0, 0) := by decide +kernel
theorem l200_294 : (ax_dt (ax_T 200)).lookup 294 = some (.aload_n 0, 1, 0, 0, 0) := by decide +kernel
theorem l200_295 : (ax_dt (ax_T 200)).lookup 295 = some (.aload_n 0, 1, 0, 0, 0) := by decide +kernel
theorem l200_296 : (ax_dt (ax_T 200)).lookup 296 = some (.getfield 101, 3, 9, 46, 0) := by decide +kernel
theorem l200_299 : (ax_dt (ax_T 200)).lookup 299 = some (.iload 6, 2, 0, 0, 0) := by decide +kernel
theorem l200_301 : (ax_dt (ax_T 200)).lookup 301 = some (.baload, 1, 0, 0, 0) := by decide +kernel
theorem l200_302 : (ax_dt (ax_T 200)).lookup 302 = some (.putfield 378, 3, 9, 53, 0) := by decide +kernel
theorem l200_305 : (ax_dt (ax_T 200)).lookup 305 = some (.iload 7, 2, 0, 0, 0) := by decide +kernel
theorem l200_307 : (ax_dt (ax_T 200)).lookup 307 = some (.ireturn, 1, 0, 0, 0) := by decide +kernel
noncomputable def F_X11_readEntry_147 (v6 : Int) (v7 : Int) (v8 : Int) (μ : bM) : Option ((Int × bM) ⊕ (Int × bM)) := bG (0 ≤ v6 ∧ v6 < 200) (if (μ 107 v6.toNat) ≤ v8 then bG (0 ≤ v6 ∧ v6 < 200) (some (.inr (v7, (bset μ 76 53 (μ 106 v6.toNat))))) else if ¬ (μ 76 37) = (-1) then bG (0 ≤ v6 ∧ v6 < 200) (some (.inr (v7, (bset μ 76 53 (μ 106 v6.toNat))))) else bG (bR (8 * v6)) (bG (bR ((8 * v6) + v8)) (bG (0 ≤ ((8 * v6) + v8) ∧ ((8 * v6) + v8) < 1600) (bG (bR (8 * v6)) (bG (bR ((8 * v6) + v8)) (bG (0 ≤ ((8 * v6) + v8) ∧ ((8 * v6) + v8) < 1600) (bMm (F_X11_add v7 (μ 108 ((8 * v6) + v8).toNat) (μ 109 ((8 * v6) + v8).toNat) 0 μ) (fun w11 μ12 => (F_X11_at v7 μ12).bind fun w14 => bG (bR (8 * w14)) (bG (bR ((8 * w14) + w11)) (bG (bR (((8 * w14) + w11) - 1)) (bMm (F_X11_readValue (((8 * w14) + w11) - 1) μ12) (fun w18 μ19 => bG (0 ≤ (μ19 76 3) ∧ (μ19 76 3) < 2) (bG (0 ≤ (((8 * w14) + w11) - 1) ∧ (((8 * w14) + w11) - 1) < 6400) (bG (bR ((μ19 90 (μ19 76 3).toNat) + (μ19 89 (((8 * w14) + w11) - 1).toNat))) (bG (0 ≤ (μ19 76 3) ∧ (μ19 76 3) < 2) (if ¬ ((bset μ19 90 (μ19 76 3).toNat ((μ19 90 (μ19 76 3).toNat) + (μ19 89 (((8 * w14) + w11) - 1).toNat))) 76 37) = (-1) then bG (bR (v8 + 1)) (some (.inl ((v8 + 1), (bset μ19 90 (μ19 76 3).toNat ((μ19 90 (μ19 76 3).toNat) + (μ19 89 (((8 * w14) + w11) - 1).toNat)))))) else bG (0 ≤ ((bset μ19 90 (μ19 76 3).toNat ((μ19 90 (μ19 76 3).toNat) + (μ19 89 (((8 * w14) + w11) - 1).toNat))) 76 3) ∧ ((bset μ19 90 (μ19 76 3).toNat ((μ19 90 (μ19 76 3).toNat) + (μ19 89 (((8 * w14) + w11) - 1).toNat))) 76 3) < 2) (if ((bset μ19 90 (μ19 76 3).toNat ((μ19 90 (μ19 76 3).toNat) + (μ19 89 (((8 * w14) + w11) - 1).toNat))) 90 ((bset μ19 90 (μ19 76 3).toNat ((μ19 90 (μ19 76 3).toNat) + (μ19 89 (((8 * w14) + w11) - 1).toNat))) 76 3).toNat) ≤ 30000 then bG (bR (v8 + 1)) (some (.inl ((v8 + 1), (bset μ19 90 (μ19 76 3).toNat ((μ19 90 (μ19 76 3).toNat) + (μ19 89 (((8 * w14) + w11) - 1).toNat)))))) else bMm (F_X11_bad 8 0 (μ12 76 40) (bset μ19 90 (μ19 76 3).toNat ((μ19 90 (μ19 76 3).toNat) + (μ19 89 (((8 * w14) + w11) - 1).toNat)))) (fun w27 μ28 => bG (bR (v8 + 1)) (some (.inl ((v8 + 1), μ28)))))))))))))))))))))
noncomputable def F_X11_readEntry_96 (v1 : Int) (v3 : Int) (v6 : Int) (μ : bM) : Option (Int × bM) := if (μ 76 37) = (-1) then bG (0 ≤ v6 ∧ v6 < 200) (bG (0 ≤ (μ 76 3) ∧ (μ 76 3) < 2) (bG (bR ((μ 79 (μ 76 3).toNat) - 1)) (bMm (F_X11_make (μ 105 v6.toNat) v1 ((μ 79 (μ 76 3).toNat) - 1) μ) (fun w3 μ4 => bG (bR (v3 - (μ4 76 52))) (bG (0 ≤ w3 ∧ w3 < 400) (bLoop (fun z => F_X11_readEntry_147 v6 w3 z.1 z.2) (0, (bset μ4 110 w3.toNat (v3 - (μ4 76 52)))))))))) else some ((-1), μ)
noncomputable def F_X11_readEntry_88 (v1 : Int) (v3 : Int) (v6 : Int) (μ : bM) : Option (Int × bM) := bMm (F_X11_bad 8 0 v3 μ) (fun w1 μ2 => F_X11_readEntry_96 v1 v3 v6 μ2)
noncomputable def F_X11_readEntry_67 (v1 : Int) (v2 : Int) (v3 : Int) (v6 : Int) (μ : bM) : Option (Int × bM) := bG (0 ≤ (μ 76 3) ∧ (μ 76 3) < 2) (if (μ 78 (μ 76 3).toNat) = 400 then F_X11_readEntry_88 v1 v3 v6 μ else if v2 ≤ 30 then F_X11_readEntry_96 v1 v3 v6 μ else F_X11_readEntry_88 v1 v3 v6 μ)
noncomputable def F_X11_readEntry (v1 : Int) (v2 : Int) (μ : bM) : Option (Int × bM) := bMm (F_X11_row 0 2147483647 μ) (fun w1 μ2 => if (μ2 76 37) = (-1) then if ¬ (bCmp w1 0) = 0 then (F_X11_shapeNumbered w1 μ2).bind fun w6 => if ¬ w6 = (-1) then F_X11_readEntry_67 v1 v2 (μ 76 40) w6 μ2 else bMm (F_X11_bad 5 0 (μ 76 40) μ2) (fun w8 μ9 => F_X11_readEntry_67 v1 v2 (μ 76 40) w6 μ9) else if ¬ v1 = (-1) then some ((-1), μ2) else bMm (F_X11_bad 5 0 (μ 76 40) μ2) (fun w12 μ13 => some ((-1), μ13)) else some ((-1), μ2))
theorem q_X11_readEntry_147 {L : Nat} {xs : Nat → Int32} {d : Nat} {μ : bM} {v6 : Int} {v7 : Int} {κ : ((Int × bM) ⊕ (Int × bM)) → Option bX} (hr : ∀ r : Int × bM, κ (.inr r) = (bMc) r) (H147 : ∀ (v8 : Int) (μ : bM), bR v8 → bD L xs (d + 5) 200 147 [(0, .ref 76), (6, bI v6), (7, bI v7), (8, bI v8)] [] μ (κ (.inl (v8, μ))))  (h6 : bR v6) (h7 : bR v7) {v8 : Int} (h8 : bR v8) : bD L xs (d + 5) 200 147 [(0, .ref 76), (6, bI v6), (7, bI v7), (8, bI v8)] [] μ ((F_X11_readEntry_147 v6 v7 v8 μ).bind κ) := by
  unfold F_X11_readEntry_147
  refine bD.ok fun hk => ?_
  refine b_s (pc' := 149) (lv1 := [(0, .ref 76), (6, bI v6), (7, bI v7), (8, bI v8)]) (st' := [bI v8]) l200_147 (fun _ => rfl) ?_
  refine b_s (pc' := 150) (lv1 := [(0, .ref 76), (6, bI v6), (7, bI v7), (8, bI v8)]) (st' := [.ref 76, bI v8]) l200_149 (fun _ => rfl) ?_
  refine b_gp (q' := 107) (j := 31) l200_150 (by rfl) (by decide) (by decide) rfl hk rfl rfl (b_pc (pc' := 153) rfl ?_)
  refine b_s (pc' := 155) (lv1 := [(0, .ref 76), (6, bI v6), (7, bI v7), (8, bI v8)]) (st' := [bI v6, .ref 107, bI v8]) l200_153 (fun _ => rfl) ?_
  refine b_g fun g37 => ?_
  refine b_ial l200_155 (by rfl) g37 (b_pc (pc' := 156) rfl ?_)
  refine b_ige (pt := 294) l200_156 h8 (bO_i hk (by rfl)) (by decide) rfl (fun c1 => ?_) (fun c1 => b_pc (pc' := 159) rfl ?_)
  · refine b_s (pc' := 295) (lv1 := [(0, .ref 76), (6, bI v6), (7, bI v7), (8, bI v8)]) (st' := [.ref 76]) l200_294 (fun _ => rfl) ?_
    refine b_s (pc' := 296) (lv1 := [(0, .ref 76), (6, bI v6), (7, bI v7), (8, bI v8)]) (st' := [.ref 76, .ref 76]) l200_295 (fun _ => rfl) ?_
    refine b_gp (q' := 106) (j := 30) l200_296 (by rfl) (by decide) (by decide) rfl hk rfl rfl (b_pc (pc' := 299) rfl ?_)
    refine b_s (pc' := 301) (lv1 := [(0, .ref 76), (6, bI v6), (7, bI v7), (8, bI v8)]) (st' := [bI v6, .ref 106, .ref 76]) l200_299 (fun _ => rfl) ?_
    refine b_g fun g3 => ?_
    refine b_zal l200_301 (by rfl) g3 (b_pc (pc' := 302) rfl ?_)
    refine b_pz l200_302 (by rfl) (by decide) (by decide) rfl rfl (bO_z hk (by rfl)) (bD.ok fun hk2 => b_pc (pc' := 305) rfl ?_)
    refine b_s (pc' := 307) (lv1 := [(0, .ref 76), (6, bI v6), (7, bI v7), (8, bI v8)]) (st' := [bI v7]) l200_305 (fun _ => rfl) ?_
    exact b_reti l200_307 rfl h7 (hr _)
  · refine b_s (pc' := 160) (lv1 := [(0, .ref 76), (6, bI v6), (7, bI v7), (8, bI v8)]) (st' := [.ref 76]) l200_159 (fun _ => rfl) ?_
    refine b_gi l200_160 (by rfl) (by decide) (by decide) rfl (b_pc (pc' := 163) rfl ?_)
    refine b_s (pc' := 164) (lv1 := [(0, .ref 76), (6, bI v6), (7, bI v7), (8, bI v8)]) (st' := [bI (-1), bI (μ 76 37)]) l200_163 (fun _ => rfl) ?_
    refine b_ine (pt := 294) l200_164 (bO_f hk (ci := 9) (by rfl) rfl) (by decide) (by decide) rfl (fun c4 => ?_) (fun c4 => b_pc (pc' := 167) rfl ?_)
    · refine b_s (pc' := 295) (lv1 := [(0, .ref 76), (6, bI v6), (7, bI v7), (8, bI v8)]) (st' := [.ref 76]) l200_294 (fun _ => rfl) ?_
      refine b_s (pc' := 296) (lv1 := [(0, .ref 76), (6, bI v6), (7, bI v7), (8, bI v8)]) (st' := [.ref 76, .ref 76]) l200_295 (fun _ => rfl) ?_
      refine b_gp (q' := 106) (j := 30) l200_296 (by rfl) (by decide) (by decide) rfl hk rfl rfl (b_pc (pc' := 299) rfl ?_)
      refine b_s (pc' := 301) (lv1 := [(0, .ref 76), (6, bI v6), (7, bI v7), (8, bI v8)]) (st' := [bI v6, .ref 106, .ref 76]) l200_299 (fun _ => rfl) ?_
      refine b_g fun g6 => ?_
      refine b_zal l200_301 (by rfl) g6 (b_pc (pc' := 302) rfl ?_)
      refine b_pz l200_302 (by rfl) (by decide) (by decide) rfl rfl (bO_z hk (by rfl)) (bD.ok fun hk5 => b_pc (pc' := 305) rfl ?_)
      refine b_s (pc' := 307) (lv1 := [(0, .ref 76), (6, bI v6), (7, bI v7), (8, bI v8)]) (st' := [bI v7]) l200_305 (fun _ => rfl) ?_
      exact b_reti l200_307 rfl h7 (hr _)
    · refine b_s (pc' := 168) (lv1 := [(0, .ref 76), (6, bI v6), (7, bI v7), (8, bI v8)]) (st' := [.ref 76]) l200_167 (fun _ => rfl) ?_
      refine b_s (pc' := 170) (lv1 := [(0, .ref 76), (6, bI v6), (7, bI v7), (8, bI v8)]) (st' := [bI v7, .ref 76]) l200_168 (fun _ => rfl) ?_
      refine b_s (pc' := 171) (lv1 := [(0, .ref 76), (6, bI v6), (7, bI v7), (8, bI v8)]) (st' := [.ref 76, bI v7, .ref 76]) l200_170 (fun _ => rfl) ?_
      refine b_gp (q' := 108) (j := 32) l200_171 (by rfl) (by decide) (by decide) rfl hk rfl rfl (b_pc (pc' := 174) rfl ?_)
      refine b_bipush l200_174 (by decide) (b_pc (pc' := 176) rfl ?_)
      refine b_s (pc' := 178) (lv1 := [(0, .ref 76), (6, bI v6), (7, bI v7), (8, bI v8)]) (st' := [bI v6, bI 8, .ref 108, bI v7, .ref 76]) l200_176 (fun _ => rfl) ?_
      refine b_imul l200_178 fun g7 => (b_pc (pc' := 179) rfl ?_)
      refine b_s (pc' := 181) (lv1 := [(0, .ref 76), (6, bI v6), (7, bI v7), (8, bI v8)]) (st' := [bI v8, bI (8 * v6), .ref 108, bI v7, .ref 76]) l200_179 (fun _ => rfl) ?_
      refine b_iadd l200_181 fun g8 => (b_pc (pc' := 182) rfl ?_)
      refine b_g fun g36 => ?_
      refine b_ial l200_182 (by rfl) g36 (b_pc (pc' := 183) rfl ?_)
      refine b_s (pc' := 184) (lv1 := [(0, .ref 76), (6, bI v6), (7, bI v7), (8, bI v8)]) (st' := [.ref 76, bI (μ 108 ((8 * v6) + v8).toNat), bI v7, .ref 76]) l200_183 (fun _ => rfl) ?_
      refine b_gp (q' := 109) (j := 33) l200_184 (by rfl) (by decide) (by decide) rfl hk rfl rfl (b_pc (pc' := 187) rfl ?_)
      refine b_bipush l200_187 (by decide) (b_pc (pc' := 189) rfl ?_)
      refine b_s (pc' := 191) (lv1 := [(0, .ref 76), (6, bI v6), (7, bI v7), (8, bI v8)]) (st' := [bI v6, bI 8, .ref 109, bI (μ 108 ((8 * v6) + v8).toNat), bI v7, .ref 76]) l200_189 (fun _ => rfl) ?_
      refine b_imul l200_191 fun g9 => (b_pc (pc' := 192) rfl ?_)
      refine b_s (pc' := 194) (lv1 := [(0, .ref 76), (6, bI v6), (7, bI v7), (8, bI v8)]) (st' := [bI v8, bI (8 * v6), .ref 109, bI (μ 108 ((8 * v6) + v8).toNat), bI v7, .ref 76]) l200_192 (fun _ => rfl) ?_
      refine b_iadd l200_194 fun g10 => (b_pc (pc' := 195) rfl ?_)
      refine b_g fun g35 => ?_
      refine b_ial l200_195 (by rfl) g35 (b_pc (pc' := 196) rfl ?_)
      refine b_lconst (e := 0) l200_196 (by decide) (b_pc (pc' := 197) rfl ?_)
      refine b_cMi l200_197 rfl (b_rc (ci := 9) (by rfl) (by decide) (by decide +kernel)) (Nat.le_of_ble_eq_true rfl) (Nat.le_of_ble_eq_true rfl) rfl (r_X11_add v7 h7 (μ 108 ((8 * v6) + v8).toNat) (bO_i hk (by rfl)) (μ 109 ((8 * v6) + v8).toNat) (bO_i hk (by rfl)) 0 (by decide)) fun w11 μ12 hw11 => bD.ok fun hk13 => b_pc (pc' := 200) rfl ?_
      refine b_w (pc' := 202) (lv1 := ax_st1 [(0, .ref 76), (6, bI v6), (7, bI v7), (8, bI v8)] 9 (bI w11)) (lv' := [(0, .ref 76), (6, bI v6), (7, bI v7), (8, bI v8), (9, bI w11)]) (st' := []) l200_200 (fun _ => rfl) (bSb rfl (bSb rfl (bSb rfl (bSb rfl (bSb rfl bSn))))) ?_
      refine b_bipush l200_202 (by decide) (b_pc (pc' := 204) rfl ?_)
      refine b_s (pc' := 205) (lv1 := [(0, .ref 76), (6, bI v6), (7, bI v7), (8, bI v8), (9, bI w11)]) (st' := [.ref 76, bI 8]) l200_204 (fun _ => rfl) ?_
      refine b_s (pc' := 207) (lv1 := [(0, .ref 76), (6, bI v6), (7, bI v7), (8, bI v8), (9, bI w11)]) (st' := [bI v7, .ref 76, bI 8]) l200_205 (fun _ => rfl) ?_
      refine b_cPi l200_207 rfl (b_rc (ci := 9) (by rfl) (by decide) (by decide +kernel)) (Nat.le_of_ble_eq_true rfl) (Nat.le_of_ble_eq_true rfl) rfl (r_X11_at v7 h7) fun w14 hw14 => b_pc (pc' := 210) rfl ?_
      refine b_imul l200_210 fun g15 => (b_pc (pc' := 211) rfl ?_)
      refine b_s (pc' := 213) (lv1 := [(0, .ref 76), (6, bI v6), (7, bI v7), (8, bI v8), (9, bI w11)]) (st' := [bI w11, bI (8 * w14)]) l200_211 (fun _ => rfl) ?_
      refine b_iadd l200_213 fun g16 => (b_pc (pc' := 214) rfl ?_)
      refine b_s (pc' := 215) (lv1 := [(0, .ref 76), (6, bI v6), (7, bI v7), (8, bI v8), (9, bI w11)]) (st' := [bI 1, bI ((8 * w14) + w11)]) l200_214 (fun _ => rfl) ?_
      refine b_isub l200_215 fun g17 => (b_pc (pc' := 216) rfl ?_)
      refine b_w (pc' := 218) (lv1 := ax_st1 [(0, .ref 76), (6, bI v6), (7, bI v7), (8, bI v8), (9, bI w11)] 10 (bI (((8 * w14) + w11) - 1))) (lv' := [(0, .ref 76), (6, bI v6), (7, bI v7), (8, bI v8), (10, bI (((8 * w14) + w11) - 1))]) (st' := []) l200_216 (fun _ => rfl) (bSb rfl (bSb rfl (bSb rfl (bSb rfl (bSb rfl bSn))))) ?_
      refine b_s (pc' := 219) (lv1 := [(0, .ref 76), (6, bI v6), (7, bI v7), (8, bI v8), (10, bI (((8 * w14) + w11) - 1))]) (st' := [.ref 76]) l200_218 (fun _ => rfl) ?_
      refine b_gi l200_219 (by rfl) (by decide) (by decide) rfl (b_pc (pc' := 222) rfl ?_)
      refine b_w (pc' := 224) (lv1 := ax_st1 [(0, .ref 76), (6, bI v6), (7, bI v7), (8, bI v8), (10, bI (((8 * w14) + w11) - 1))] 11 (bI (μ12 76 40))) (lv' := [(0, .ref 76), (6, bI v6), (7, bI v7), (8, bI v8), (10, bI (((8 * w14) + w11) - 1)), (11, bI (μ12 76 40))]) (st' := []) l200_222 (fun _ => rfl) (bSb rfl (bSb rfl (bSb rfl (bSb rfl (bSb rfl (bSb rfl bSn)))))) ?_
      refine b_s (pc' := 225) (lv1 := [(0, .ref 76), (6, bI v6), (7, bI v7), (8, bI v8), (10, bI (((8 * w14) + w11) - 1)), (11, bI (μ12 76 40))]) (st' := [.ref 76]) l200_224 (fun _ => rfl) ?_
      refine b_s (pc' := 227) (lv1 := [(0, .ref 76), (6, bI v6), (7, bI v7), (8, bI v8), (10, bI (((8 * w14) + w11) - 1)), (11, bI (μ12 76 40))]) (st' := [bI (((8 * w14) + w11) - 1), .ref 76]) l200_225 (fun _ => rfl) ?_
      refine b_cMv l200_227 rfl (b_rc (ci := 9) (by rfl) (by decide) (by decide +kernel)) (Nat.le_of_ble_eq_true rfl) (Nat.le_of_ble_eq_true rfl) rfl (r_X11_readValue (((8 * w14) + w11) - 1) g17) fun w18 μ19 hw18 => bD.ok fun hk20 => b_pc (pc' := 230) rfl ?_
      refine b_s (pc' := 231) (lv1 := [(0, .ref 76), (6, bI v6), (7, bI v7), (8, bI v8), (10, bI (((8 * w14) + w11) - 1)), (11, bI (μ12 76 40))]) (st' := [.ref 76]) l200_230 (fun _ => rfl) ?_
      refine b_gp (q' := 90) (j := 14) l200_231 (by rfl) (by decide) (by decide) rfl hk20 rfl rfl (b_pc (pc' := 234) rfl ?_)
      refine b_s (pc' := 235) (lv1 := [(0, .ref 76), (6, bI v6), (7, bI v7), (8, bI v8), (10, bI (((8 * w14) + w11) - 1)), (11, bI (μ12 76 40))]) (st' := [.ref 76, .ref 90]) l200_234 (fun _ => rfl) ?_
      refine b_gi l200_235 (by rfl) (by decide) (by decide) rfl (b_pc (pc' := 238) rfl ?_)
      refine b_s (pc' := 239) (lv1 := [(0, .ref 76), (6, bI v6), (7, bI v7), (8, bI v8), (10, bI (((8 * w14) + w11) - 1)), (11, bI (μ12 76 40))]) (st' := [.ref 76, bI (μ19 76 3), .ref 90]) l200_238 (fun _ => rfl) ?_
      refine b_gp (q' := 90) (j := 14) l200_239 (by rfl) (by decide) (by decide) rfl hk20 rfl rfl (b_pc (pc' := 242) rfl ?_)
      refine b_s (pc' := 243) (lv1 := [(0, .ref 76), (6, bI v6), (7, bI v7), (8, bI v8), (10, bI (((8 * w14) + w11) - 1)), (11, bI (μ12 76 40))]) (st' := [.ref 76, .ref 90, bI (μ19 76 3), .ref 90]) l200_242 (fun _ => rfl) ?_
      refine b_gi l200_243 (by rfl) (by decide) (by decide) rfl (b_pc (pc' := 246) rfl ?_)
      refine b_g fun g34 => ?_
      refine b_ial l200_246 (by rfl) g34 (b_pc (pc' := 247) rfl ?_)
      refine b_s (pc' := 248) (lv1 := [(0, .ref 76), (6, bI v6), (7, bI v7), (8, bI v8), (10, bI (((8 * w14) + w11) - 1)), (11, bI (μ12 76 40))]) (st' := [.ref 76, bI (μ19 90 (μ19 76 3).toNat), bI (μ19 76 3), .ref 90]) l200_247 (fun _ => rfl) ?_
      refine b_gp (q' := 89) (j := 13) l200_248 (by rfl) (by decide) (by decide) rfl hk20 rfl rfl (b_pc (pc' := 251) rfl ?_)
      refine b_s (pc' := 253) (lv1 := [(0, .ref 76), (6, bI v6), (7, bI v7), (8, bI v8), (10, bI (((8 * w14) + w11) - 1)), (11, bI (μ12 76 40))]) (st' := [bI (((8 * w14) + w11) - 1), .ref 89, bI (μ19 90 (μ19 76 3).toNat), bI (μ19 76 3), .ref 90]) l200_251 (fun _ => rfl) ?_
      refine b_g fun g33 => ?_
      refine b_ial l200_253 (by rfl) g33 (b_pc (pc' := 254) rfl ?_)
      refine b_iadd l200_254 fun g21 => (b_pc (pc' := 255) rfl ?_)
      refine b_g fun g32 => ?_
      refine b_ias l200_255 (by rfl) g32 g21 (bD.ok fun hk22 => b_pc (pc' := 256) rfl ?_)
      refine b_s (pc' := 257) (lv1 := [(0, .ref 76), (6, bI v6), (7, bI v7), (8, bI v8), (10, bI (((8 * w14) + w11) - 1)), (11, bI (μ12 76 40))]) (st' := [.ref 76]) l200_256 (fun _ => rfl) ?_
      refine b_gi l200_257 (by rfl) (by decide) (by decide) rfl (b_pc (pc' := 260) rfl ?_)
      refine b_s (pc' := 261) (lv1 := [(0, .ref 76), (6, bI v6), (7, bI v7), (8, bI v8), (10, bI (((8 * w14) + w11) - 1)), (11, bI (μ12 76 40))]) (st' := [bI (-1), bI ((bset μ19 90 (μ19 76 3).toNat ((μ19 90 (μ19 76 3).toNat) + (μ19 89 (((8 * w14) + w11) - 1).toNat))) 76 37)]) l200_260 (fun _ => rfl) ?_
      refine b_ine (pt := 288) l200_261 (bO_f hk22 (ci := 9) (by rfl) rfl) (by decide) (by decide) rfl (fun c23 => ?_) (fun c23 => b_pc (pc' := 264) rfl ?_)
      · refine b_inc (lv' := [(0, .ref 76), (6, bI v6), (7, bI v7), (8, bI (v8 + 1))]) l200_288 rfl (by decide +kernel) (bSb rfl (bSb rfl (bSb rfl (bSb rfl bSn)))) fun g24 => (b_pc (pc' := 291) rfl ?_)
        refine b_s (pc' := 147) (lv1 := [(0, .ref 76), (6, bI v6), (7, bI v7), (8, bI (v8 + 1))]) (st' := []) l200_291 (fun _ => rfl) ?_
        refine bD.wk (lv' := [(0, .ref 76), (6, bI v6), (7, bI v7), (8, bI (v8 + 1))]) (bSb rfl (bSb rfl (bSb rfl (bSb rfl bSn)))) ?_
        exact H147 (v8 + 1) (bset μ19 90 (μ19 76 3).toNat ((μ19 90 (μ19 76 3).toNat) + (μ19 89 (((8 * w14) + w11) - 1).toNat))) g24
      · refine b_s (pc' := 265) (lv1 := [(0, .ref 76), (6, bI v6), (7, bI v7), (8, bI v8), (10, bI (((8 * w14) + w11) - 1)), (11, bI (μ12 76 40))]) (st' := [.ref 76]) l200_264 (fun _ => rfl) ?_
        refine b_gp (q' := 90) (j := 14) l200_265 (by rfl) (by decide) (by decide) rfl hk22 rfl rfl (b_pc (pc' := 268) rfl ?_)
        refine b_s (pc' := 269) (lv1 := [(0, .ref 76), (6, bI v6), (7, bI v7), (8, bI v8), (10, bI (((8 * w14) + w11) - 1)), (11, bI (μ12 76 40))]) (st' := [.ref 76, .ref 90]) l200_268 (fun _ => rfl) ?_
        refine b_gi l200_269 (by rfl) (by decide) (by decide) rfl (b_pc (pc' := 272) rfl ?_)
        refine b_g fun g31 => ?_
        refine b_ial l200_272 (by rfl) g31 (b_pc (pc' := 273) rfl ?_)
        refine b_sipush l200_273 (by decide) (b_pc (pc' := 276) rfl ?_)
        refine b_ile (pt := 288) l200_276 (bO_i hk22 (by rfl)) (by decide) (by decide) rfl (fun c25 => ?_) (fun c25 => b_pc (pc' := 279) rfl ?_)
        · refine b_inc (lv' := [(0, .ref 76), (6, bI v6), (7, bI v7), (8, bI (v8 + 1))]) l200_288 rfl (by decide +kernel) (bSb rfl (bSb rfl (bSb rfl (bSb rfl bSn)))) fun g26 => (b_pc (pc' := 291) rfl ?_)
          refine b_s (pc' := 147) (lv1 := [(0, .ref 76), (6, bI v6), (7, bI v7), (8, bI (v8 + 1))]) (st' := []) l200_291 (fun _ => rfl) ?_
          refine bD.wk (lv' := [(0, .ref 76), (6, bI v6), (7, bI v7), (8, bI (v8 + 1))]) (bSb rfl (bSb rfl (bSb rfl (bSb rfl bSn)))) ?_
          exact H147 (v8 + 1) (bset μ19 90 (μ19 76 3).toNat ((μ19 90 (μ19 76 3).toNat) + (μ19 89 (((8 * w14) + w11) - 1).toNat))) g26
        · refine b_s (pc' := 280) (lv1 := [(0, .ref 76), (6, bI v6), (7, bI v7), (8, bI v8), (10, bI (((8 * w14) + w11) - 1)), (11, bI (μ12 76 40))]) (st' := [.ref 76]) l200_279 (fun _ => rfl) ?_
          refine b_bipush l200_280 (by decide) (b_pc (pc' := 282) rfl ?_)
          refine b_s (pc' := 283) (lv1 := [(0, .ref 76), (6, bI v6), (7, bI v7), (8, bI v8), (10, bI (((8 * w14) + w11) - 1)), (11, bI (μ12 76 40))]) (st' := [bI 0, bI 8, .ref 76]) l200_282 (fun _ => rfl) ?_
          refine b_s (pc' := 285) (lv1 := [(0, .ref 76), (6, bI v6), (7, bI v7), (8, bI v8), (10, bI (((8 * w14) + w11) - 1)), (11, bI (μ12 76 40))]) (st' := [bI (μ12 76 40), bI 0, bI 8, .ref 76]) l200_283 (fun _ => rfl) ?_
          refine b_cMv l200_285 rfl (b_rc (ci := 9) (by rfl) (by decide) (by decide +kernel)) (Nat.le_of_ble_eq_true rfl) (Nat.le_of_ble_eq_true rfl) rfl (r_X11_bad 8 (by decide) 0 (by decide) (μ12 76 40) (bO_f hk13 (ci := 9) (by rfl) rfl)) fun w27 μ28 hw27 => bD.ok fun hk29 => b_pc (pc' := 288) rfl ?_
          refine b_inc (lv' := [(0, .ref 76), (6, bI v6), (7, bI v7), (8, bI (v8 + 1))]) l200_288 rfl (by decide +kernel) (bSb rfl (bSb rfl (bSb rfl (bSb rfl bSn)))) fun g30 => (b_pc (pc' := 291) rfl ?_)
          refine b_s (pc' := 147) (lv1 := [(0, .ref 76), (6, bI v6), (7, bI v7), (8, bI (v8 + 1))]) (st' := []) l200_291 (fun _ => rfl) ?_
          refine bD.wk (lv' := [(0, .ref 76), (6, bI v6), (7, bI v7), (8, bI (v8 + 1))]) (bSb rfl (bSb rfl (bSb rfl (bSb rfl bSn)))) ?_
          exact H147 (v8 + 1) μ28 g30
theorem p_X11_readEntry_147 {L : Nat} {xs : Nat → Int32} {d : Nat} {μ : bM}  {κ : (Int × bM) → Option bX} (hr : ∀ r : Int × bM, κ r = (bMc) r)  {v6 : Int} (h6 : bR v6) {v7 : Int} (h7 : bR v7) {v8 : Int} (h8 : bR v8) : bD L xs (d + 5) 200 147 [(0, .ref 76), (6, bI v6), (7, bI v7), (8, bI v8)] [] μ ((bLoop (fun z => F_X11_readEntry_147 v6 v7 z.1 z.2) (v8, μ)).bind κ) :=
  b_loop (fun z => [(0, .ref 76), (6, bI v6), (7, bI v7), (8, bI z.1)]) (fun z => z.2) (fun z => bR z.1) (fun κ' hκ HH z hz => q_X11_readEntry_147 (κ := κ') (fun r => (hκ _).trans (hr r)) (fun a8 am b8 => HH (a8, am) b8)  h6 h7 hz) (v8, μ) h8
theorem p_X11_readEntry_96 {L : Nat} {xs : Nat → Int32} {d : Nat} {μ : bM}  {κ : (Int × bM) → Option bX} (hr : ∀ r : Int × bM, κ r = (bMc) r)  {v1 : Int} (h1 : bR v1) {v3 : Int} (h3 : bR v3) {v6 : Int} (h6 : bR v6) : bD L xs (d + 5) 200 96 [(0, .ref 76), (1, bI v1), (3, bI v3), (6, bI v6)] [] μ ((F_X11_readEntry_96 v1 v3 v6 μ).bind κ) := by
  unfold F_X11_readEntry_96
  refine bD.ok fun hk => ?_
  refine b_s (pc' := 97) (lv1 := [(0, .ref 76), (1, bI v1), (3, bI v3), (6, bI v6)]) (st' := [.ref 76]) l200_96 (fun _ => rfl) ?_
  refine b_gi l200_97 (by rfl) (by decide) (by decide) rfl (b_pc (pc' := 100) rfl ?_)
  refine b_s (pc' := 101) (lv1 := [(0, .ref 76), (1, bI v1), (3, bI v3), (6, bI v6)]) (st' := [bI (-1), bI (μ 76 37)]) l200_100 (fun _ => rfl) ?_
  refine b_ieq (pt := 106) l200_101 (bO_f hk (ci := 9) (by rfl) rfl) (by decide) (by decide) rfl (fun c1 => ?_) (fun c1 => b_pc (pc' := 104) rfl ?_)
  · refine b_s (pc' := 107) (lv1 := [(0, .ref 76), (1, bI v1), (3, bI v3), (6, bI v6)]) (st' := [.ref 76]) l200_106 (fun _ => rfl) ?_
    refine b_s (pc' := 108) (lv1 := [(0, .ref 76), (1, bI v1), (3, bI v3), (6, bI v6)]) (st' := [.ref 76, .ref 76]) l200_107 (fun _ => rfl) ?_
    refine b_gp (q' := 105) (j := 29) l200_108 (by rfl) (by decide) (by decide) rfl hk rfl rfl (b_pc (pc' := 111) rfl ?_)
    refine b_s (pc' := 113) (lv1 := [(0, .ref 76), (1, bI v1), (3, bI v3), (6, bI v6)]) (st' := [bI v6, .ref 105, .ref 76]) l200_111 (fun _ => rfl) ?_
    refine b_g fun g10 => ?_
    refine b_ial l200_113 (by rfl) g10 (b_pc (pc' := 114) rfl ?_)
    refine b_s (pc' := 115) (lv1 := [(0, .ref 76), (1, bI v1), (3, bI v3), (6, bI v6)]) (st' := [bI v1, bI (μ 105 v6.toNat), .ref 76]) l200_114 (fun _ => rfl) ?_
    refine b_s (pc' := 116) (lv1 := [(0, .ref 76), (1, bI v1), (3, bI v3), (6, bI v6)]) (st' := [.ref 76, bI v1, bI (μ 105 v6.toNat), .ref 76]) l200_115 (fun _ => rfl) ?_
    refine b_gp (q' := 79) (j := 3) l200_116 (by rfl) (by decide) (by decide) rfl hk rfl rfl (b_pc (pc' := 119) rfl ?_)
    refine b_s (pc' := 120) (lv1 := [(0, .ref 76), (1, bI v1), (3, bI v3), (6, bI v6)]) (st' := [.ref 76, .ref 79, bI v1, bI (μ 105 v6.toNat), .ref 76]) l200_119 (fun _ => rfl) ?_
    refine b_gi l200_120 (by rfl) (by decide) (by decide) rfl (b_pc (pc' := 123) rfl ?_)
    refine b_g fun g9 => ?_
    refine b_ial l200_123 (by rfl) g9 (b_pc (pc' := 124) rfl ?_)
    refine b_s (pc' := 125) (lv1 := [(0, .ref 76), (1, bI v1), (3, bI v3), (6, bI v6)]) (st' := [bI 1, bI (μ 79 (μ 76 3).toNat), bI v1, bI (μ 105 v6.toNat), .ref 76]) l200_124 (fun _ => rfl) ?_
    refine b_isub l200_125 fun g2 => (b_pc (pc' := 126) rfl ?_)
    refine b_cMi l200_126 rfl (b_rc (ci := 9) (by rfl) (by decide) (by decide +kernel)) (Nat.le_of_ble_eq_true rfl) (Nat.le_of_ble_eq_true rfl) rfl (r_X11_make (μ 105 v6.toNat) (bO_i hk (by rfl)) v1 h1 ((μ 79 (μ 76 3).toNat) - 1) g2) fun w3 μ4 hw3 => bD.ok fun hk5 => b_pc (pc' := 129) rfl ?_
    refine b_w (pc' := 131) (lv1 := ax_st1 [(0, .ref 76), (1, bI v1), (3, bI v3), (6, bI v6)] 7 (bI w3)) (lv' := [(0, .ref 76), (3, bI v3), (6, bI v6), (7, bI w3)]) (st' := []) l200_129 (fun _ => rfl) (bSb rfl (bSb rfl (bSb rfl (bSb rfl bSn)))) ?_
    refine b_s (pc' := 132) (lv1 := [(0, .ref 76), (3, bI v3), (6, bI v6), (7, bI w3)]) (st' := [.ref 76]) l200_131 (fun _ => rfl) ?_
    refine b_gp (q' := 110) (j := 34) l200_132 (by rfl) (by decide) (by decide) rfl hk5 rfl rfl (b_pc (pc' := 135) rfl ?_)
    refine b_s (pc' := 137) (lv1 := [(0, .ref 76), (3, bI v3), (6, bI v6), (7, bI w3)]) (st' := [bI w3, .ref 110]) l200_135 (fun _ => rfl) ?_
    refine b_s (pc' := 138) (lv1 := [(0, .ref 76), (3, bI v3), (6, bI v6), (7, bI w3)]) (st' := [bI v3, bI w3, .ref 110]) l200_137 (fun _ => rfl) ?_
    refine b_s (pc' := 139) (lv1 := [(0, .ref 76), (3, bI v3), (6, bI v6), (7, bI w3)]) (st' := [.ref 76, bI v3, bI w3, .ref 110]) l200_138 (fun _ => rfl) ?_
    refine b_gi l200_139 (by rfl) (by decide) (by decide) rfl (b_pc (pc' := 142) rfl ?_)
    refine b_isub l200_142 fun g6 => (b_pc (pc' := 143) rfl ?_)
    refine b_g fun g8 => ?_
    refine b_ias l200_143 (by rfl) g8 g6 (bD.ok fun hk7 => b_pc (pc' := 144) rfl ?_)
    refine b_s (pc' := 145) (lv1 := [(0, .ref 76), (3, bI v3), (6, bI v6), (7, bI w3)]) (st' := [bI 0]) l200_144 (fun _ => rfl) ?_
    refine b_w (pc' := 147) (lv1 := ax_st1 [(0, .ref 76), (3, bI v3), (6, bI v6), (7, bI w3)] 8 (bI 0)) (lv' := [(0, .ref 76), (6, bI v6), (7, bI w3), (8, bI 0)]) (st' := []) l200_145 (fun _ => rfl) (bSb rfl (bSb rfl (bSb rfl (bSb rfl bSn)))) ?_
    refine bD.wk (lv' := [(0, .ref 76), (6, bI v6), (7, bI w3), (8, bI 0)]) (bSb rfl (bSb rfl (bSb rfl (bSb rfl bSn)))) ?_
    exact p_X11_readEntry_147 hr h6 hw3 (by decide)
  · refine b_s (pc' := 105) (lv1 := [(0, .ref 76), (1, bI v1), (3, bI v3), (6, bI v6)]) (st' := [bI (-1)]) l200_104 (fun _ => rfl) ?_
    exact b_reti l200_105 rfl (by decide) (hr _)
theorem p_X11_readEntry_88 {L : Nat} {xs : Nat → Int32} {d : Nat} {μ : bM}  {κ : (Int × bM) → Option bX} (hr : ∀ r : Int × bM, κ r = (bMc) r)  {v1 : Int} (h1 : bR v1) {v3 : Int} (h3 : bR v3) {v6 : Int} (h6 : bR v6) : bD L xs (d + 5) 200 88 [(0, .ref 76), (1, bI v1), (3, bI v3), (6, bI v6)] [] μ ((F_X11_readEntry_88 v1 v3 v6 μ).bind κ) := by
  unfold F_X11_readEntry_88
  refine bD.ok fun hk => ?_
  refine b_s (pc' := 89) (lv1 := [(0, .ref 76), (1, bI v1), (3, bI v3), (6, bI v6)]) (st' := [.ref 76]) l200_88 (fun _ => rfl) ?_
  refine b_bipush l200_89 (by decide) (b_pc (pc' := 91) rfl ?_)
  refine b_s (pc' := 92) (lv1 := [(0, .ref 76), (1, bI v1), (3, bI v3), (6, bI v6)]) (st' := [bI 0, bI 8, .ref 76]) l200_91 (fun _ => rfl) ?_
  refine b_s (pc' := 93) (lv1 := [(0, .ref 76), (1, bI v1), (3, bI v3), (6, bI v6)]) (st' := [bI v3, bI 0, bI 8, .ref 76]) l200_92 (fun _ => rfl) ?_
  refine b_cMv l200_93 rfl (b_rc (ci := 9) (by rfl) (by decide) (by decide +kernel)) (Nat.le_of_ble_eq_true rfl) (Nat.le_of_ble_eq_true rfl) rfl (r_X11_bad 8 (by decide) 0 (by decide) v3 h3) fun w1 μ2 hw1 => bD.ok fun hk3 => b_pc (pc' := 96) rfl ?_
  refine bD.wk (lv' := [(0, .ref 76), (1, bI v1), (3, bI v3), (6, bI v6)]) (bSb rfl (bSb rfl (bSb rfl (bSb rfl bSn)))) ?_
  exact p_X11_readEntry_96 hr h1 h3 h6
theorem p_X11_readEntry_67 {L : Nat} {xs : Nat → Int32} {d : Nat} {μ : bM}  {κ : (Int × bM) → Option bX} (hr : ∀ r : Int × bM, κ r = (bMc) r)  {v1 : Int} (h1 : bR v1) {v2 : Int} (h2 : bR v2) {v3 : Int} (h3 : bR v3) {v6 : Int} (h6 : bR v6) : bD L xs (d + 5) 200 67 [(0, .ref 76), (1, bI v1), (2, bI v2), (3, bI v3), (6, bI v6)] [] μ ((F_X11_readEntry_67 v1 v2 v3 v6 μ).bind κ) := by
  unfold F_X11_readEntry_67
  refine bD.ok fun hk => ?_
  refine b_s (pc' := 68) (lv1 := [(0, .ref 76), (1, bI v1), (2, bI v2), (3, bI v3), (6, bI v6)]) (st' := [.ref 76]) l200_67 (fun _ => rfl) ?_
  refine b_gp (q' := 78) (j := 2) l200_68 (by rfl) (by decide) (by decide) rfl hk rfl rfl (b_pc (pc' := 71) rfl ?_)
  refine b_s (pc' := 72) (lv1 := [(0, .ref 76), (1, bI v1), (2, bI v2), (3, bI v3), (6, bI v6)]) (st' := [.ref 76, .ref 78]) l200_71 (fun _ => rfl) ?_
  refine b_gi l200_72 (by rfl) (by decide) (by decide) rfl (b_pc (pc' := 75) rfl ?_)
  refine b_g fun g3 => ?_
  refine b_ial l200_75 (by rfl) g3 (b_pc (pc' := 76) rfl ?_)
  refine b_sipush l200_76 (by decide) (b_pc (pc' := 79) rfl ?_)
  refine b_ieq (pt := 88) l200_79 (bO_i hk (by rfl)) (by decide) (by decide) rfl (fun c1 => ?_) (fun c1 => b_pc (pc' := 82) rfl ?_)
  · refine bD.wk (lv' := [(0, .ref 76), (1, bI v1), (3, bI v3), (6, bI v6)]) (bSb rfl (bSb rfl (bSb rfl (bSb rfl bSn)))) ?_
    exact p_X11_readEntry_88 hr h1 h3 h6
  · refine b_s (pc' := 83) (lv1 := [(0, .ref 76), (1, bI v1), (2, bI v2), (3, bI v3), (6, bI v6)]) (st' := [bI v2]) l200_82 (fun _ => rfl) ?_
    refine b_bipush l200_83 (by decide) (b_pc (pc' := 85) rfl ?_)
    refine b_ile (pt := 96) l200_85 h2 (by decide) (by decide) rfl (fun c2 => ?_) (fun c2 => b_pc (pc' := 88) rfl ?_)
    · refine bD.wk (lv' := [(0, .ref 76), (1, bI v1), (3, bI v3), (6, bI v6)]) (bSb rfl (bSb rfl (bSb rfl (bSb rfl bSn)))) ?_
      exact p_X11_readEntry_96 hr h1 h3 h6
    · refine bD.wk (lv' := [(0, .ref 76), (1, bI v1), (3, bI v3), (6, bI v6)]) (bSb rfl (bSb rfl (bSb rfl (bSb rfl bSn)))) ?_
      exact p_X11_readEntry_88 hr h1 h3 h6
theorem r_X11_readEntry {L : Nat} {xs : Nat → Int32} {d : Nat} {μ : bM}  (v1 : Int) (h1 : bR v1) (v2 : Int) (h2 : bR v2) : bD L xs (d + 5) 200 0 [(0, .ref 76), (1, bI v1), (2, bI v2)] [] μ ((F_X11_readEntry v1 v2 μ).bind (bMc)) := by
  have hr : ∀ r, (bMc) r = (bMc) r := fun _ => rfl
  unfold F_X11_readEntry
  refine bD.ok fun hk => ?_
  refine b_s (pc' := 1) (lv1 := [(0, .ref 76), (1, bI v1), (2, bI v2)]) (st' := [.ref 76]) l200_0 (fun _ => rfl) ?_
  refine b_gi l200_1 (by rfl) (by decide) (by decide) rfl (b_pc (pc' := 4) rfl ?_)
  refine b_w (pc' := 5) (lv1 := ax_st1 [(0, .ref 76), (1, bI v1), (2, bI v2)] 3 (bI (μ 76 40))) (lv' := [(0, .ref 76), (1, bI v1), (2, bI v2), (3, bI (μ 76 40))]) (st' := []) l200_4 (fun _ => rfl) (bSb rfl (bSb rfl (bSb rfl (bSb rfl bSn)))) ?_
  refine b_s (pc' := 6) (lv1 := [(0, .ref 76), (1, bI v1), (2, bI v2), (3, bI (μ 76 40))]) (st' := [.ref 76]) l200_5 (fun _ => rfl) ?_
  refine b_s (pc' := 7) (lv1 := [(0, .ref 76), (1, bI v1), (2, bI v2), (3, bI (μ 76 40))]) (st' := [bI 0, .ref 76]) l200_6 (fun _ => rfl) ?_
  refine b_s (pc' := 10) (lv1 := [(0, .ref 76), (1, bI v1), (2, bI v2), (3, bI (μ 76 40))]) (st' := [bLg 2147483647, bI 0, .ref 76]) l200_7 (fun _ => rfl) ?_
  refine b_cMl l200_10 rfl (b_rc (ci := 9) (by rfl) (by decide) (by decide +kernel)) (Nat.le_of_ble_eq_true rfl) (Nat.le_of_ble_eq_true rfl) rfl (r_X11_row 0 (by decide) 2147483647 (by decide)) fun w1 μ2 hw1 => bD.ok fun hk3 => b_pc (pc' := 13) rfl ?_
  refine b_w (pc' := 15) (lv1 := ax_st2 [(0, .ref 76), (1, bI v1), (2, bI v2), (3, bI (μ 76 40))] 4 (bLg w1)) (lv' := [(0, .ref 76), (1, bI v1), (2, bI v2), (3, bI (μ 76 40)), (4, bLg w1)]) (st' := []) l200_13 (fun _ => rfl) (bSb rfl (bSb rfl (bSb rfl (bSb rfl (bSb rfl bSn))))) ?_
  refine b_s (pc' := 16) (lv1 := [(0, .ref 76), (1, bI v1), (2, bI v2), (3, bI (μ 76 40)), (4, bLg w1)]) (st' := [.ref 76]) l200_15 (fun _ => rfl) ?_
  refine b_gi l200_16 (by rfl) (by decide) (by decide) rfl (b_pc (pc' := 19) rfl ?_)
  refine b_s (pc' := 20) (lv1 := [(0, .ref 76), (1, bI v1), (2, bI v2), (3, bI (μ 76 40)), (4, bLg w1)]) (st' := [bI (-1), bI (μ2 76 37)]) l200_19 (fun _ => rfl) ?_
  refine b_ieq (pt := 25) l200_20 (bO_f hk3 (ci := 9) (by rfl) rfl) (by decide) (by decide) rfl (fun c4 => ?_) (fun c4 => b_pc (pc' := 23) rfl ?_)
  · refine b_s (pc' := 27) (lv1 := [(0, .ref 76), (1, bI v1), (2, bI v2), (3, bI (μ 76 40)), (4, bLg w1)]) (st' := [bLg w1]) l200_25 (fun _ => rfl) ?_
    refine b_lconst (e := 0) l200_27 (by decide) (b_pc (pc' := 28) rfl ?_)
    refine b_lcmp l200_28 hw1 (by decide) (b_pc (pc' := 29) rfl ?_)
    refine b_zne (pt := 46) l200_29 (bCmp_R _ _) (by decide) rfl (fun c5 => ?_) (fun c5 => b_pc (pc' := 32) rfl ?_)
    · refine b_s (pc' := 47) (lv1 := [(0, .ref 76), (1, bI v1), (2, bI v2), (3, bI (μ 76 40)), (4, bLg w1)]) (st' := [.ref 76]) l200_46 (fun _ => rfl) ?_
      refine b_s (pc' := 49) (lv1 := [(0, .ref 76), (1, bI v1), (2, bI v2), (3, bI (μ 76 40)), (4, bLg w1)]) (st' := [bLg w1, .ref 76]) l200_47 (fun _ => rfl) ?_
      refine b_cPi l200_49 rfl (b_rc (ci := 9) (by rfl) (by decide) (by decide +kernel)) (Nat.le_of_ble_eq_true rfl) (Nat.le_of_ble_eq_true rfl) rfl (r_X11_shapeNumbered w1 hw1) fun w6 hw6 => b_pc (pc' := 52) rfl ?_
      refine b_w (pc' := 54) (lv1 := ax_st1 [(0, .ref 76), (1, bI v1), (2, bI v2), (3, bI (μ 76 40)), (4, bLg w1)] 6 (bI w6)) (lv' := [(0, .ref 76), (1, bI v1), (2, bI v2), (3, bI (μ 76 40)), (6, bI w6)]) (st' := []) l200_52 (fun _ => rfl) (bSb rfl (bSb rfl (bSb rfl (bSb rfl (bSb rfl bSn))))) ?_
      refine b_s (pc' := 56) (lv1 := [(0, .ref 76), (1, bI v1), (2, bI v2), (3, bI (μ 76 40)), (6, bI w6)]) (st' := [bI w6]) l200_54 (fun _ => rfl) ?_
      refine b_s (pc' := 57) (lv1 := [(0, .ref 76), (1, bI v1), (2, bI v2), (3, bI (μ 76 40)), (6, bI w6)]) (st' := [bI (-1), bI w6]) l200_56 (fun _ => rfl) ?_
      refine b_ine (pt := 67) l200_57 hw6 (by decide) (by decide) rfl (fun c7 => ?_) (fun c7 => b_pc (pc' := 60) rfl ?_)
      · refine bD.wk (lv' := [(0, .ref 76), (1, bI v1), (2, bI v2), (3, bI (μ 76 40)), (6, bI w6)]) (bSb rfl (bSb rfl (bSb rfl (bSb rfl (bSb rfl bSn))))) ?_
        exact p_X11_readEntry_67 hr h1 h2 (bO_f hk (ci := 9) (by rfl) rfl) hw6
      · refine b_s (pc' := 61) (lv1 := [(0, .ref 76), (1, bI v1), (2, bI v2), (3, bI (μ 76 40)), (6, bI w6)]) (st' := [.ref 76]) l200_60 (fun _ => rfl) ?_
        refine b_s (pc' := 62) (lv1 := [(0, .ref 76), (1, bI v1), (2, bI v2), (3, bI (μ 76 40)), (6, bI w6)]) (st' := [bI 5, .ref 76]) l200_61 (fun _ => rfl) ?_
        refine b_s (pc' := 63) (lv1 := [(0, .ref 76), (1, bI v1), (2, bI v2), (3, bI (μ 76 40)), (6, bI w6)]) (st' := [bI 0, bI 5, .ref 76]) l200_62 (fun _ => rfl) ?_
        refine b_s (pc' := 64) (lv1 := [(0, .ref 76), (1, bI v1), (2, bI v2), (3, bI (μ 76 40)), (6, bI w6)]) (st' := [bI (μ 76 40), bI 0, bI 5, .ref 76]) l200_63 (fun _ => rfl) ?_
        refine b_cMv l200_64 rfl (b_rc (ci := 9) (by rfl) (by decide) (by decide +kernel)) (Nat.le_of_ble_eq_true rfl) (Nat.le_of_ble_eq_true rfl) rfl (r_X11_bad 5 (by decide) 0 (by decide) (μ 76 40) (bO_f hk (ci := 9) (by rfl) rfl)) fun w8 μ9 hw8 => bD.ok fun hk10 => b_pc (pc' := 67) rfl ?_
        refine bD.wk (lv' := [(0, .ref 76), (1, bI v1), (2, bI v2), (3, bI (μ 76 40)), (6, bI w6)]) (bSb rfl (bSb rfl (bSb rfl (bSb rfl (bSb rfl bSn))))) ?_
        exact p_X11_readEntry_67 hr h1 h2 (bO_f hk (ci := 9) (by rfl) rfl) hw6
    · refine b_s (pc' := 33) (lv1 := [(0, .ref 76), (1, bI v1), (2, bI v2), (3, bI (μ 76 40)), (4, bLg w1)]) (st' := [bI v1]) l200_32 (fun _ => rfl) ?_
      refine b_s (pc' := 34) (lv1 := [(0, .ref 76), (1, bI v1), (2, bI v2), (3, bI (μ 76 40)), (4, bLg w1)]) (st' := [bI (-1), bI v1]) l200_33 (fun _ => rfl) ?_
      refine b_ine (pt := 44) l200_34 h1 (by decide) (by decide) rfl (fun c11 => ?_) (fun c11 => b_pc (pc' := 37) rfl ?_)
      · refine b_s (pc' := 45) (lv1 := [(0, .ref 76), (1, bI v1), (2, bI v2), (3, bI (μ 76 40)), (4, bLg w1)]) (st' := [bI (-1)]) l200_44 (fun _ => rfl) ?_
        exact b_reti l200_45 rfl (by decide) (hr _)
      · refine b_s (pc' := 38) (lv1 := [(0, .ref 76), (1, bI v1), (2, bI v2), (3, bI (μ 76 40)), (4, bLg w1)]) (st' := [.ref 76]) l200_37 (fun _ => rfl) ?_
        refine b_s (pc' := 39) (lv1 := [(0, .ref 76), (1, bI v1), (2, bI v2), (3, bI (μ 76 40)), (4, bLg w1)]) (st' := [bI 5, .ref 76]) l200_38 (fun _ => rfl) ?_
        refine b_s (pc' := 40) (lv1 := [(0, .ref 76), (1, bI v1), (2, bI v2), (3, bI (μ 76 40)), (4, bLg w1)]) (st' := [bI 0, bI 5, .ref 76]) l200_39 (fun _ => rfl) ?_
        refine b_s (pc' := 41) (lv1 := [(0, .ref 76), (1, bI v1), (2, bI v2), (3, bI (μ 76 40)), (4, bLg w1)]) (st' := [bI (μ 76 40), bI 0, bI 5, .ref 76]) l200_40 (fun _ => rfl) ?_
        refine b_cMv l200_41 rfl (b_rc (ci := 9) (by rfl) (by decide) (by decide +kernel)) (Nat.le_of_ble_eq_true rfl) (Nat.le_of_ble_eq_true rfl) rfl (r_X11_bad 5 (by decide) 0 (by decide) (μ 76 40) (bO_f hk (ci := 9) (by rfl) rfl)) fun w12 μ13 hw12 => bD.ok fun hk14 => b_pc (pc' := 44) rfl ?_
        refine b_s (pc' := 45) (lv1 := [(0, .ref 76), (1, bI v1), (2, bI v2), (3, bI (μ 76 40)), (4, bLg w1)]) (st' := [bI (-1)]) l200_44 (fun _ => rfl) ?_
        exact b_reti l200_45 rfl (by decide) (hr _)
  · refine b_s (pc' := 24) (lv1 := [(0, .ref 76), (1, bI v1), (2, bI v2), (3, bI (μ 76 40)), (4, bLg w1)]) (st' := [bI (-1)]) l200_23 (fun _ => rfl) ?_
    exact b_reti l200_24 rfl (by decide) (hr _)
/-! ETModel.resolve -/
theorem l202_0 : (ax_dt (ax_T 202)).lookup 0 = some (.aload_n 0, 1, 0, 0, 0) := by decide +kernel
theorem l202_1 : (ax_dt (ax_T 202)).lookup 1 = some (.iload_n 1, 1, 0, 0, 0) := by decide +kernel
theorem l202_2 : (ax_dt (ax_T 202)).lookup 2 = some (.invokevirtual 140, 3, 140, 1, 0) := by decide +kernel
theorem l202_5 : (ax_dt (ax_T 202)).lookup 5 = some (.istore_n 3, 1, 0, 0, 0) := by decide +kernel
theorem l202_6 : (ax_dt (ax_T 202)).lookup 6 = some (.bipush 8, 2, 0, 0, 0) := by decide +kernel
theorem l202_8 : (ax_dt (ax_T 202)).lookup 8 = some (.iload_n 3, 1, 0, 0, 0) := by decide +kernel
theorem l202_9 : (ax_dt (ax_T 202)).lookup 9 = some (.imul, 1, 0, 0, 0) := by decide +kernel
theorem l202_10 : (ax_dt (ax_T 202)).lookup 10 = some (.istore 4, 2, 0, 0, 0) := by decide +kernel
theorem l202_12 : (ax_dt (ax_T 202)).lookup 12 = some (.iload 4, 2, 0, 0, 0) := by decide +kernel
theorem l202_14 : (ax_dt (ax_T 202)).lookup 14 = some (.bipush 8, 2, 0, 0, 0) := by decide +kernel
theorem l202_16 : (ax_dt (ax_T 202)).lookup 16 = some (.iload_n 3, 1, 0, 0, 0) := by decide +kernel
theorem l202_17 : (ax_dt (ax_T 202)).lookup 17 = some (.imul, 1, 0, 0, 0) := by decide +kernel
theorem l202_18 : (ax_dt (ax_T 202)).lookup 18 = some (.aload_n 0, 1, 0, 0, 0) := by decide +kernel
theorem l202_19 : (ax_dt (ax_T 202)).lookup 19 = some (.getfield 32, 3, 9, 10, 0) := by decide +kernel
theorem l202_22 : (ax_dt (ax_T 202)).lookup 22 = some (.iload_n 3, 1, 0, 0, 0) := by decide +kernel
theorem l202_23 : (ax_dt (ax_T 202)).lookup 23 = some (.iaload, 1, 0, 0, 0) := by decide +kernel
theorem l202_24 : (ax_dt (ax_T 202)).lookup 24 = some (.iadd, 1, 0, 0, 0) := by decide +kernel
theorem l202_25 : (ax_dt (ax_T 202)).lookup 25 = some (.if_icmp .ge 115, 3, 0, 0, 0) := by decide +kernel
theorem l202_28 : (ax_dt (ax_T 202)).lookup 28 = some (.aload_n 0, 1, 0, 0, 0) := by decide +kernel
theorem l202_29 : (ax_dt (ax_T 202)).lookup 29 = some (.getfield 38, 3, 9, 12, 0) := by decide +kernel
theorem l202_32 : (ax_dt (ax_T 202)).lookup 32 = some (.iload 4, 2, 0, 0, 0) := by decide +kernel
theorem l202_34 : (ax_dt (ax_T 202)).lookup 34 = some (.iaload, 1, 0, 0, 0) := by decide +kernel
theorem l202_35 : (ax_dt (ax_T 202)).lookup 35 = some (.invokestatic 168, 3, 148, 1, 0) := by decide +kernel
theorem l202_38 : (ax_dt (ax_T 202)).lookup 38 = some (.ifCond .eq 96, 3, 0, 0, 0) := by decide +kernel
theorem l202_41 : (ax_dt (ax_T 202)).lookup 41 = some (.iconst (-1), 1, 0, 0, 0) := by decide +kernel
theorem l202_42 : (ax_dt (ax_T 202)).lookup 42 = some (.istore 5, 2, 0, 0, 0) := by decide +kernel
theorem l202_44 : (ax_dt (ax_T 202)).lookup 44 = some (.iload_n 2, 1, 0, 0, 0) := by decide +kernel
theorem l202_45 : (ax_dt (ax_T 202)).lookup 45 = some (.istore 6, 2, 0, 0, 0) := by decide +kernel
theorem l202_47 : (ax_dt (ax_T 202)).lookup 47 = some (.iload 6, 2, 0, 0, 0) := by decide +kernel
theorem l202_49 : (ax_dt (ax_T 202)).lookup 49 = some (.aload_n 0, 1, 0, 0, 0) := by decide +kernel
theorem l202_50 : (ax_dt (ax_T 202)).lookup 50 = some (.getfield 13, 3, 9, 4, 0) := by decide +kernel
theorem l202_53 : (ax_dt (ax_T 202)).lookup 53 = some (.aload_n 0, 1, 0, 0, 0) := by decide +kernel
theorem l202_54 : (ax_dt (ax_T 202)).lookup 54 = some (.getfield 137, 3, 9, 3, 0) := by decide +kernel
theorem l202_57 : (ax_dt (ax_T 202)).lookup 57 = some (.iaload, 1, 0, 0, 0) := by decide +kernel
theorem l202_58 : (ax_dt (ax_T 202)).lookup 58 = some (.if_icmp .ge 37, 3, 0, 0, 0) := by decide +kernel
theorem l202_61 : (ax_dt (ax_T 202)).lookup 61 = some (.aload_n 0, 1, 0, 0, 0) := by decide +kernel
theorem l202_62 : (ax_dt (ax_T 202)).lookup 62 = some (.getfield 114, 3, 9, 50, 0) := by decide +kernel
theorem l202_65 : (ax_dt (ax_T 202)).lookup 65 = some (.iload 6, 2, 0, 0, 0) := by decide +kernel
theorem l202_67 : (ax_dt (ax_T 202)).lookup 67 = some (.iaload, 1, 0, 0, 0) := by decide +kernel
theorem l202_68 : (ax_dt (ax_T 202)).lookup 68 = some (.i2l, 1, 0, 0, 0) := by decide +kernel
theorem l202_69 : (ax_dt (ax_T 202)).lookup 69 = some (.aload_n 0, 1, 0, 0, 0) := by decide +kernel
theorem l202_70 : (ax_dt (ax_T 202)).lookup 70 = some (.getfield 41, 3, 9, 13, 0) := by decide +kernel
theorem l202_73 : (ax_dt (ax_T 202)).lookup 73 = some (.iload 4, 2, 0, 0, 0) := by decide +kernel
theorem l202_75 : (ax_dt (ax_T 202)).lookup 75 = some (.laload, 1, 0, 0, 0) := by decide +kernel
theorem l202_76 : (ax_dt (ax_T 202)).lookup 76 = some (.lcmp, 1, 0, 0, 0) := by decide +kernel
theorem l202_77 : (ax_dt (ax_T 202)).lookup 77 = some (.ifCond .ne 8, 3, 0, 0, 0) := by decide +kernel
theorem l202_80 : (ax_dt (ax_T 202)).lookup 80 = some (.iload 6, 2, 0, 0, 0) := by decide +kernel
theorem l202_82 : (ax_dt (ax_T 202)).lookup 82 = some (.goto 5, 3, 0, 0, 0) := by decide +kernel
theorem l202_85 : (ax_dt (ax_T 202)).lookup 85 = some (.iload 5, 2, 0, 0, 0) := by decide +kernel
theorem l202_87 : (ax_dt (ax_T 202)).lookup 87 = some (.istore 5, 2, 0, 0, 0) := by decide +kernel
theorem l202_89 : (ax_dt (ax_T 202)).lookup 89 = some (.iinc 6 1, 3, 0, 0, 0) := by decide +kernel
theorem l202_92 : (ax_dt (ax_T 202)).lookup 92 = some (.goto (-45), 3, 0, 0, 0) := by decide +kernel
theorem l202_95 : (ax_dt (ax_T 202)).lookup 95 = some (.iload 5, 2, 0, 0, 0) := by decide +kernel
theorem l202_97 : (ax_dt (ax_T 202)).lookup 97 = some (.iconst (-1), 1, 0, 0, 0) := by decide +kernel
theorem l202_98 : (ax_dt (ax_T 202)).lookup 98 = some (.if_icmp .ne 26, 3, 0, 0, 0) := by decide +kernel
theorem l202_101 : (ax_dt (ax_T 202)).lookup 101 = some (.aload_n 0, 1, 0, 0, 0) := by decide +kernel
theorem l202_102 : (ax_dt (ax_T 202)).lookup 102 = some (.bipush 7, 2, 0, 0, 0) := by decide +kernel
theorem l202_104 : (ax_dt (ax_T 202)).lookup 104 = some (.iconst 0, 1, 0, 0, 0) := by decide +kernel
theorem l202_105 : (ax_dt (ax_T 202)).lookup 105 = some (.aload_n 0, 1, 0, 0, 0) := by decide +kernel
theorem l202_106 : (ax_dt (ax_T 202)).lookup 106 = some (.getfield 117, 3, 9, 51, 0) := by decide +kernel
theorem l202_109 : (ax_dt (ax_T 202)).lookup 109 = some (.iload 4, 2, 0, 0, 0) := by decide +kernel
theorem l202_111 : (ax_dt (ax_T 202)).lookup 111 = some (.sipush 3200, 3, 0, 0, 0) := by decide +kernel
theorem l202_114 : (ax_dt (ax_T 202)).lookup 114 = some (.aload_n 0, 1, 0, 0, 0) := by decide +kernel
theorem l202_115 : (ax_dt (ax_T 202)).lookup 115 = some (.getfield 137, 3, 9, 3, 0) := by decide +kernel
theorem l202_118 : (ax_dt (ax_T 202)).lookup 118 = some (.imul, 1, 0, 0, 0) := by decide +kernel
theorem l202_119 : (ax_dt (ax_T 202)).lookup 119 = some (.isub, 1, 0, 0, 0) := by decide +kernel
theorem l202_120 : (ax_dt (ax_T 202)).lookup 120 = some (.iaload, 1, 0, 0, 0) := by decide +kernel
theorem l202_121 : (ax_dt (ax_T 202)).lookup 121 = some (.invokevirtual 318, 3, 186, 3, 0) := by decide +kernel
theorem l202_124 : (ax_dt (ax_T 202)).lookup 124 = some (.aload_n 0, 1, 0, 0, 0) := by decide +kernel
theorem l202_125 : (ax_dt (ax_T 202)).lookup 125 = some (.getfield 41, 3, 9, 13, 0) := by decide +kernel
theorem l202_128 : (ax_dt (ax_T 202)).lookup 128 = some (.iload 4, 2, 0, 0, 0) := by decide +kernel
theorem l202_130 : (ax_dt (ax_T 202)).lookup 130 = some (.iload 5, 2, 0, 0, 0) := by decide +kernel
theorem l202_132 : (ax_dt (ax_T 202)).lookup 132 = some (.i2l, 1, 0, 0, 0) := by decide +kernel
theorem l202_133 : (ax_dt (ax_T 202)).lookup 133 = some (.lastore, 1, 0, 0, 0) := by decide +kernel
theorem l202_134 : (ax_dt (ax_T 202)).lookup 134 = some (.iinc 4 1, 3, 0, 0, 0) := by decide +kernel
theorem l202_137 : (ax_dt (ax_T 202)).lookup 137 = some (.goto (-125), 3, 0, 0, 0) := by decide +kernel
theorem l202_140 : (ax_dt (ax_T 202)).lookup 140 = some (.return_, 1, 0, 0, 0) := by decide +kernel
noncomputable def F_X11_resolve_95 (v2 : Int) (v3 : Int) (v4 : Int) (v5 : Int) (μ : bM) : Option ((Int × bM) ⊕ (Int × bM)) := if ¬ v5 = (-1) then bG (0 ≤ v4 ∧ v4 < 6400) (bG (bR (v4 + 1)) (some (.inl ((v4 + 1), (bset μ 87 v4.toNat v5))))) else bG (bR (3200 * (μ 76 3))) (bG (bR (v4 - (3200 * (μ 76 3)))) (bG (0 ≤ (v4 - (3200 * (μ 76 3))) ∧ (v4 - (3200 * (μ 76 3))) < 3200) (bMm (F_X11_bad 7 0 (μ 111 (v4 - (3200 * (μ 76 3))).toNat) μ) (fun w7 μ8 => bG (0 ≤ v4 ∧ v4 < 6400) (bG (bR (v4 + 1)) (some (.inl ((v4 + 1), (bset μ8 87 v4.toNat v5)))))))))
noncomputable def F_X11_resolve_47 (v2 : Int) (v3 : Int) (v4 : Int) (μ : bM) (v5 : Int) (v6 : Int) : Option ((Int × Int) ⊕ ((Int × bM) ⊕ (Int × bM))) := bG (0 ≤ (μ 76 3) ∧ (μ 76 3) < 2) (if (μ 78 (μ 76 3).toNat) ≤ v6 then bUp (F_X11_resolve_95 v2 v3 v4 v5 μ) else bG (0 ≤ v6 ∧ v6 < 400) (bG (0 ≤ v4 ∧ v4 < 6400) (if ¬ (bCmp (μ 110 v6.toNat) (μ 87 v4.toNat)) = 0 then bG (bR (v6 + 1)) (some (.inl (v5, (v6 + 1)))) else bG (bR (v6 + 1)) (some (.inl (v6, (v6 + 1)))))))
noncomputable def F_X11_resolve_12 (v2 : Int) (v3 : Int) (v4 : Int) (μ : bM) : Option ((Int × bM) ⊕ (Int × bM)) := bG (bR (8 * v3)) (bG (0 ≤ v3 ∧ v3 < 800) (bG (bR ((8 * v3) + (μ 84 v3.toNat))) (if ((8 * v3) + (μ 84 v3.toNat)) ≤ v4 then some (.inr (0, μ)) else bG (0 ≤ v4 ∧ v4 < 6400) ((F_X11_isReference (μ 86 v4.toNat) μ).bind fun w4 => if w4 = 0 then bG (bR (v4 + 1)) (some (.inl ((v4 + 1), μ))) else bLoop (fun z => F_X11_resolve_47 v2 v3 v4 μ z.1 z.2) ((-1), v2)))))
noncomputable def F_X11_resolve (v1 : Int) (v2 : Int) (μ : bM) : Option (Int × bM) := (F_X11_at v1 μ).bind fun w1 => bG (bR (8 * w1)) (bLoop (fun z => F_X11_resolve_12 v2 w1 z.1 z.2) ((8 * w1), μ))
theorem p_X11_resolve_95 {L : Nat} {xs : Nat → Int32} {d : Nat} {μ : bM} {v2 : Int} {v3 : Int} {κ : ((Int × bM) ⊕ (Int × bM)) → Option bX} (hr : ∀ r : Int × bM, κ (.inr r) = (bMc) r) (H12 : ∀ (v4 : Int) (μ : bM), bR v4 → bD L xs (d + 1) 202 12 [(0, .ref 76), (2, bI v2), (3, bI v3), (4, bI v4)] [] μ (κ (.inl (v4, μ))))  (h2 : bR v2) (h3 : bR v3) {v4 : Int} (h4 : bR v4) {v5 : Int} (h5 : bR v5) : bD L xs (d + 1) 202 95 [(0, .ref 76), (2, bI v2), (3, bI v3), (4, bI v4), (5, bI v5)] [] μ ((F_X11_resolve_95 v2 v3 v4 v5 μ).bind κ) := by
  unfold F_X11_resolve_95
  refine bD.ok fun hk => ?_
  refine b_s (pc' := 97) (lv1 := [(0, .ref 76), (2, bI v2), (3, bI v3), (4, bI v4), (5, bI v5)]) (st' := [bI v5]) l202_95 (fun _ => rfl) ?_
  refine b_s (pc' := 98) (lv1 := [(0, .ref 76), (2, bI v2), (3, bI v3), (4, bI v4), (5, bI v5)]) (st' := [bI (-1), bI v5]) l202_97 (fun _ => rfl) ?_
  refine b_ine (pt := 124) l202_98 h5 (by decide) (by decide) rfl (fun c1 => ?_) (fun c1 => b_pc (pc' := 101) rfl ?_)
  · refine b_s (pc' := 125) (lv1 := [(0, .ref 76), (2, bI v2), (3, bI v3), (4, bI v4), (5, bI v5)]) (st' := [.ref 76]) l202_124 (fun _ => rfl) ?_
    refine b_gp (q' := 87) (j := 11) l202_125 (by rfl) (by decide) (by decide) rfl hk rfl rfl (b_pc (pc' := 128) rfl ?_)
    refine b_s (pc' := 130) (lv1 := [(0, .ref 76), (2, bI v2), (3, bI v3), (4, bI v4), (5, bI v5)]) (st' := [bI v4, .ref 87]) l202_128 (fun _ => rfl) ?_
    refine b_s (pc' := 132) (lv1 := [(0, .ref 76), (2, bI v2), (3, bI v3), (4, bI v4), (5, bI v5)]) (st' := [bI v5, bI v4, .ref 87]) l202_130 (fun _ => rfl) ?_
    refine b_i2l l202_132 h5 (b_pc (pc' := 133) rfl ?_)
    refine b_g fun g4 => ?_
    refine b_las l202_133 (by rfl) g4 (bR_L h5) (bD.ok fun hk2 => b_pc (pc' := 134) rfl ?_)
    refine b_inc (lv' := [(0, .ref 76), (2, bI v2), (3, bI v3), (4, bI (v4 + 1))]) l202_134 rfl (by decide +kernel) (bSb rfl (bSb rfl (bSb rfl (bSb rfl bSn)))) fun g3 => (b_pc (pc' := 137) rfl ?_)
    refine b_s (pc' := 12) (lv1 := [(0, .ref 76), (2, bI v2), (3, bI v3), (4, bI (v4 + 1))]) (st' := []) l202_137 (fun _ => rfl) ?_
    refine bD.wk (lv' := [(0, .ref 76), (2, bI v2), (3, bI v3), (4, bI (v4 + 1))]) (bSb rfl (bSb rfl (bSb rfl (bSb rfl bSn)))) ?_
    exact H12 (v4 + 1) (bset μ 87 v4.toNat v5) g3
  · refine b_s (pc' := 102) (lv1 := [(0, .ref 76), (2, bI v2), (3, bI v3), (4, bI v4), (5, bI v5)]) (st' := [.ref 76]) l202_101 (fun _ => rfl) ?_
    refine b_bipush l202_102 (by decide) (b_pc (pc' := 104) rfl ?_)
    refine b_s (pc' := 105) (lv1 := [(0, .ref 76), (2, bI v2), (3, bI v3), (4, bI v4), (5, bI v5)]) (st' := [bI 0, bI 7, .ref 76]) l202_104 (fun _ => rfl) ?_
    refine b_s (pc' := 106) (lv1 := [(0, .ref 76), (2, bI v2), (3, bI v3), (4, bI v4), (5, bI v5)]) (st' := [.ref 76, bI 0, bI 7, .ref 76]) l202_105 (fun _ => rfl) ?_
    refine b_gp (q' := 111) (j := 35) l202_106 (by rfl) (by decide) (by decide) rfl hk rfl rfl (b_pc (pc' := 109) rfl ?_)
    refine b_s (pc' := 111) (lv1 := [(0, .ref 76), (2, bI v2), (3, bI v3), (4, bI v4), (5, bI v5)]) (st' := [bI v4, .ref 111, bI 0, bI 7, .ref 76]) l202_109 (fun _ => rfl) ?_
    refine b_sipush l202_111 (by decide) (b_pc (pc' := 114) rfl ?_)
    refine b_s (pc' := 115) (lv1 := [(0, .ref 76), (2, bI v2), (3, bI v3), (4, bI v4), (5, bI v5)]) (st' := [.ref 76, bI 3200, bI v4, .ref 111, bI 0, bI 7, .ref 76]) l202_114 (fun _ => rfl) ?_
    refine b_gi l202_115 (by rfl) (by decide) (by decide) rfl (b_pc (pc' := 118) rfl ?_)
    refine b_imul l202_118 fun g5 => (b_pc (pc' := 119) rfl ?_)
    refine b_isub l202_119 fun g6 => (b_pc (pc' := 120) rfl ?_)
    refine b_g fun g13 => ?_
    refine b_ial l202_120 (by rfl) g13 (b_pc (pc' := 121) rfl ?_)
    refine b_cMv l202_121 rfl (b_rc (ci := 9) (by rfl) (by decide) (by decide +kernel)) (Nat.le_of_ble_eq_true rfl) (Nat.le_of_ble_eq_true rfl) rfl (r_X11_bad 7 (by decide) 0 (by decide) (μ 111 (v4 - (3200 * (μ 76 3))).toNat) (bO_i hk (by rfl))) fun w7 μ8 hw7 => bD.ok fun hk9 => b_pc (pc' := 124) rfl ?_
    refine b_s (pc' := 125) (lv1 := [(0, .ref 76), (2, bI v2), (3, bI v3), (4, bI v4), (5, bI v5)]) (st' := [.ref 76]) l202_124 (fun _ => rfl) ?_
    refine b_gp (q' := 87) (j := 11) l202_125 (by rfl) (by decide) (by decide) rfl hk9 rfl rfl (b_pc (pc' := 128) rfl ?_)
    refine b_s (pc' := 130) (lv1 := [(0, .ref 76), (2, bI v2), (3, bI v3), (4, bI v4), (5, bI v5)]) (st' := [bI v4, .ref 87]) l202_128 (fun _ => rfl) ?_
    refine b_s (pc' := 132) (lv1 := [(0, .ref 76), (2, bI v2), (3, bI v3), (4, bI v4), (5, bI v5)]) (st' := [bI v5, bI v4, .ref 87]) l202_130 (fun _ => rfl) ?_
    refine b_i2l l202_132 h5 (b_pc (pc' := 133) rfl ?_)
    refine b_g fun g12 => ?_
    refine b_las l202_133 (by rfl) g12 (bR_L h5) (bD.ok fun hk10 => b_pc (pc' := 134) rfl ?_)
    refine b_inc (lv' := [(0, .ref 76), (2, bI v2), (3, bI v3), (4, bI (v4 + 1))]) l202_134 rfl (by decide +kernel) (bSb rfl (bSb rfl (bSb rfl (bSb rfl bSn)))) fun g11 => (b_pc (pc' := 137) rfl ?_)
    refine b_s (pc' := 12) (lv1 := [(0, .ref 76), (2, bI v2), (3, bI v3), (4, bI (v4 + 1))]) (st' := []) l202_137 (fun _ => rfl) ?_
    refine bD.wk (lv' := [(0, .ref 76), (2, bI v2), (3, bI v3), (4, bI (v4 + 1))]) (bSb rfl (bSb rfl (bSb rfl (bSb rfl bSn)))) ?_
    exact H12 (v4 + 1) (bset μ8 87 v4.toNat v5) g11
theorem q_X11_resolve_47 {L : Nat} {xs : Nat → Int32} {d : Nat} {μ : bM} {v2 : Int} {v3 : Int} {v4 : Int} {κ : ((Int × Int) ⊕ ((Int × bM) ⊕ (Int × bM))) → Option bX} (hr : ∀ r : Int × bM, κ (.inr (.inr r)) = (bMc) r) (H12 : ∀ (v4 : Int) (μ : bM), bR v4 → bD L xs (d + 1) 202 12 [(0, .ref 76), (2, bI v2), (3, bI v3), (4, bI v4)] [] μ (κ (.inr (.inl (v4, μ))))) (H47 : ∀ (v5 : Int) (v6 : Int), bR v5 → bR v6 → bD L xs (d + 1) 202 47 [(0, .ref 76), (2, bI v2), (3, bI v3), (4, bI v4), (5, bI v5), (6, bI v6)] [] μ (κ (.inl (v5, v6))))  (h2 : bR v2) (h3 : bR v3) (h4 : bR v4) {v5 : Int} (h5 : bR v5) {v6 : Int} (h6 : bR v6) : bD L xs (d + 1) 202 47 [(0, .ref 76), (2, bI v2), (3, bI v3), (4, bI v4), (5, bI v5), (6, bI v6)] [] μ ((F_X11_resolve_47 v2 v3 v4 μ v5 v6).bind κ) := by
  unfold F_X11_resolve_47
  refine bD.ok fun hk => ?_
  refine b_s (pc' := 49) (lv1 := [(0, .ref 76), (2, bI v2), (3, bI v3), (4, bI v4), (5, bI v5), (6, bI v6)]) (st' := [bI v6]) l202_47 (fun _ => rfl) ?_
  refine b_s (pc' := 50) (lv1 := [(0, .ref 76), (2, bI v2), (3, bI v3), (4, bI v4), (5, bI v5), (6, bI v6)]) (st' := [.ref 76, bI v6]) l202_49 (fun _ => rfl) ?_
  refine b_gp (q' := 78) (j := 2) l202_50 (by rfl) (by decide) (by decide) rfl hk rfl rfl (b_pc (pc' := 53) rfl ?_)
  refine b_s (pc' := 54) (lv1 := [(0, .ref 76), (2, bI v2), (3, bI v3), (4, bI v4), (5, bI v5), (6, bI v6)]) (st' := [.ref 76, .ref 78, bI v6]) l202_53 (fun _ => rfl) ?_
  refine b_gi l202_54 (by rfl) (by decide) (by decide) rfl (b_pc (pc' := 57) rfl ?_)
  refine b_g fun g7 => ?_
  refine b_ial l202_57 (by rfl) g7 (b_pc (pc' := 58) rfl ?_)
  refine b_ige (pt := 95) l202_58 h6 (bO_i hk (by rfl)) (by decide) rfl (fun c1 => ?_) (fun c1 => b_pc (pc' := 61) rfl ?_)
  · refine b_up (fun _ => rfl) ?_
    refine bD.wk (lv' := [(0, .ref 76), (2, bI v2), (3, bI v3), (4, bI v4), (5, bI v5)]) (bSb rfl (bSb rfl (bSb rfl (bSb rfl (bSb rfl bSn))))) ?_
    exact p_X11_resolve_95 hr H12 h2 h3 h4 h5
  · refine b_s (pc' := 62) (lv1 := [(0, .ref 76), (2, bI v2), (3, bI v3), (4, bI v4), (5, bI v5), (6, bI v6)]) (st' := [.ref 76]) l202_61 (fun _ => rfl) ?_
    refine b_gp (q' := 110) (j := 34) l202_62 (by rfl) (by decide) (by decide) rfl hk rfl rfl (b_pc (pc' := 65) rfl ?_)
    refine b_s (pc' := 67) (lv1 := [(0, .ref 76), (2, bI v2), (3, bI v3), (4, bI v4), (5, bI v5), (6, bI v6)]) (st' := [bI v6, .ref 110]) l202_65 (fun _ => rfl) ?_
    refine b_g fun g6 => ?_
    refine b_ial l202_67 (by rfl) g6 (b_pc (pc' := 68) rfl ?_)
    refine b_i2l l202_68 (bO_i hk (by rfl)) (b_pc (pc' := 69) rfl ?_)
    refine b_s (pc' := 70) (lv1 := [(0, .ref 76), (2, bI v2), (3, bI v3), (4, bI v4), (5, bI v5), (6, bI v6)]) (st' := [.ref 76, bLg (μ 110 v6.toNat)]) l202_69 (fun _ => rfl) ?_
    refine b_gp (q' := 87) (j := 11) l202_70 (by rfl) (by decide) (by decide) rfl hk rfl rfl (b_pc (pc' := 73) rfl ?_)
    refine b_s (pc' := 75) (lv1 := [(0, .ref 76), (2, bI v2), (3, bI v3), (4, bI v4), (5, bI v5), (6, bI v6)]) (st' := [bI v4, .ref 87, bLg (μ 110 v6.toNat)]) l202_73 (fun _ => rfl) ?_
    refine b_g fun g5 => ?_
    refine b_lal l202_75 (by rfl) g5 (b_pc (pc' := 76) rfl ?_)
    refine b_lcmp l202_76 (bR_L (bO_i hk (by rfl))) (bO_l hk (by rfl)) (b_pc (pc' := 77) rfl ?_)
    refine b_zne (pt := 85) l202_77 (bCmp_R _ _) (by decide) rfl (fun c2 => ?_) (fun c2 => b_pc (pc' := 80) rfl ?_)
    · refine b_s (pc' := 87) (lv1 := [(0, .ref 76), (2, bI v2), (3, bI v3), (4, bI v4), (5, bI v5), (6, bI v6)]) (st' := [bI v5]) l202_85 (fun _ => rfl) ?_
      refine b_w (pc' := 89) (lv1 := ax_st1 [(0, .ref 76), (2, bI v2), (3, bI v3), (4, bI v4), (5, bI v5), (6, bI v6)] 5 (bI v5)) (lv' := [(0, .ref 76), (2, bI v2), (3, bI v3), (4, bI v4), (5, bI v5), (6, bI v6)]) (st' := []) l202_87 (fun _ => rfl) (bSb rfl (bSb rfl (bSb rfl (bSb rfl (bSb rfl (bSb rfl bSn)))))) ?_
      refine b_inc (lv' := [(0, .ref 76), (2, bI v2), (3, bI v3), (4, bI v4), (5, bI v5), (6, bI (v6 + 1))]) l202_89 rfl (by decide +kernel) (bSb rfl (bSb rfl (bSb rfl (bSb rfl (bSb rfl (bSb rfl bSn)))))) fun g3 => (b_pc (pc' := 92) rfl ?_)
      refine b_s (pc' := 47) (lv1 := [(0, .ref 76), (2, bI v2), (3, bI v3), (4, bI v4), (5, bI v5), (6, bI (v6 + 1))]) (st' := []) l202_92 (fun _ => rfl) ?_
      refine bD.wk (lv' := [(0, .ref 76), (2, bI v2), (3, bI v3), (4, bI v4), (5, bI v5), (6, bI (v6 + 1))]) (bSb rfl (bSb rfl (bSb rfl (bSb rfl (bSb rfl (bSb rfl bSn)))))) ?_
      exact H47 v5 (v6 + 1) h5 g3
    · refine b_s (pc' := 82) (lv1 := [(0, .ref 76), (2, bI v2), (3, bI v3), (4, bI v4), (5, bI v5), (6, bI v6)]) (st' := [bI v6]) l202_80 (fun _ => rfl) ?_
      refine b_s (pc' := 87) (lv1 := [(0, .ref 76), (2, bI v2), (3, bI v3), (4, bI v4), (5, bI v5), (6, bI v6)]) (st' := [bI v6]) l202_82 (fun _ => rfl) ?_
      refine b_w (pc' := 89) (lv1 := ax_st1 [(0, .ref 76), (2, bI v2), (3, bI v3), (4, bI v4), (5, bI v5), (6, bI v6)] 5 (bI v6)) (lv' := [(0, .ref 76), (2, bI v2), (3, bI v3), (4, bI v4), (5, bI v6), (6, bI v6)]) (st' := []) l202_87 (fun _ => rfl) (bSb rfl (bSb rfl (bSb rfl (bSb rfl (bSb rfl (bSb rfl bSn)))))) ?_
      refine b_inc (lv' := [(0, .ref 76), (2, bI v2), (3, bI v3), (4, bI v4), (5, bI v6), (6, bI (v6 + 1))]) l202_89 rfl (by decide +kernel) (bSb rfl (bSb rfl (bSb rfl (bSb rfl (bSb rfl (bSb rfl bSn)))))) fun g4 => (b_pc (pc' := 92) rfl ?_)
      refine b_s (pc' := 47) (lv1 := [(0, .ref 76), (2, bI v2), (3, bI v3), (4, bI v4), (5, bI v6), (6, bI (v6 + 1))]) (st' := []) l202_92 (fun _ => rfl) ?_
      refine bD.wk (lv' := [(0, .ref 76), (2, bI v2), (3, bI v3), (4, bI v4), (5, bI v6), (6, bI (v6 + 1))]) (bSb rfl (bSb rfl (bSb rfl (bSb rfl (bSb rfl (bSb rfl bSn)))))) ?_
      exact H47 v6 (v6 + 1) h6 g4
theorem p_X11_resolve_47 {L : Nat} {xs : Nat → Int32} {d : Nat} {μ : bM} {v2 : Int} {v3 : Int} {κ : ((Int × bM) ⊕ (Int × bM)) → Option bX} (hr : ∀ r : Int × bM, κ (.inr r) = (bMc) r) (H12 : ∀ (v4 : Int) (μ : bM), bR v4 → bD L xs (d + 1) 202 12 [(0, .ref 76), (2, bI v2), (3, bI v3), (4, bI v4)] [] μ (κ (.inl (v4, μ))))  (h2 : bR v2) (h3 : bR v3) {v4 : Int} (h4 : bR v4) {v5 : Int} (h5 : bR v5) {v6 : Int} (h6 : bR v6) : bD L xs (d + 1) 202 47 [(0, .ref 76), (2, bI v2), (3, bI v3), (4, bI v4), (5, bI v5), (6, bI v6)] [] μ ((bLoop (fun z => F_X11_resolve_47 v2 v3 v4 μ z.1 z.2) (v5, v6)).bind κ) :=
  b_loop (fun z => [(0, .ref 76), (2, bI v2), (3, bI v3), (4, bI v4), (5, bI z.1), (6, bI z.2)]) (fun z => μ) (fun z => bR z.1 ∧ bR z.2) (fun κ' hκ HH z hz => q_X11_resolve_47 (κ := κ') (fun r => (hκ _).trans (hr r)) (fun a4 am b4 => b_eq (hκ _) (H12 a4 am b4)) (fun a5 a6 b5 b6 => HH (a5, a6) ⟨b5, b6⟩)  h2 h3 h4 hz.1 hz.2) (v5, v6) ⟨h5, h6⟩
theorem q_X11_resolve_12 {L : Nat} {xs : Nat → Int32} {d : Nat} {μ : bM} {v2 : Int} {v3 : Int} {κ : ((Int × bM) ⊕ (Int × bM)) → Option bX} (hr : ∀ r : Int × bM, κ (.inr r) = (bMc) r) (H12 : ∀ (v4 : Int) (μ : bM), bR v4 → bD L xs (d + 1) 202 12 [(0, .ref 76), (2, bI v2), (3, bI v3), (4, bI v4)] [] μ (κ (.inl (v4, μ))))  (h2 : bR v2) (h3 : bR v3) {v4 : Int} (h4 : bR v4) : bD L xs (d + 1) 202 12 [(0, .ref 76), (2, bI v2), (3, bI v3), (4, bI v4)] [] μ ((F_X11_resolve_12 v2 v3 v4 μ).bind κ) := by
  unfold F_X11_resolve_12
  refine bD.ok fun hk => ?_
  refine b_s (pc' := 14) (lv1 := [(0, .ref 76), (2, bI v2), (3, bI v3), (4, bI v4)]) (st' := [bI v4]) l202_12 (fun _ => rfl) ?_
  refine b_bipush l202_14 (by decide) (b_pc (pc' := 16) rfl ?_)
  refine b_s (pc' := 17) (lv1 := [(0, .ref 76), (2, bI v2), (3, bI v3), (4, bI v4)]) (st' := [bI v3, bI 8, bI v4]) l202_16 (fun _ => rfl) ?_
  refine b_imul l202_17 fun g1 => (b_pc (pc' := 18) rfl ?_)
  refine b_s (pc' := 19) (lv1 := [(0, .ref 76), (2, bI v2), (3, bI v3), (4, bI v4)]) (st' := [.ref 76, bI (8 * v3), bI v4]) l202_18 (fun _ => rfl) ?_
  refine b_gp (q' := 84) (j := 8) l202_19 (by rfl) (by decide) (by decide) rfl hk rfl rfl (b_pc (pc' := 22) rfl ?_)
  refine b_s (pc' := 23) (lv1 := [(0, .ref 76), (2, bI v2), (3, bI v3), (4, bI v4)]) (st' := [bI v3, .ref 84, bI (8 * v3), bI v4]) l202_22 (fun _ => rfl) ?_
  refine b_g fun g8 => ?_
  refine b_ial l202_23 (by rfl) g8 (b_pc (pc' := 24) rfl ?_)
  refine b_iadd l202_24 fun g2 => (b_pc (pc' := 25) rfl ?_)
  refine b_ige (pt := 140) l202_25 h4 g2 (by decide) rfl (fun c3 => ?_) (fun c3 => b_pc (pc' := 28) rfl ?_)
  · exact b_retv l202_140 rfl (hr _)
  · refine b_s (pc' := 29) (lv1 := [(0, .ref 76), (2, bI v2), (3, bI v3), (4, bI v4)]) (st' := [.ref 76]) l202_28 (fun _ => rfl) ?_
    refine b_gp (q' := 86) (j := 10) l202_29 (by rfl) (by decide) (by decide) rfl hk rfl rfl (b_pc (pc' := 32) rfl ?_)
    refine b_s (pc' := 34) (lv1 := [(0, .ref 76), (2, bI v2), (3, bI v3), (4, bI v4)]) (st' := [bI v4, .ref 86]) l202_32 (fun _ => rfl) ?_
    refine b_g fun g7 => ?_
    refine b_ial l202_34 (by rfl) g7 (b_pc (pc' := 35) rfl ?_)
    refine b_cPz l202_35 rfl (fun _ => trivial) (Nat.le_of_ble_eq_true rfl) (Nat.le_of_ble_eq_true rfl) rfl (r_X11_isReference (μ 86 v4.toNat) (bO_i hk (by rfl))) fun w4 hw4 => b_pc (pc' := 38) rfl ?_
    refine b_zeq (pt := 134) l202_38 (bZ_R hw4) (by decide) rfl (fun c5 => ?_) (fun c5 => b_pc (pc' := 41) rfl ?_)
    · refine b_inc (lv' := [(0, .ref 76), (2, bI v2), (3, bI v3), (4, bI (v4 + 1))]) l202_134 rfl (by decide +kernel) (bSb rfl (bSb rfl (bSb rfl (bSb rfl bSn)))) fun g6 => (b_pc (pc' := 137) rfl ?_)
      refine b_s (pc' := 12) (lv1 := [(0, .ref 76), (2, bI v2), (3, bI v3), (4, bI (v4 + 1))]) (st' := []) l202_137 (fun _ => rfl) ?_
      refine bD.wk (lv' := [(0, .ref 76), (2, bI v2), (3, bI v3), (4, bI (v4 + 1))]) (bSb rfl (bSb rfl (bSb rfl (bSb rfl bSn)))) ?_
      exact H12 (v4 + 1) μ g6
    · refine b_s (pc' := 42) (lv1 := [(0, .ref 76), (2, bI v2), (3, bI v3), (4, bI v4)]) (st' := [bI (-1)]) l202_41 (fun _ => rfl) ?_
      refine b_w (pc' := 44) (lv1 := ax_st1 [(0, .ref 76), (2, bI v2), (3, bI v3), (4, bI v4)] 5 (bI (-1))) (lv' := [(0, .ref 76), (2, bI v2), (3, bI v3), (4, bI v4), (5, bI (-1))]) (st' := []) l202_42 (fun _ => rfl) (bSb rfl (bSb rfl (bSb rfl (bSb rfl (bSb rfl bSn))))) ?_
      refine b_s (pc' := 45) (lv1 := [(0, .ref 76), (2, bI v2), (3, bI v3), (4, bI v4), (5, bI (-1))]) (st' := [bI v2]) l202_44 (fun _ => rfl) ?_
      refine b_w (pc' := 47) (lv1 := ax_st1 [(0, .ref 76), (2, bI v2), (3, bI v3), (4, bI v4), (5, bI (-1))] 6 (bI v2)) (lv' := [(0, .ref 76), (2, bI v2), (3, bI v3), (4, bI v4), (5, bI (-1)), (6, bI v2)]) (st' := []) l202_45 (fun _ => rfl) (bSb rfl (bSb rfl (bSb rfl (bSb rfl (bSb rfl (bSb rfl bSn)))))) ?_
      refine bD.wk (lv' := [(0, .ref 76), (2, bI v2), (3, bI v3), (4, bI v4), (5, bI (-1)), (6, bI v2)]) (bSb rfl (bSb rfl (bSb rfl (bSb rfl (bSb rfl (bSb rfl bSn)))))) ?_
      exact p_X11_resolve_47 hr H12 h2 h3 h4 (by decide) h2
theorem p_X11_resolve_12 {L : Nat} {xs : Nat → Int32} {d : Nat} {μ : bM}  {κ : (Int × bM) → Option bX} (hr : ∀ r : Int × bM, κ r = (bMc) r)  {v2 : Int} (h2 : bR v2) {v3 : Int} (h3 : bR v3) {v4 : Int} (h4 : bR v4) : bD L xs (d + 1) 202 12 [(0, .ref 76), (2, bI v2), (3, bI v3), (4, bI v4)] [] μ ((bLoop (fun z => F_X11_resolve_12 v2 v3 z.1 z.2) (v4, μ)).bind κ) :=
  b_loop (fun z => [(0, .ref 76), (2, bI v2), (3, bI v3), (4, bI z.1)]) (fun z => z.2) (fun z => bR z.1) (fun κ' hκ HH z hz => q_X11_resolve_12 (κ := κ') (fun r => (hκ _).trans (hr r)) (fun a4 am b4 => HH (a4, am) b4)  h2 h3 hz) (v4, μ) h4
theorem r_X11_resolve {L : Nat} {xs : Nat → Int32} {d : Nat} {μ : bM}  (v1 : Int) (h1 : bR v1) (v2 : Int) (h2 : bR v2) : bD L xs (d + 1) 202 0 [(0, .ref 76), (1, bI v1), (2, bI v2)] [] μ ((F_X11_resolve v1 v2 μ).bind (bMc)) := by
  have hr : ∀ r, (bMc) r = (bMc) r := fun _ => rfl
  unfold F_X11_resolve
  refine bD.ok fun hk => ?_
  refine b_s (pc' := 1) (lv1 := [(0, .ref 76), (1, bI v1), (2, bI v2)]) (st' := [.ref 76]) l202_0 (fun _ => rfl) ?_
  refine b_s (pc' := 2) (lv1 := [(0, .ref 76), (1, bI v1), (2, bI v2)]) (st' := [bI v1, .ref 76]) l202_1 (fun _ => rfl) ?_
  refine b_cPi l202_2 rfl (b_rc (ci := 9) (by rfl) (by decide) (by decide +kernel)) (Nat.le_of_ble_eq_true rfl) (Nat.le_of_ble_eq_true rfl) rfl (r_X11_at v1 h1) fun w1 hw1 => b_pc (pc' := 5) rfl ?_
  refine b_w (pc' := 6) (lv1 := ax_st1 [(0, .ref 76), (1, bI v1), (2, bI v2)] 3 (bI w1)) (lv' := [(0, .ref 76), (2, bI v2), (3, bI w1)]) (st' := []) l202_5 (fun _ => rfl) (bSb rfl (bSb rfl (bSb rfl bSn))) ?_
  refine b_bipush l202_6 (by decide) (b_pc (pc' := 8) rfl ?_)
  refine b_s (pc' := 9) (lv1 := [(0, .ref 76), (2, bI v2), (3, bI w1)]) (st' := [bI w1, bI 8]) l202_8 (fun _ => rfl) ?_
  refine b_imul l202_9 fun g2 => (b_pc (pc' := 10) rfl ?_)
  refine b_w (pc' := 12) (lv1 := ax_st1 [(0, .ref 76), (2, bI v2), (3, bI w1)] 4 (bI (8 * w1))) (lv' := [(0, .ref 76), (2, bI v2), (3, bI w1), (4, bI (8 * w1))]) (st' := []) l202_10 (fun _ => rfl) (bSb rfl (bSb rfl (bSb rfl (bSb rfl bSn)))) ?_
  refine bD.wk (lv' := [(0, .ref 76), (2, bI v2), (3, bI w1), (4, bI (8 * w1))]) (bSb rfl (bSb rfl (bSb rfl (bSb rfl bSn)))) ?_
  exact p_X11_resolve_12 hr h2 hw1 g2
/-! ETModel.readEntries -/
theorem l201_0 : (ax_dt (ax_T 201)).lookup 0 = some (.aload_n 0, 1, 0, 0, 0) := by decide +kernel
theorem l201_1 : (ax_dt (ax_T 201)).lookup 1 = some (.getfield 13, 3, 9, 4, 0) := by decide +kernel
theorem l201_4 : (ax_dt (ax_T 201)).lookup 4 = some (.aload_n 0, 1, 0, 0, 0) := by decide +kernel
theorem l201_5 : (ax_dt (ax_T 201)).lookup 5 = some (.getfield 137, 3, 9, 3, 0) := by decide +kernel
theorem l201_8 : (ax_dt (ax_T 201)).lookup 8 = some (.iaload, 1, 0, 0, 0) := by decide +kernel
theorem l201_9 : (ax_dt (ax_T 201)).lookup 9 = some (.istore_n 1, 1, 0, 0, 0) := by decide +kernel
theorem l201_10 : (ax_dt (ax_T 201)).lookup 10 = some (.iconst (-1), 1, 0, 0, 0) := by decide +kernel
theorem l201_11 : (ax_dt (ax_T 201)).lookup 11 = some (.istore_n 2, 1, 0, 0, 0) := by decide +kernel
theorem l201_12 : (ax_dt (ax_T 201)).lookup 12 = some (.iconst 0, 1, 0, 0, 0) := by decide +kernel
theorem l201_13 : (ax_dt (ax_T 201)).lookup 13 = some (.istore_n 3, 1, 0, 0, 0) := by decide +kernel
theorem l201_14 : (ax_dt (ax_T 201)).lookup 14 = some (.iconst 1, 1, 0, 0, 0) := by decide +kernel
theorem l201_15 : (ax_dt (ax_T 201)).lookup 15 = some (.istore 4, 2, 0, 0, 0) := by decide +kernel
theorem l201_17 : (ax_dt (ax_T 201)).lookup 17 = some (.iload 4, 2, 0, 0, 0) := by decide +kernel
theorem l201_19 : (ax_dt (ax_T 201)).lookup 19 = some (.ifCond .eq 119, 3, 0, 0, 0) := by decide +kernel
theorem l201_22 : (ax_dt (ax_T 201)).lookup 22 = some (.aload_n 0, 1, 0, 0, 0) := by decide +kernel
theorem l201_23 : (ax_dt (ax_T 201)).lookup 23 = some (.getfield 300, 3, 9, 37, 0) := by decide +kernel
theorem l201_26 : (ax_dt (ax_T 201)).lookup 26 = some (.iconst (-1), 1, 0, 0, 0) := by decide +kernel
theorem l201_27 : (ax_dt (ax_T 201)).lookup 27 = some (.if_icmp .ne 111, 3, 0, 0, 0) := by decide +kernel
theorem l201_30 : (ax_dt (ax_T 201)).lookup 30 = some (.aload_n 0, 1, 0, 0, 0) := by decide +kernel
theorem l201_31 : (ax_dt (ax_T 201)).lookup 31 = some (.iload_n 2, 1, 0, 0, 0) := by decide +kernel
theorem l201_32 : (ax_dt (ax_T 201)).lookup 32 = some (.iload_n 3, 1, 0, 0, 0) := by decide +kernel
theorem l201_33 : (ax_dt (ax_T 201)).lookup 33 = some (.invokevirtual 382, 3, 200, 2, 0) := by decide +kernel
theorem l201_36 : (ax_dt (ax_T 201)).lookup 36 = some (.istore 5, 2, 0, 0, 0) := by decide +kernel
theorem l201_38 : (ax_dt (ax_T 201)).lookup 38 = some (.aload_n 0, 1, 0, 0, 0) := by decide +kernel
theorem l201_39 : (ax_dt (ax_T 201)).lookup 39 = some (.getfield 300, 3, 9, 37, 0) := by decide +kernel
theorem l201_42 : (ax_dt (ax_T 201)).lookup 42 = some (.iconst (-1), 1, 0, 0, 0) := by decide +kernel
theorem l201_43 : (ax_dt (ax_T 201)).lookup 43 = some (.if_icmp .ne 92, 3, 0, 0, 0) := by decide +kernel
theorem l201_46 : (ax_dt (ax_T 201)).lookup 46 = some (.iload 5, 2, 0, 0, 0) := by decide +kernel
theorem l201_48 : (ax_dt (ax_T 201)).lookup 48 = some (.iconst (-1), 1, 0, 0, 0) := by decide +kernel
theorem l201_49 : (ax_dt (ax_T 201)).lookup 49 = some (.if_icmp .ne 20, 3, 0, 0, 0) := by decide +kernel
theorem l201_52 : (ax_dt (ax_T 201)).lookup 52 = some (.aload_n 0, 1, 0, 0, 0) := by decide +kernel
theorem l201_53 : (ax_dt (ax_T 201)).lookup 53 = some (.getfield 26, 3, 9, 8, 0) := by decide +kernel
theorem l201_56 : (ax_dt (ax_T 201)).lookup 56 = some (.aload_n 0, 1, 0, 0, 0) := by decide +kernel
theorem l201_57 : (ax_dt (ax_T 201)).lookup 57 = some (.iload_n 2, 1, 0, 0, 0) := by decide +kernel
theorem l201_58 : (ax_dt (ax_T 201)).lookup 58 = some (.invokevirtual 140, 3, 140, 1, 0) := by decide +kernel
theorem l201_61 : (ax_dt (ax_T 201)).lookup 61 = some (.iaload, 1, 0, 0, 0) := by decide +kernel
theorem l201_62 : (ax_dt (ax_T 201)).lookup 62 = some (.istore_n 2, 1, 0, 0, 0) := by decide +kernel
theorem l201_63 : (ax_dt (ax_T 201)).lookup 63 = some (.iinc 3 (-1), 3, 0, 0, 0) := by decide +kernel
theorem l201_66 : (ax_dt (ax_T 201)).lookup 66 = some (.goto 57, 3, 0, 0, 0) := by decide +kernel
theorem l201_69 : (ax_dt (ax_T 201)).lookup 69 = some (.aload_n 0, 1, 0, 0, 0) := by decide +kernel
theorem l201_70 : (ax_dt (ax_T 201)).lookup 70 = some (.getfield 26, 3, 9, 8, 0) := by decide +kernel
theorem l201_73 : (ax_dt (ax_T 201)).lookup 73 = some (.aload_n 0, 1, 0, 0, 0) := by decide +kernel
theorem l201_74 : (ax_dt (ax_T 201)).lookup 74 = some (.iload 5, 2, 0, 0, 0) := by decide +kernel
theorem l201_76 : (ax_dt (ax_T 201)).lookup 76 = some (.invokevirtual 140, 3, 140, 1, 0) := by decide +kernel
theorem l201_79 : (ax_dt (ax_T 201)).lookup 79 = some (.iaload, 1, 0, 0, 0) := by decide +kernel
theorem l201_80 : (ax_dt (ax_T 201)).lookup 80 = some (.iconst (-1), 1, 0, 0, 0) := by decide +kernel
theorem l201_81 : (ax_dt (ax_T 201)).lookup 81 = some (.if_icmp .ne 29, 3, 0, 0, 0) := by decide +kernel
theorem l201_84 : (ax_dt (ax_T 201)).lookup 84 = some (.aload_n 0, 1, 0, 0, 0) := by decide +kernel
theorem l201_85 : (ax_dt (ax_T 201)).lookup 85 = some (.getfield 20, 3, 9, 6, 0) := by decide +kernel
theorem l201_88 : (ax_dt (ax_T 201)).lookup 88 = some (.bipush 6, 2, 0, 0, 0) := by decide +kernel
theorem l201_90 : (ax_dt (ax_T 201)).lookup 90 = some (.aload_n 0, 1, 0, 0, 0) := by decide +kernel
theorem l201_91 : (ax_dt (ax_T 201)).lookup 91 = some (.getfield 137, 3, 9, 3, 0) := by decide +kernel
theorem l201_94 : (ax_dt (ax_T 201)).lookup 94 = some (.imul, 1, 0, 0, 0) := by decide +kernel
theorem l201_95 : (ax_dt (ax_T 201)).lookup 95 = some (.aload_n 0, 1, 0, 0, 0) := by decide +kernel
theorem l201_96 : (ax_dt (ax_T 201)).lookup 96 = some (.getfield 17, 3, 9, 5, 0) := by decide +kernel
theorem l201_99 : (ax_dt (ax_T 201)).lookup 99 = some (.aload_n 0, 1, 0, 0, 0) := by decide +kernel
theorem l201_100 : (ax_dt (ax_T 201)).lookup 100 = some (.getfield 137, 3, 9, 3, 0) := by decide +kernel
theorem l201_103 : (ax_dt (ax_T 201)).lookup 103 = some (.iaload, 1, 0, 0, 0) := by decide +kernel
theorem l201_104 : (ax_dt (ax_T 201)).lookup 104 = some (.iadd, 1, 0, 0, 0) := by decide +kernel
theorem l201_105 : (ax_dt (ax_T 201)).lookup 105 = some (.iconst 1, 1, 0, 0, 0) := by decide +kernel
theorem l201_106 : (ax_dt (ax_T 201)).lookup 106 = some (.isub, 1, 0, 0, 0) := by decide +kernel
theorem l201_107 : (ax_dt (ax_T 201)).lookup 107 = some (.iload 5, 2, 0, 0, 0) := by decide +kernel
theorem l201_109 : (ax_dt (ax_T 201)).lookup 109 = some (.iastore, 1, 0, 0, 0) := by decide +kernel
theorem l201_110 : (ax_dt (ax_T 201)).lookup 110 = some (.aload_n 0, 1, 0, 0, 0) := by decide +kernel
theorem l201_111 : (ax_dt (ax_T 201)).lookup 111 = some (.getfield 378, 3, 9, 53, 0) := by decide +kernel
theorem l201_114 : (ax_dt (ax_T 201)).lookup 114 = some (.ifCond .eq 9, 3, 0, 0, 0) := by decide +kernel
theorem l201_117 : (ax_dt (ax_T 201)).lookup 117 = some (.iload 5, 2, 0, 0, 0) := by decide +kernel
theorem l201_119 : (ax_dt (ax_T 201)).lookup 119 = some (.istore_n 2, 1, 0, 0, 0) := by decide +kernel
theorem l201_120 : (ax_dt (ax_T 201)).lookup 120 = some (.iinc 3 1, 3, 0, 0, 0) := by decide +kernel
theorem l201_123 : (ax_dt (ax_T 201)).lookup 123 = some (.iload_n 2, 1, 0, 0, 0) := by decide +kernel
theorem l201_124 : (ax_dt (ax_T 201)).lookup 124 = some (.iconst (-1), 1, 0, 0, 0) := by decide +kernel
theorem l201_125 : (ax_dt (ax_T 201)).lookup 125 = some (.if_icmp .eq 7, 3, 0, 0, 0) := by decide +kernel
theorem l201_128 : (ax_dt (ax_T 201)).lookup 128 = some (.iconst 1, 1, 0, 0, 0) := by decide +kernel
theorem l201_129 : (ax_dt (ax_T 201)).lookup 129 = some (.goto 4, 3, 0, 0, 0) := by decide +kernel
theorem l201_132 : (ax_dt (ax_T 201)).lookup 132 = some (.iconst 0, 1, 0, 0, 0) := by decide +kernel
theorem l201_133 : (ax_dt (ax_T 201)).lookup 133 = some (.istore 4, 2, 0, 0, 0) := by decide +kernel
theorem l201_135 : (ax_dt (ax_T 201)).lookup 135 = some (.goto (-118), 3, 0, 0, 0) := by decide +kernel
theorem l201_138 : (ax_dt (ax_T 201)).lookup 138 = some (.aload_n 0, 1, 0, 0, 0) := by decide +kernel
theorem l201_139 : (ax_dt (ax_T 201)).lookup 139 = some (.getfield 300, 3, 9, 37, 0) := by decide +kernel
theorem l201_142 : (ax_dt (ax_T 201)).lookup 142 = some (.iconst (-1), 1, 0, 0, 0) := by decide +kernel
theorem l201_143 : (ax_dt (ax_T 201)).lookup 143 = some (.if_icmp .ne 24, 3, 0, 0, 0) := by decide +kernel
theorem l201_146 : (ax_dt (ax_T 201)).lookup 146 = some (.aload_n 0, 1, 0, 0, 0) := by decide +kernel
theorem l201_147 : (ax_dt (ax_T 201)).lookup 147 = some (.getfield 312, 3, 9, 40, 0) := by decide +kernel
theorem l201_150 : (ax_dt (ax_T 201)).lookup 150 = some (.aload_n 0, 1, 0, 0, 0) := by decide +kernel
theorem l201_151 : (ax_dt (ax_T 201)).lookup 151 = some (.getfield 315, 3, 9, 41, 0) := by decide +kernel
theorem l201_154 : (ax_dt (ax_T 201)).lookup 154 = some (.if_icmp .ge 13, 3, 0, 0, 0) := by decide +kernel
theorem l201_157 : (ax_dt (ax_T 201)).lookup 157 = some (.aload_n 0, 1, 0, 0, 0) := by decide +kernel
theorem l201_158 : (ax_dt (ax_T 201)).lookup 158 = some (.iconst 5, 1, 0, 0, 0) := by decide +kernel
theorem l201_159 : (ax_dt (ax_T 201)).lookup 159 = some (.iconst 0, 1, 0, 0, 0) := by decide +kernel
theorem l201_160 : (ax_dt (ax_T 201)).lookup 160 = some (.aload_n 0, 1, 0, 0, 0) := by decide +kernel
theorem l201_161 : (ax_dt (ax_T 201)).lookup 161 = some (.getfield 312, 3, 9, 40, 0) := by decide +kernel
theorem l201_164 : (ax_dt (ax_T 201)).lookup 164 = some (.invokevirtual 318, 3, 186, 3, 0) := by decide +kernel
theorem l201_167 : (ax_dt (ax_T 201)).lookup 167 = some (.iload_n 1, 1, 0, 0, 0) := by decide +kernel
theorem l201_168 : (ax_dt (ax_T 201)).lookup 168 = some (.istore 5, 2, 0, 0, 0) := by decide +kernel
theorem l201_170 : (ax_dt (ax_T 201)).lookup 170 = some (.iload 5, 2, 0, 0, 0) := by decide +kernel
theorem l201_172 : (ax_dt (ax_T 201)).lookup 172 = some (.aload_n 0, 1, 0, 0, 0) := by decide +kernel
theorem l201_173 : (ax_dt (ax_T 201)).lookup 173 = some (.getfield 13, 3, 9, 4, 0) := by decide +kernel
theorem l201_176 : (ax_dt (ax_T 201)).lookup 176 = some (.aload_n 0, 1, 0, 0, 0) := by decide +kernel
theorem l201_177 : (ax_dt (ax_T 201)).lookup 177 = some (.getfield 137, 3, 9, 3, 0) := by decide +kernel
theorem l201_180 : (ax_dt (ax_T 201)).lookup 180 = some (.iaload, 1, 0, 0, 0) := by decide +kernel
theorem l201_181 : (ax_dt (ax_T 201)).lookup 181 = some (.if_icmp .ge 24, 3, 0, 0, 0) := by decide +kernel
theorem l201_184 : (ax_dt (ax_T 201)).lookup 184 = some (.aload_n 0, 1, 0, 0, 0) := by decide +kernel
theorem l201_185 : (ax_dt (ax_T 201)).lookup 185 = some (.getfield 300, 3, 9, 37, 0) := by decide +kernel
theorem l201_188 : (ax_dt (ax_T 201)).lookup 188 = some (.iconst (-1), 1, 0, 0, 0) := by decide +kernel
theorem l201_189 : (ax_dt (ax_T 201)).lookup 189 = some (.if_icmp .ne 16, 3, 0, 0, 0) := by decide +kernel
theorem l201_192 : (ax_dt (ax_T 201)).lookup 192 = some (.aload_n 0, 1, 0, 0, 0) := by decide +kernel
theorem l201_193 : (ax_dt (ax_T 201)).lookup 193 = some (.iload 5, 2, 0, 0, 0) := by decide +kernel
theorem l201_195 : (ax_dt (ax_T 201)).lookup 195 = some (.iload_n 1, 1, 0, 0, 0) := by decide +kernel
theorem l201_196 : (ax_dt (ax_T 201)).lookup 196 = some (.invokevirtual 385, 3, 202, 2, 0) := by decide +kernel
theorem l201_199 : (ax_dt (ax_T 201)).lookup 199 = some (.iinc 5 1, 3, 0, 0, 0) := by decide +kernel
theorem l201_202 : (ax_dt (ax_T 201)).lookup 202 = some (.goto (-32), 3, 0, 0, 0) := by decide +kernel
theorem l201_205 : (ax_dt (ax_T 201)).lookup 205 = some (.return_, 1, 0, 0, 0) := by decide +kernel
noncomputable def F_X11_readEntries_110 (v1 : Int) (v2 : Int) (v3 : Int) (v5 : Int) (μ : bM) : Option ((Int × Int × Int × bM) ⊕ (Int × bM)) := if (μ 76 53) = 0 then if v2 = (-1) then some (.inl (v2, v3, 0, μ)) else some (.inl (v2, v3, 1, μ)) else bG (bR (v3 + 1)) (if v5 = (-1) then some (.inl (v5, (v3 + 1), 0, μ)) else some (.inl (v5, (v3 + 1), 1, μ)))
noncomputable def F_X11_readEntries_170 (v1 : Int) (v5 : Int) (μ : bM) : Option ((Int × bM) ⊕ (Int × bM)) := bG (0 ≤ (μ 76 3) ∧ (μ 76 3) < 2) (if (μ 78 (μ 76 3).toNat) ≤ v5 then some (.inr (0, μ)) else if ¬ (μ 76 37) = (-1) then some (.inr (0, μ)) else bMm (F_X11_resolve v5 v1 μ) (fun w3 μ4 => bG (bR (v5 + 1)) (some (.inl ((v5 + 1), μ4)))))
noncomputable def F_X11_readEntries_138 (v1 : Int) (μ : bM) : Option (Int × bM) := if ¬ (μ 76 37) = (-1) then bLoop (fun z => F_X11_readEntries_170 v1 z.1 z.2) (v1, μ) else if (μ 76 41) ≤ (μ 76 40) then bLoop (fun z => F_X11_readEntries_170 v1 z.1 z.2) (v1, μ) else bMm (F_X11_bad 5 0 (μ 76 40) μ) (fun w3 μ4 => bLoop (fun z => F_X11_readEntries_170 v1 z.1 z.2) (v1, μ4))
noncomputable def F_X11_readEntries_17 (v1 : Int) (v2 : Int) (v3 : Int) (v4 : Int) (μ : bM) : Option ((Int × Int × Int × bM) ⊕ (Int × bM)) := if v4 = 0 then bUp (F_X11_readEntries_138 v1 μ) else if ¬ (μ 76 37) = (-1) then bUp (F_X11_readEntries_138 v1 μ) else bMm (F_X11_readEntry v2 v3 μ) (fun w3 μ4 => if ¬ (μ4 76 37) = (-1) then some (.inl (v2, v3, v4, μ4)) else if ¬ w3 = (-1) then (F_X11_at w3 μ4).bind fun w8 => bG (0 ≤ w8 ∧ w8 < 800) (if ¬ (μ4 82 w8.toNat) = (-1) then F_X11_readEntries_110 v1 v2 v3 w3 μ4 else bG (bR (6 * (μ4 76 3))) (bG (0 ≤ (μ4 76 3) ∧ (μ4 76 3) < 2) (bG (bR ((6 * (μ4 76 3)) + (μ4 79 (μ4 76 3).toNat))) (bG (bR (((6 * (μ4 76 3)) + (μ4 79 (μ4 76 3).toNat)) - 1)) (bG (0 ≤ (((6 * (μ4 76 3)) + (μ4 79 (μ4 76 3).toNat)) - 1) ∧ (((6 * (μ4 76 3)) + (μ4 79 (μ4 76 3).toNat)) - 1) < 12) (F_X11_readEntries_110 v1 v2 v3 w3 (bset μ4 80 (((6 * (μ4 76 3)) + (μ4 79 (μ4 76 3).toNat)) - 1).toNat w3))))))) else (F_X11_at v2 μ4).bind fun w17 => bG (0 ≤ w17 ∧ w17 < 800) (bG (bR (v3 + (-1))) (if (μ4 82 w17.toNat) = (-1) then some (.inl ((μ4 82 w17.toNat), (v3 + (-1)), 0, μ4)) else some (.inl ((μ4 82 w17.toNat), (v3 + (-1)), 1, μ4)))))
noncomputable def F_X11_readEntries (μ : bM) : Option (Int × bM) := bG (0 ≤ (μ 76 3) ∧ (μ 76 3) < 2) (bLoop (fun z => F_X11_readEntries_17 (μ 78 (μ 76 3).toNat) z.1 z.2.1 z.2.2.1 z.2.2.2) ((-1), 0, 1, μ))
theorem p_X11_readEntries_110 {L : Nat} {xs : Nat → Int32} {d : Nat} {μ : bM} {v1 : Int} {κ : ((Int × Int × Int × bM) ⊕ (Int × bM)) → Option bX} (hr : ∀ r : Int × bM, κ (.inr r) = (bMc) r) (H17 : ∀ (v2 : Int) (v3 : Int) (v4 : Int) (μ : bM), bR v2 → bR v3 → bR v4 → bD L xs (d + 6) 201 17 [(0, .ref 76), (1, bI v1), (2, bI v2), (3, bI v3), (4, bI v4)] [] μ (κ (.inl (v2, v3, v4, μ))))  (h1 : bR v1) {v2 : Int} (h2 : bR v2) {v3 : Int} (h3 : bR v3) {v5 : Int} (h5 : bR v5) : bD L xs (d + 6) 201 110 [(0, .ref 76), (1, bI v1), (2, bI v2), (3, bI v3), (5, bI v5)] [] μ ((F_X11_readEntries_110 v1 v2 v3 v5 μ).bind κ) := by
  unfold F_X11_readEntries_110
  refine bD.ok fun hk => ?_
  refine b_s (pc' := 111) (lv1 := [(0, .ref 76), (1, bI v1), (2, bI v2), (3, bI v3), (5, bI v5)]) (st' := [.ref 76]) l201_110 (fun _ => rfl) ?_
  refine b_gz l201_111 (by rfl) (by decide) (by decide) rfl (b_pc (pc' := 114) rfl ?_)
  refine b_zeq (pt := 123) l201_114 (bO_fzr hk (ci := 9) (by rfl) rfl) (by decide) rfl (fun c1 => ?_) (fun c1 => b_pc (pc' := 117) rfl ?_)
  · refine b_s (pc' := 124) (lv1 := [(0, .ref 76), (1, bI v1), (2, bI v2), (3, bI v3), (5, bI v5)]) (st' := [bI v2]) l201_123 (fun _ => rfl) ?_
    refine b_s (pc' := 125) (lv1 := [(0, .ref 76), (1, bI v1), (2, bI v2), (3, bI v3), (5, bI v5)]) (st' := [bI (-1), bI v2]) l201_124 (fun _ => rfl) ?_
    refine b_ieq (pt := 132) l201_125 h2 (by decide) (by decide) rfl (fun c2 => ?_) (fun c2 => b_pc (pc' := 128) rfl ?_)
    · refine b_s (pc' := 133) (lv1 := [(0, .ref 76), (1, bI v1), (2, bI v2), (3, bI v3), (5, bI v5)]) (st' := [bI 0]) l201_132 (fun _ => rfl) ?_
      refine b_w (pc' := 135) (lv1 := ax_st1 [(0, .ref 76), (1, bI v1), (2, bI v2), (3, bI v3), (5, bI v5)] 4 (bI 0)) (lv' := [(0, .ref 76), (1, bI v1), (2, bI v2), (3, bI v3), (4, bI 0)]) (st' := []) l201_133 (fun _ => rfl) (bSb rfl (bSb rfl (bSb rfl (bSb rfl (bSb rfl bSn))))) ?_
      refine b_s (pc' := 17) (lv1 := [(0, .ref 76), (1, bI v1), (2, bI v2), (3, bI v3), (4, bI 0)]) (st' := []) l201_135 (fun _ => rfl) ?_
      refine bD.wk (lv' := [(0, .ref 76), (1, bI v1), (2, bI v2), (3, bI v3), (4, bI 0)]) (bSb rfl (bSb rfl (bSb rfl (bSb rfl (bSb rfl bSn))))) ?_
      exact H17 v2 v3 0 μ h2 h3 (by decide)
    · refine b_s (pc' := 129) (lv1 := [(0, .ref 76), (1, bI v1), (2, bI v2), (3, bI v3), (5, bI v5)]) (st' := [bI 1]) l201_128 (fun _ => rfl) ?_
      refine b_s (pc' := 133) (lv1 := [(0, .ref 76), (1, bI v1), (2, bI v2), (3, bI v3), (5, bI v5)]) (st' := [bI 1]) l201_129 (fun _ => rfl) ?_
      refine b_w (pc' := 135) (lv1 := ax_st1 [(0, .ref 76), (1, bI v1), (2, bI v2), (3, bI v3), (5, bI v5)] 4 (bI 1)) (lv' := [(0, .ref 76), (1, bI v1), (2, bI v2), (3, bI v3), (4, bI 1)]) (st' := []) l201_133 (fun _ => rfl) (bSb rfl (bSb rfl (bSb rfl (bSb rfl (bSb rfl bSn))))) ?_
      refine b_s (pc' := 17) (lv1 := [(0, .ref 76), (1, bI v1), (2, bI v2), (3, bI v3), (4, bI 1)]) (st' := []) l201_135 (fun _ => rfl) ?_
      refine bD.wk (lv' := [(0, .ref 76), (1, bI v1), (2, bI v2), (3, bI v3), (4, bI 1)]) (bSb rfl (bSb rfl (bSb rfl (bSb rfl (bSb rfl bSn))))) ?_
      exact H17 v2 v3 1 μ h2 h3 (by decide)
  · refine b_s (pc' := 119) (lv1 := [(0, .ref 76), (1, bI v1), (2, bI v2), (3, bI v3), (5, bI v5)]) (st' := [bI v5]) l201_117 (fun _ => rfl) ?_
    refine b_w (pc' := 120) (lv1 := ax_st1 [(0, .ref 76), (1, bI v1), (2, bI v2), (3, bI v3), (5, bI v5)] 2 (bI v5)) (lv' := [(0, .ref 76), (1, bI v1), (2, bI v5), (3, bI v3)]) (st' := []) l201_119 (fun _ => rfl) (bSb rfl (bSb rfl (bSb rfl (bSb rfl bSn)))) ?_
    refine b_inc (lv' := [(0, .ref 76), (1, bI v1), (2, bI v5), (3, bI (v3 + 1))]) l201_120 rfl (by decide +kernel) (bSb rfl (bSb rfl (bSb rfl (bSb rfl bSn)))) fun g3 => (b_pc (pc' := 123) rfl ?_)
    refine b_s (pc' := 124) (lv1 := [(0, .ref 76), (1, bI v1), (2, bI v5), (3, bI (v3 + 1))]) (st' := [bI v5]) l201_123 (fun _ => rfl) ?_
    refine b_s (pc' := 125) (lv1 := [(0, .ref 76), (1, bI v1), (2, bI v5), (3, bI (v3 + 1))]) (st' := [bI (-1), bI v5]) l201_124 (fun _ => rfl) ?_
    refine b_ieq (pt := 132) l201_125 h5 (by decide) (by decide) rfl (fun c4 => ?_) (fun c4 => b_pc (pc' := 128) rfl ?_)
    · refine b_s (pc' := 133) (lv1 := [(0, .ref 76), (1, bI v1), (2, bI v5), (3, bI (v3 + 1))]) (st' := [bI 0]) l201_132 (fun _ => rfl) ?_
      refine b_w (pc' := 135) (lv1 := ax_st1 [(0, .ref 76), (1, bI v1), (2, bI v5), (3, bI (v3 + 1))] 4 (bI 0)) (lv' := [(0, .ref 76), (1, bI v1), (2, bI v5), (3, bI (v3 + 1)), (4, bI 0)]) (st' := []) l201_133 (fun _ => rfl) (bSb rfl (bSb rfl (bSb rfl (bSb rfl (bSb rfl bSn))))) ?_
      refine b_s (pc' := 17) (lv1 := [(0, .ref 76), (1, bI v1), (2, bI v5), (3, bI (v3 + 1)), (4, bI 0)]) (st' := []) l201_135 (fun _ => rfl) ?_
      refine bD.wk (lv' := [(0, .ref 76), (1, bI v1), (2, bI v5), (3, bI (v3 + 1)), (4, bI 0)]) (bSb rfl (bSb rfl (bSb rfl (bSb rfl (bSb rfl bSn))))) ?_
      exact H17 v5 (v3 + 1) 0 μ h5 g3 (by decide)
    · refine b_s (pc' := 129) (lv1 := [(0, .ref 76), (1, bI v1), (2, bI v5), (3, bI (v3 + 1))]) (st' := [bI 1]) l201_128 (fun _ => rfl) ?_
      refine b_s (pc' := 133) (lv1 := [(0, .ref 76), (1, bI v1), (2, bI v5), (3, bI (v3 + 1))]) (st' := [bI 1]) l201_129 (fun _ => rfl) ?_
      refine b_w (pc' := 135) (lv1 := ax_st1 [(0, .ref 76), (1, bI v1), (2, bI v5), (3, bI (v3 + 1))] 4 (bI 1)) (lv' := [(0, .ref 76), (1, bI v1), (2, bI v5), (3, bI (v3 + 1)), (4, bI 1)]) (st' := []) l201_133 (fun _ => rfl) (bSb rfl (bSb rfl (bSb rfl (bSb rfl (bSb rfl bSn))))) ?_
      refine b_s (pc' := 17) (lv1 := [(0, .ref 76), (1, bI v1), (2, bI v5), (3, bI (v3 + 1)), (4, bI 1)]) (st' := []) l201_135 (fun _ => rfl) ?_
      refine bD.wk (lv' := [(0, .ref 76), (1, bI v1), (2, bI v5), (3, bI (v3 + 1)), (4, bI 1)]) (bSb rfl (bSb rfl (bSb rfl (bSb rfl (bSb rfl bSn))))) ?_
      exact H17 v5 (v3 + 1) 1 μ h5 g3 (by decide)
theorem q_X11_readEntries_170 {L : Nat} {xs : Nat → Int32} {d : Nat} {μ : bM} {v1 : Int} {κ : ((Int × bM) ⊕ (Int × bM)) → Option bX} (hr : ∀ r : Int × bM, κ (.inr r) = (bMc) r) (H170 : ∀ (v5 : Int) (μ : bM), bR v5 → bD L xs (d + 6) 201 170 [(0, .ref 76), (1, bI v1), (5, bI v5)] [] μ (κ (.inl (v5, μ))))  (h1 : bR v1) {v5 : Int} (h5 : bR v5) : bD L xs (d + 6) 201 170 [(0, .ref 76), (1, bI v1), (5, bI v5)] [] μ ((F_X11_readEntries_170 v1 v5 μ).bind κ) := by
  unfold F_X11_readEntries_170
  refine bD.ok fun hk => ?_
  refine b_s (pc' := 172) (lv1 := [(0, .ref 76), (1, bI v1), (5, bI v5)]) (st' := [bI v5]) l201_170 (fun _ => rfl) ?_
  refine b_s (pc' := 173) (lv1 := [(0, .ref 76), (1, bI v1), (5, bI v5)]) (st' := [.ref 76, bI v5]) l201_172 (fun _ => rfl) ?_
  refine b_gp (q' := 78) (j := 2) l201_173 (by rfl) (by decide) (by decide) rfl hk rfl rfl (b_pc (pc' := 176) rfl ?_)
  refine b_s (pc' := 177) (lv1 := [(0, .ref 76), (1, bI v1), (5, bI v5)]) (st' := [.ref 76, .ref 78, bI v5]) l201_176 (fun _ => rfl) ?_
  refine b_gi l201_177 (by rfl) (by decide) (by decide) rfl (b_pc (pc' := 180) rfl ?_)
  refine b_g fun g7 => ?_
  refine b_ial l201_180 (by rfl) g7 (b_pc (pc' := 181) rfl ?_)
  refine b_ige (pt := 205) l201_181 h5 (bO_i hk (by rfl)) (by decide) rfl (fun c1 => ?_) (fun c1 => b_pc (pc' := 184) rfl ?_)
  · exact b_retv l201_205 rfl (hr _)
  · refine b_s (pc' := 185) (lv1 := [(0, .ref 76), (1, bI v1), (5, bI v5)]) (st' := [.ref 76]) l201_184 (fun _ => rfl) ?_
    refine b_gi l201_185 (by rfl) (by decide) (by decide) rfl (b_pc (pc' := 188) rfl ?_)
    refine b_s (pc' := 189) (lv1 := [(0, .ref 76), (1, bI v1), (5, bI v5)]) (st' := [bI (-1), bI (μ 76 37)]) l201_188 (fun _ => rfl) ?_
    refine b_ine (pt := 205) l201_189 (bO_f hk (ci := 9) (by rfl) rfl) (by decide) (by decide) rfl (fun c2 => ?_) (fun c2 => b_pc (pc' := 192) rfl ?_)
    · exact b_retv l201_205 rfl (hr _)
    · refine b_s (pc' := 193) (lv1 := [(0, .ref 76), (1, bI v1), (5, bI v5)]) (st' := [.ref 76]) l201_192 (fun _ => rfl) ?_
      refine b_s (pc' := 195) (lv1 := [(0, .ref 76), (1, bI v1), (5, bI v5)]) (st' := [bI v5, .ref 76]) l201_193 (fun _ => rfl) ?_
      refine b_s (pc' := 196) (lv1 := [(0, .ref 76), (1, bI v1), (5, bI v5)]) (st' := [bI v1, bI v5, .ref 76]) l201_195 (fun _ => rfl) ?_
      refine b_cMv l201_196 rfl (b_rc (ci := 9) (by rfl) (by decide) (by decide +kernel)) (Nat.le_of_ble_eq_true rfl) (Nat.le_of_ble_eq_true rfl) rfl (r_X11_resolve v5 h5 v1 h1) fun w3 μ4 hw3 => bD.ok fun hk5 => b_pc (pc' := 199) rfl ?_
      refine b_inc (lv' := [(0, .ref 76), (1, bI v1), (5, bI (v5 + 1))]) l201_199 rfl (by decide +kernel) (bSb rfl (bSb rfl (bSb rfl bSn))) fun g6 => (b_pc (pc' := 202) rfl ?_)
      refine b_s (pc' := 170) (lv1 := [(0, .ref 76), (1, bI v1), (5, bI (v5 + 1))]) (st' := []) l201_202 (fun _ => rfl) ?_
      refine bD.wk (lv' := [(0, .ref 76), (1, bI v1), (5, bI (v5 + 1))]) (bSb rfl (bSb rfl (bSb rfl bSn))) ?_
      exact H170 (v5 + 1) μ4 g6
theorem p_X11_readEntries_170 {L : Nat} {xs : Nat → Int32} {d : Nat} {μ : bM}  {κ : (Int × bM) → Option bX} (hr : ∀ r : Int × bM, κ r = (bMc) r)  {v1 : Int} (h1 : bR v1) {v5 : Int} (h5 : bR v5) : bD L xs (d + 6) 201 170 [(0, .ref 76), (1, bI v1), (5, bI v5)] [] μ ((bLoop (fun z => F_X11_readEntries_170 v1 z.1 z.2) (v5, μ)).bind κ) :=
  b_loop (fun z => [(0, .ref 76), (1, bI v1), (5, bI z.1)]) (fun z => z.2) (fun z => bR z.1) (fun κ' hκ HH z hz => q_X11_readEntries_170 (κ := κ') (fun r => (hκ _).trans (hr r)) (fun a5 am b5 => HH (a5, am) b5)  h1 hz) (v5, μ) h5
theorem p_X11_readEntries_138 {L : Nat} {xs : Nat → Int32} {d : Nat} {μ : bM}  {κ : (Int × bM) → Option bX} (hr : ∀ r : Int × bM, κ r = (bMc) r)  {v1 : Int} (h1 : bR v1) : bD L xs (d + 6) 201 138 [(0, .ref 76), (1, bI v1)] [] μ ((F_X11_readEntries_138 v1 μ).bind κ) := by
  unfold F_X11_readEntries_138
  refine bD.ok fun hk => ?_
  refine b_s (pc' := 139) (lv1 := [(0, .ref 76), (1, bI v1)]) (st' := [.ref 76]) l201_138 (fun _ => rfl) ?_
  refine b_gi l201_139 (by rfl) (by decide) (by decide) rfl (b_pc (pc' := 142) rfl ?_)
  refine b_s (pc' := 143) (lv1 := [(0, .ref 76), (1, bI v1)]) (st' := [bI (-1), bI (μ 76 37)]) l201_142 (fun _ => rfl) ?_
  refine b_ine (pt := 167) l201_143 (bO_f hk (ci := 9) (by rfl) rfl) (by decide) (by decide) rfl (fun c1 => ?_) (fun c1 => b_pc (pc' := 146) rfl ?_)
  · refine b_s (pc' := 168) (lv1 := [(0, .ref 76), (1, bI v1)]) (st' := [bI v1]) l201_167 (fun _ => rfl) ?_
    refine b_w (pc' := 170) (lv1 := ax_st1 [(0, .ref 76), (1, bI v1)] 5 (bI v1)) (lv' := [(0, .ref 76), (1, bI v1), (5, bI v1)]) (st' := []) l201_168 (fun _ => rfl) (bSb rfl (bSb rfl (bSb rfl bSn))) ?_
    refine bD.wk (lv' := [(0, .ref 76), (1, bI v1), (5, bI v1)]) (bSb rfl (bSb rfl (bSb rfl bSn))) ?_
    exact p_X11_readEntries_170 hr h1 h1
  · refine b_s (pc' := 147) (lv1 := [(0, .ref 76), (1, bI v1)]) (st' := [.ref 76]) l201_146 (fun _ => rfl) ?_
    refine b_gi l201_147 (by rfl) (by decide) (by decide) rfl (b_pc (pc' := 150) rfl ?_)
    refine b_s (pc' := 151) (lv1 := [(0, .ref 76), (1, bI v1)]) (st' := [.ref 76, bI (μ 76 40)]) l201_150 (fun _ => rfl) ?_
    refine b_gi l201_151 (by rfl) (by decide) (by decide) rfl (b_pc (pc' := 154) rfl ?_)
    refine b_ige (pt := 167) l201_154 (bO_f hk (ci := 9) (by rfl) rfl) (bO_f hk (ci := 9) (by rfl) rfl) (by decide) rfl (fun c2 => ?_) (fun c2 => b_pc (pc' := 157) rfl ?_)
    · refine b_s (pc' := 168) (lv1 := [(0, .ref 76), (1, bI v1)]) (st' := [bI v1]) l201_167 (fun _ => rfl) ?_
      refine b_w (pc' := 170) (lv1 := ax_st1 [(0, .ref 76), (1, bI v1)] 5 (bI v1)) (lv' := [(0, .ref 76), (1, bI v1), (5, bI v1)]) (st' := []) l201_168 (fun _ => rfl) (bSb rfl (bSb rfl (bSb rfl bSn))) ?_
      refine bD.wk (lv' := [(0, .ref 76), (1, bI v1), (5, bI v1)]) (bSb rfl (bSb rfl (bSb rfl bSn))) ?_
      exact p_X11_readEntries_170 hr h1 h1
    · refine b_s (pc' := 158) (lv1 := [(0, .ref 76), (1, bI v1)]) (st' := [.ref 76]) l201_157 (fun _ => rfl) ?_
      refine b_s (pc' := 159) (lv1 := [(0, .ref 76), (1, bI v1)]) (st' := [bI 5, .ref 76]) l201_158 (fun _ => rfl) ?_
      refine b_s (pc' := 160) (lv1 := [(0, .ref 76), (1, bI v1)]) (st' := [bI 0, bI 5, .ref 76]) l201_159 (fun _ => rfl) ?_
      refine b_s (pc' := 161) (lv1 := [(0, .ref 76), (1, bI v1)]) (st' := [.ref 76, bI 0, bI 5, .ref 76]) l201_160 (fun _ => rfl) ?_
      refine b_gi l201_161 (by rfl) (by decide) (by decide) rfl (b_pc (pc' := 164) rfl ?_)
      refine b_cMv l201_164 rfl (b_rc (ci := 9) (by rfl) (by decide) (by decide +kernel)) (Nat.le_of_ble_eq_true rfl) (Nat.le_of_ble_eq_true rfl) rfl (r_X11_bad 5 (by decide) 0 (by decide) (μ 76 40) (bO_f hk (ci := 9) (by rfl) rfl)) fun w3 μ4 hw3 => bD.ok fun hk5 => b_pc (pc' := 167) rfl ?_
      refine b_s (pc' := 168) (lv1 := [(0, .ref 76), (1, bI v1)]) (st' := [bI v1]) l201_167 (fun _ => rfl) ?_
      refine b_w (pc' := 170) (lv1 := ax_st1 [(0, .ref 76), (1, bI v1)] 5 (bI v1)) (lv' := [(0, .ref 76), (1, bI v1), (5, bI v1)]) (st' := []) l201_168 (fun _ => rfl) (bSb rfl (bSb rfl (bSb rfl bSn))) ?_
      refine bD.wk (lv' := [(0, .ref 76), (1, bI v1), (5, bI v1)]) (bSb rfl (bSb rfl (bSb rfl bSn))) ?_
      exact p_X11_readEntries_170 hr h1 h1
theorem q_X11_readEntries_17 {L : Nat} {xs : Nat → Int32} {d : Nat} {μ : bM} {v1 : Int} {κ : ((Int × Int × Int × bM) ⊕ (Int × bM)) → Option bX} (hr : ∀ r : Int × bM, κ (.inr r) = (bMc) r) (H17 : ∀ (v2 : Int) (v3 : Int) (v4 : Int) (μ : bM), bR v2 → bR v3 → bR v4 → bD L xs (d + 6) 201 17 [(0, .ref 76), (1, bI v1), (2, bI v2), (3, bI v3), (4, bI v4)] [] μ (κ (.inl (v2, v3, v4, μ))))  (h1 : bR v1) {v2 : Int} (h2 : bR v2) {v3 : Int} (h3 : bR v3) {v4 : Int} (h4 : bR v4) : bD L xs (d + 6) 201 17 [(0, .ref 76), (1, bI v1), (2, bI v2), (3, bI v3), (4, bI v4)] [] μ ((F_X11_readEntries_17 v1 v2 v3 v4 μ).bind κ) := by
  unfold F_X11_readEntries_17
  refine bD.ok fun hk => ?_
  refine b_s (pc' := 19) (lv1 := [(0, .ref 76), (1, bI v1), (2, bI v2), (3, bI v3), (4, bI v4)]) (st' := [bI v4]) l201_17 (fun _ => rfl) ?_
  refine b_zeq (pt := 138) l201_19 h4 (by decide) rfl (fun c1 => ?_) (fun c1 => b_pc (pc' := 22) rfl ?_)
  · refine b_up (fun _ => rfl) ?_
    refine bD.wk (lv' := [(0, .ref 76), (1, bI v1)]) (bSb rfl (bSb rfl bSn)) ?_
    exact p_X11_readEntries_138 hr h1
  · refine b_s (pc' := 23) (lv1 := [(0, .ref 76), (1, bI v1), (2, bI v2), (3, bI v3), (4, bI v4)]) (st' := [.ref 76]) l201_22 (fun _ => rfl) ?_
    refine b_gi l201_23 (by rfl) (by decide) (by decide) rfl (b_pc (pc' := 26) rfl ?_)
    refine b_s (pc' := 27) (lv1 := [(0, .ref 76), (1, bI v1), (2, bI v2), (3, bI v3), (4, bI v4)]) (st' := [bI (-1), bI (μ 76 37)]) l201_26 (fun _ => rfl) ?_
    refine b_ine (pt := 138) l201_27 (bO_f hk (ci := 9) (by rfl) rfl) (by decide) (by decide) rfl (fun c2 => ?_) (fun c2 => b_pc (pc' := 30) rfl ?_)
    · refine b_up (fun _ => rfl) ?_
      refine bD.wk (lv' := [(0, .ref 76), (1, bI v1)]) (bSb rfl (bSb rfl bSn)) ?_
      exact p_X11_readEntries_138 hr h1
    · refine b_s (pc' := 31) (lv1 := [(0, .ref 76), (1, bI v1), (2, bI v2), (3, bI v3), (4, bI v4)]) (st' := [.ref 76]) l201_30 (fun _ => rfl) ?_
      refine b_s (pc' := 32) (lv1 := [(0, .ref 76), (1, bI v1), (2, bI v2), (3, bI v3), (4, bI v4)]) (st' := [bI v2, .ref 76]) l201_31 (fun _ => rfl) ?_
      refine b_s (pc' := 33) (lv1 := [(0, .ref 76), (1, bI v1), (2, bI v2), (3, bI v3), (4, bI v4)]) (st' := [bI v3, bI v2, .ref 76]) l201_32 (fun _ => rfl) ?_
      refine b_cMi l201_33 rfl (b_rc (ci := 9) (by rfl) (by decide) (by decide +kernel)) (Nat.le_of_ble_eq_true rfl) (Nat.le_of_ble_eq_true rfl) rfl (r_X11_readEntry v2 h2 v3 h3) fun w3 μ4 hw3 => bD.ok fun hk5 => b_pc (pc' := 36) rfl ?_
      refine b_w (pc' := 38) (lv1 := ax_st1 [(0, .ref 76), (1, bI v1), (2, bI v2), (3, bI v3), (4, bI v4)] 5 (bI w3)) (lv' := [(0, .ref 76), (1, bI v1), (2, bI v2), (3, bI v3), (4, bI v4), (5, bI w3)]) (st' := []) l201_36 (fun _ => rfl) (bSb rfl (bSb rfl (bSb rfl (bSb rfl (bSb rfl (bSb rfl bSn)))))) ?_
      refine b_s (pc' := 39) (lv1 := [(0, .ref 76), (1, bI v1), (2, bI v2), (3, bI v3), (4, bI v4), (5, bI w3)]) (st' := [.ref 76]) l201_38 (fun _ => rfl) ?_
      refine b_gi l201_39 (by rfl) (by decide) (by decide) rfl (b_pc (pc' := 42) rfl ?_)
      refine b_s (pc' := 43) (lv1 := [(0, .ref 76), (1, bI v1), (2, bI v2), (3, bI v3), (4, bI v4), (5, bI w3)]) (st' := [bI (-1), bI (μ4 76 37)]) l201_42 (fun _ => rfl) ?_
      refine b_ine (pt := 135) l201_43 (bO_f hk5 (ci := 9) (by rfl) rfl) (by decide) (by decide) rfl (fun c6 => ?_) (fun c6 => b_pc (pc' := 46) rfl ?_)
      · refine b_s (pc' := 17) (lv1 := [(0, .ref 76), (1, bI v1), (2, bI v2), (3, bI v3), (4, bI v4), (5, bI w3)]) (st' := []) l201_135 (fun _ => rfl) ?_
        refine bD.wk (lv' := [(0, .ref 76), (1, bI v1), (2, bI v2), (3, bI v3), (4, bI v4)]) (bSb rfl (bSb rfl (bSb rfl (bSb rfl (bSb rfl bSn))))) ?_
        exact H17 v2 v3 v4 μ4 h2 h3 h4
      · refine b_s (pc' := 48) (lv1 := [(0, .ref 76), (1, bI v1), (2, bI v2), (3, bI v3), (4, bI v4), (5, bI w3)]) (st' := [bI w3]) l201_46 (fun _ => rfl) ?_
        refine b_s (pc' := 49) (lv1 := [(0, .ref 76), (1, bI v1), (2, bI v2), (3, bI v3), (4, bI v4), (5, bI w3)]) (st' := [bI (-1), bI w3]) l201_48 (fun _ => rfl) ?_
        refine b_ine (pt := 69) l201_49 hw3 (by decide) (by decide) rfl (fun c7 => ?_) (fun c7 => b_pc (pc' := 52) rfl ?_)
        · refine b_s (pc' := 70) (lv1 := [(0, .ref 76), (1, bI v1), (2, bI v2), (3, bI v3), (4, bI v4), (5, bI w3)]) (st' := [.ref 76]) l201_69 (fun _ => rfl) ?_
          refine b_gp (q' := 82) (j := 6) l201_70 (by rfl) (by decide) (by decide) rfl hk5 rfl rfl (b_pc (pc' := 73) rfl ?_)
          refine b_s (pc' := 74) (lv1 := [(0, .ref 76), (1, bI v1), (2, bI v2), (3, bI v3), (4, bI v4), (5, bI w3)]) (st' := [.ref 76, .ref 82]) l201_73 (fun _ => rfl) ?_
          refine b_s (pc' := 76) (lv1 := [(0, .ref 76), (1, bI v1), (2, bI v2), (3, bI v3), (4, bI v4), (5, bI w3)]) (st' := [bI w3, .ref 76, .ref 82]) l201_74 (fun _ => rfl) ?_
          refine b_cPi l201_76 rfl (b_rc (ci := 9) (by rfl) (by decide) (by decide +kernel)) (Nat.le_of_ble_eq_true rfl) (Nat.le_of_ble_eq_true rfl) rfl (r_X11_at w3 hw3) fun w8 hw8 => b_pc (pc' := 79) rfl ?_
          refine b_g fun g16 => ?_
          refine b_ial l201_79 (by rfl) g16 (b_pc (pc' := 80) rfl ?_)
          refine b_s (pc' := 81) (lv1 := [(0, .ref 76), (1, bI v1), (2, bI v2), (3, bI v3), (4, bI v4), (5, bI w3)]) (st' := [bI (-1), bI (μ4 82 w8.toNat)]) l201_80 (fun _ => rfl) ?_
          refine b_ine (pt := 110) l201_81 (bO_i hk5 (by rfl)) (by decide) (by decide) rfl (fun c9 => ?_) (fun c9 => b_pc (pc' := 84) rfl ?_)
          · refine bD.wk (lv' := [(0, .ref 76), (1, bI v1), (2, bI v2), (3, bI v3), (5, bI w3)]) (bSb rfl (bSb rfl (bSb rfl (bSb rfl (bSb rfl bSn))))) ?_
            exact p_X11_readEntries_110 hr H17 h1 h2 h3 hw3
          · refine b_s (pc' := 85) (lv1 := [(0, .ref 76), (1, bI v1), (2, bI v2), (3, bI v3), (4, bI v4), (5, bI w3)]) (st' := [.ref 76]) l201_84 (fun _ => rfl) ?_
            refine b_gp (q' := 80) (j := 4) l201_85 (by rfl) (by decide) (by decide) rfl hk5 rfl rfl (b_pc (pc' := 88) rfl ?_)
            refine b_bipush l201_88 (by decide) (b_pc (pc' := 90) rfl ?_)
            refine b_s (pc' := 91) (lv1 := [(0, .ref 76), (1, bI v1), (2, bI v2), (3, bI v3), (4, bI v4), (5, bI w3)]) (st' := [.ref 76, bI 6, .ref 80]) l201_90 (fun _ => rfl) ?_
            refine b_gi l201_91 (by rfl) (by decide) (by decide) rfl (b_pc (pc' := 94) rfl ?_)
            refine b_imul l201_94 fun g10 => (b_pc (pc' := 95) rfl ?_)
            refine b_s (pc' := 96) (lv1 := [(0, .ref 76), (1, bI v1), (2, bI v2), (3, bI v3), (4, bI v4), (5, bI w3)]) (st' := [.ref 76, bI (6 * (μ4 76 3)), .ref 80]) l201_95 (fun _ => rfl) ?_
            refine b_gp (q' := 79) (j := 3) l201_96 (by rfl) (by decide) (by decide) rfl hk5 rfl rfl (b_pc (pc' := 99) rfl ?_)
            refine b_s (pc' := 100) (lv1 := [(0, .ref 76), (1, bI v1), (2, bI v2), (3, bI v3), (4, bI v4), (5, bI w3)]) (st' := [.ref 76, .ref 79, bI (6 * (μ4 76 3)), .ref 80]) l201_99 (fun _ => rfl) ?_
            refine b_gi l201_100 (by rfl) (by decide) (by decide) rfl (b_pc (pc' := 103) rfl ?_)
            refine b_g fun g15 => ?_
            refine b_ial l201_103 (by rfl) g15 (b_pc (pc' := 104) rfl ?_)
            refine b_iadd l201_104 fun g11 => (b_pc (pc' := 105) rfl ?_)
            refine b_s (pc' := 106) (lv1 := [(0, .ref 76), (1, bI v1), (2, bI v2), (3, bI v3), (4, bI v4), (5, bI w3)]) (st' := [bI 1, bI ((6 * (μ4 76 3)) + (μ4 79 (μ4 76 3).toNat)), .ref 80]) l201_105 (fun _ => rfl) ?_
            refine b_isub l201_106 fun g12 => (b_pc (pc' := 107) rfl ?_)
            refine b_s (pc' := 109) (lv1 := [(0, .ref 76), (1, bI v1), (2, bI v2), (3, bI v3), (4, bI v4), (5, bI w3)]) (st' := [bI w3, bI (((6 * (μ4 76 3)) + (μ4 79 (μ4 76 3).toNat)) - 1), .ref 80]) l201_107 (fun _ => rfl) ?_
            refine b_g fun g14 => ?_
            refine b_ias l201_109 (by rfl) g14 hw3 (bD.ok fun hk13 => b_pc (pc' := 110) rfl ?_)
            refine bD.wk (lv' := [(0, .ref 76), (1, bI v1), (2, bI v2), (3, bI v3), (5, bI w3)]) (bSb rfl (bSb rfl (bSb rfl (bSb rfl (bSb rfl bSn))))) ?_
            exact p_X11_readEntries_110 hr H17 h1 h2 h3 hw3
        · refine b_s (pc' := 53) (lv1 := [(0, .ref 76), (1, bI v1), (2, bI v2), (3, bI v3), (4, bI v4), (5, bI w3)]) (st' := [.ref 76]) l201_52 (fun _ => rfl) ?_
          refine b_gp (q' := 82) (j := 6) l201_53 (by rfl) (by decide) (by decide) rfl hk5 rfl rfl (b_pc (pc' := 56) rfl ?_)
          refine b_s (pc' := 57) (lv1 := [(0, .ref 76), (1, bI v1), (2, bI v2), (3, bI v3), (4, bI v4), (5, bI w3)]) (st' := [.ref 76, .ref 82]) l201_56 (fun _ => rfl) ?_
          refine b_s (pc' := 58) (lv1 := [(0, .ref 76), (1, bI v1), (2, bI v2), (3, bI v3), (4, bI v4), (5, bI w3)]) (st' := [bI v2, .ref 76, .ref 82]) l201_57 (fun _ => rfl) ?_
          refine b_cPi l201_58 rfl (b_rc (ci := 9) (by rfl) (by decide) (by decide +kernel)) (Nat.le_of_ble_eq_true rfl) (Nat.le_of_ble_eq_true rfl) rfl (r_X11_at v2 h2) fun w17 hw17 => b_pc (pc' := 61) rfl ?_
          refine b_g fun g20 => ?_
          refine b_ial l201_61 (by rfl) g20 (b_pc (pc' := 62) rfl ?_)
          refine b_w (pc' := 63) (lv1 := ax_st1 [(0, .ref 76), (1, bI v1), (2, bI v2), (3, bI v3), (4, bI v4), (5, bI w3)] 2 (bI (μ4 82 w17.toNat))) (lv' := [(0, .ref 76), (1, bI v1), (2, bI (μ4 82 w17.toNat)), (3, bI v3)]) (st' := []) l201_62 (fun _ => rfl) (bSb rfl (bSb rfl (bSb rfl (bSb rfl bSn)))) ?_
          refine b_inc (lv' := [(0, .ref 76), (1, bI v1), (2, bI (μ4 82 w17.toNat)), (3, bI (v3 + (-1)))]) l201_63 rfl (by decide +kernel) (bSb rfl (bSb rfl (bSb rfl (bSb rfl bSn)))) fun g18 => (b_pc (pc' := 66) rfl ?_)
          refine b_s (pc' := 123) (lv1 := [(0, .ref 76), (1, bI v1), (2, bI (μ4 82 w17.toNat)), (3, bI (v3 + (-1)))]) (st' := []) l201_66 (fun _ => rfl) ?_
          refine b_s (pc' := 124) (lv1 := [(0, .ref 76), (1, bI v1), (2, bI (μ4 82 w17.toNat)), (3, bI (v3 + (-1)))]) (st' := [bI (μ4 82 w17.toNat)]) l201_123 (fun _ => rfl) ?_
          refine b_s (pc' := 125) (lv1 := [(0, .ref 76), (1, bI v1), (2, bI (μ4 82 w17.toNat)), (3, bI (v3 + (-1)))]) (st' := [bI (-1), bI (μ4 82 w17.toNat)]) l201_124 (fun _ => rfl) ?_
          refine b_ieq (pt := 132) l201_125 (bO_i hk5 (by rfl)) (by decide) (by decide) rfl (fun c19 => ?_) (fun c19 => b_pc (pc' := 128) rfl ?_)
          · refine b_s (pc' := 133) (lv1 := [(0, .ref 76), (1, bI v1), (2, bI (μ4 82 w17.toNat)), (3, bI (v3 + (-1)))]) (st' := [bI 0]) l201_132 (fun _ => rfl) ?_
            refine b_w (pc' := 135) (lv1 := ax_st1 [(0, .ref 76), (1, bI v1), (2, bI (μ4 82 w17.toNat)), (3, bI (v3 + (-1)))] 4 (bI 0)) (lv' := [(0, .ref 76), (1, bI v1), (2, bI (μ4 82 w17.toNat)), (3, bI (v3 + (-1))), (4, bI 0)]) (st' := []) l201_133 (fun _ => rfl) (bSb rfl (bSb rfl (bSb rfl (bSb rfl (bSb rfl bSn))))) ?_
            refine b_s (pc' := 17) (lv1 := [(0, .ref 76), (1, bI v1), (2, bI (μ4 82 w17.toNat)), (3, bI (v3 + (-1))), (4, bI 0)]) (st' := []) l201_135 (fun _ => rfl) ?_
            refine bD.wk (lv' := [(0, .ref 76), (1, bI v1), (2, bI (μ4 82 w17.toNat)), (3, bI (v3 + (-1))), (4, bI 0)]) (bSb rfl (bSb rfl (bSb rfl (bSb rfl (bSb rfl bSn))))) ?_
            exact H17 (μ4 82 w17.toNat) (v3 + (-1)) 0 μ4 (bO_i hk5 (by rfl)) g18 (by decide)
          · refine b_s (pc' := 129) (lv1 := [(0, .ref 76), (1, bI v1), (2, bI (μ4 82 w17.toNat)), (3, bI (v3 + (-1)))]) (st' := [bI 1]) l201_128 (fun _ => rfl) ?_
            refine b_s (pc' := 133) (lv1 := [(0, .ref 76), (1, bI v1), (2, bI (μ4 82 w17.toNat)), (3, bI (v3 + (-1)))]) (st' := [bI 1]) l201_129 (fun _ => rfl) ?_
            refine b_w (pc' := 135) (lv1 := ax_st1 [(0, .ref 76), (1, bI v1), (2, bI (μ4 82 w17.toNat)), (3, bI (v3 + (-1)))] 4 (bI 1)) (lv' := [(0, .ref 76), (1, bI v1), (2, bI (μ4 82 w17.toNat)), (3, bI (v3 + (-1))), (4, bI 1)]) (st' := []) l201_133 (fun _ => rfl) (bSb rfl (bSb rfl (bSb rfl (bSb rfl (bSb rfl bSn))))) ?_
            refine b_s (pc' := 17) (lv1 := [(0, .ref 76), (1, bI v1), (2, bI (μ4 82 w17.toNat)), (3, bI (v3 + (-1))), (4, bI 1)]) (st' := []) l201_135 (fun _ => rfl) ?_
            refine bD.wk (lv' := [(0, .ref 76), (1, bI v1), (2, bI (μ4 82 w17.toNat)), (3, bI (v3 + (-1))), (4, bI 1)]) (bSb rfl (bSb rfl (bSb rfl (bSb rfl (bSb rfl bSn))))) ?_
            exact H17 (μ4 82 w17.toNat) (v3 + (-1)) 1 μ4 (bO_i hk5 (by rfl)) g18 (by decide)
theorem p_X11_readEntries_17 {L : Nat} {xs : Nat → Int32} {d : Nat} {μ : bM}  {κ : (Int × bM) → Option bX} (hr : ∀ r : Int × bM, κ r = (bMc) r)  {v1 : Int} (h1 : bR v1) {v2 : Int} (h2 : bR v2) {v3 : Int} (h3 : bR v3) {v4 : Int} (h4 : bR v4) : bD L xs (d + 6) 201 17 [(0, .ref 76), (1, bI v1), (2, bI v2), (3, bI v3), (4, bI v4)] [] μ ((bLoop (fun z => F_X11_readEntries_17 v1 z.1 z.2.1 z.2.2.1 z.2.2.2) (v2, v3, v4, μ)).bind κ) :=
  b_loop (fun z => [(0, .ref 76), (1, bI v1), (2, bI z.1), (3, bI z.2.1), (4, bI z.2.2.1)]) (fun z => z.2.2.2) (fun z => bR z.1 ∧ bR z.2.1 ∧ bR z.2.2.1) (fun κ' hκ HH z hz => q_X11_readEntries_17 (κ := κ') (fun r => (hκ _).trans (hr r)) (fun a2 a3 a4 am b2 b3 b4 => HH (a2, a3, a4, am) ⟨b2, b3, b4⟩)  h1 hz.1 hz.2.1 hz.2.2) (v2, v3, v4, μ) ⟨h2, h3, h4⟩
theorem r_X11_readEntries {L : Nat} {xs : Nat → Int32} {d : Nat} {μ : bM}   : bD L xs (d + 6) 201 0 [(0, .ref 76)] [] μ ((F_X11_readEntries μ).bind (bMc)) := by
  have hr : ∀ r, (bMc) r = (bMc) r := fun _ => rfl
  unfold F_X11_readEntries
  refine bD.ok fun hk => ?_
  refine b_s (pc' := 1) (lv1 := [(0, .ref 76)]) (st' := [.ref 76]) l201_0 (fun _ => rfl) ?_
  refine b_gp (q' := 78) (j := 2) l201_1 (by rfl) (by decide) (by decide) rfl hk rfl rfl (b_pc (pc' := 4) rfl ?_)
  refine b_s (pc' := 5) (lv1 := [(0, .ref 76)]) (st' := [.ref 76, .ref 78]) l201_4 (fun _ => rfl) ?_
  refine b_gi l201_5 (by rfl) (by decide) (by decide) rfl (b_pc (pc' := 8) rfl ?_)
  refine b_g fun g1 => ?_
  refine b_ial l201_8 (by rfl) g1 (b_pc (pc' := 9) rfl ?_)
  refine b_w (pc' := 10) (lv1 := ax_st1 [(0, .ref 76)] 1 (bI (μ 78 (μ 76 3).toNat))) (lv' := [(0, .ref 76), (1, bI (μ 78 (μ 76 3).toNat))]) (st' := []) l201_9 (fun _ => rfl) (bSb rfl (bSb rfl bSn)) ?_
  refine b_s (pc' := 11) (lv1 := [(0, .ref 76), (1, bI (μ 78 (μ 76 3).toNat))]) (st' := [bI (-1)]) l201_10 (fun _ => rfl) ?_
  refine b_w (pc' := 12) (lv1 := ax_st1 [(0, .ref 76), (1, bI (μ 78 (μ 76 3).toNat))] 2 (bI (-1))) (lv' := [(0, .ref 76), (1, bI (μ 78 (μ 76 3).toNat)), (2, bI (-1))]) (st' := []) l201_11 (fun _ => rfl) (bSb rfl (bSb rfl (bSb rfl bSn))) ?_
  refine b_s (pc' := 13) (lv1 := [(0, .ref 76), (1, bI (μ 78 (μ 76 3).toNat)), (2, bI (-1))]) (st' := [bI 0]) l201_12 (fun _ => rfl) ?_
  refine b_w (pc' := 14) (lv1 := ax_st1 [(0, .ref 76), (1, bI (μ 78 (μ 76 3).toNat)), (2, bI (-1))] 3 (bI 0)) (lv' := [(0, .ref 76), (1, bI (μ 78 (μ 76 3).toNat)), (2, bI (-1)), (3, bI 0)]) (st' := []) l201_13 (fun _ => rfl) (bSb rfl (bSb rfl (bSb rfl (bSb rfl bSn)))) ?_
  refine b_s (pc' := 15) (lv1 := [(0, .ref 76), (1, bI (μ 78 (μ 76 3).toNat)), (2, bI (-1)), (3, bI 0)]) (st' := [bI 1]) l201_14 (fun _ => rfl) ?_
  refine b_w (pc' := 17) (lv1 := ax_st1 [(0, .ref 76), (1, bI (μ 78 (μ 76 3).toNat)), (2, bI (-1)), (3, bI 0)] 4 (bI 1)) (lv' := [(0, .ref 76), (1, bI (μ 78 (μ 76 3).toNat)), (2, bI (-1)), (3, bI 0), (4, bI 1)]) (st' := []) l201_15 (fun _ => rfl) (bSb rfl (bSb rfl (bSb rfl (bSb rfl (bSb rfl bSn))))) ?_
  refine bD.wk (lv' := [(0, .ref 76), (1, bI (μ 78 (μ 76 3).toNat)), (2, bI (-1)), (3, bI 0), (4, bI 1)]) (bSb rfl (bSb rfl (bSb rfl (bSb rfl (bSb rfl bSn))))) ?_
  exact p_X11_readEntries_17 hr (bO_i hk (by rfl)) (by decide) (by decide) (by decide)
/-! ETModel.readUnit -/
theorem l203_0 : (ax_dt (ax_T 203)).lookup 0 = some (.aload_n 0, 1, 0, 0, 0) := by decide +kernel
theorem l203_1 : (ax_dt (ax_T 203)).lookup 1 = some (.iload_n 1, 1, 0, 0, 0) := by decide +kernel
theorem l203_2 : (ax_dt (ax_T 203)).lookup 2 = some (.putfield 372, 3, 9, 52, 0) := by decide +kernel
theorem l203_5 : (ax_dt (ax_T 203)).lookup 5 = some (.aload_n 0, 1, 0, 0, 0) := by decide +kernel
theorem l203_6 : (ax_dt (ax_T 203)).lookup 6 = some (.iconst 0, 1, 0, 0, 0) := by decide +kernel
theorem l203_7 : (ax_dt (ax_T 203)).lookup 7 = some (.putfield 309, 3, 9, 42, 0) := by decide +kernel
theorem l203_10 : (ax_dt (ax_T 203)).lookup 10 = some (.aload_n 0, 1, 0, 0, 0) := by decide +kernel
theorem l203_11 : (ax_dt (ax_T 203)).lookup 11 = some (.aload_n 0, 1, 0, 0, 0) := by decide +kernel
theorem l203_12 : (ax_dt (ax_T 203)).lookup 12 = some (.getfield 65, 3, 9, 20, 0) := by decide +kernel
theorem l203_15 : (ax_dt (ax_T 203)).lookup 15 = some (.iconst 0, 1, 0, 0, 0) := by decide +kernel
theorem l203_16 : (ax_dt (ax_T 203)).lookup 16 = some (.iaload, 1, 0, 0, 0) := by decide +kernel
theorem l203_17 : (ax_dt (ax_T 203)).lookup 17 = some (.putfield 315, 3, 9, 41, 0) := by decide +kernel
theorem l203_20 : (ax_dt (ax_T 203)).lookup 20 = some (.aload_n 0, 1, 0, 0, 0) := by decide +kernel
theorem l203_21 : (ax_dt (ax_T 203)).lookup 21 = some (.iload_n 1, 1, 0, 0, 0) := by decide +kernel
theorem l203_22 : (ax_dt (ax_T 203)).lookup 22 = some (.putfield 312, 3, 9, 40, 0) := by decide +kernel
theorem l203_25 : (ax_dt (ax_T 203)).lookup 25 = some (.aload_n 0, 1, 0, 0, 0) := by decide +kernel
theorem l203_26 : (ax_dt (ax_T 203)).lookup 26 = some (.getfield 17, 3, 9, 5, 0) := by decide +kernel
theorem l203_29 : (ax_dt (ax_T 203)).lookup 29 = some (.aload_n 0, 1, 0, 0, 0) := by decide +kernel
theorem l203_30 : (ax_dt (ax_T 203)).lookup 30 = some (.getfield 137, 3, 9, 3, 0) := by decide +kernel
theorem l203_33 : (ax_dt (ax_T 203)).lookup 33 = some (.iaload, 1, 0, 0, 0) := by decide +kernel
theorem l203_34 : (ax_dt (ax_T 203)).lookup 34 = some (.bipush 6, 2, 0, 0, 0) := by decide +kernel
theorem l203_36 : (ax_dt (ax_T 203)).lookup 36 = some (.if_icmp .ne 11, 3, 0, 0, 0) := by decide +kernel
theorem l203_39 : (ax_dt (ax_T 203)).lookup 39 = some (.aload_n 0, 1, 0, 0, 0) := by decide +kernel
theorem l203_40 : (ax_dt (ax_T 203)).lookup 40 = some (.bipush 8, 2, 0, 0, 0) := by decide +kernel
theorem l203_42 : (ax_dt (ax_T 203)).lookup 42 = some (.iconst 0, 1, 0, 0, 0) := by decide +kernel
theorem l203_43 : (ax_dt (ax_T 203)).lookup 43 = some (.iload_n 1, 1, 0, 0, 0) := by decide +kernel
theorem l203_44 : (ax_dt (ax_T 203)).lookup 44 = some (.invokevirtual 318, 3, 186, 3, 0) := by decide +kernel
theorem l203_47 : (ax_dt (ax_T 203)).lookup 47 = some (.aload_n 0, 1, 0, 0, 0) := by decide +kernel
theorem l203_48 : (ax_dt (ax_T 203)).lookup 48 = some (.iconst 4, 1, 0, 0, 0) := by decide +kernel
theorem l203_49 : (ax_dt (ax_T 203)).lookup 49 = some (.invokevirtual 343, 3, 189, 1, 0) := by decide +kernel
theorem l203_52 : (ax_dt (ax_T 203)).lookup 52 = some (.lstore_n 2, 1, 0, 0, 0) := by decide +kernel
theorem l203_53 : (ax_dt (ax_T 203)).lookup 53 = some (.aload_n 0, 1, 0, 0, 0) := by decide +kernel
theorem l203_54 : (ax_dt (ax_T 203)).lookup 54 = some (.getfield 300, 3, 9, 37, 0) := by decide +kernel
theorem l203_57 : (ax_dt (ax_T 203)).lookup 57 = some (.iconst (-1), 1, 0, 0, 0) := by decide +kernel
theorem l203_58 : (ax_dt (ax_T 203)).lookup 58 = some (.if_icmp .ne 29, 3, 0, 0, 0) := by decide +kernel
theorem l203_61 : (ax_dt (ax_T 203)).lookup 61 = some (.iload_n 1, 1, 0, 0, 0) := by decide +kernel
theorem l203_62 : (ax_dt (ax_T 203)).lookup 62 = some (.i2l, 1, 0, 0, 0) := by decide +kernel
theorem l203_63 : (ax_dt (ax_T 203)).lookup 63 = some (.ldc2_w 287, 3, 0, 0, 4) := by decide +kernel
theorem l203_66 : (ax_dt (ax_T 203)).lookup 66 = some (.ladd, 1, 0, 0, 0) := by decide +kernel
theorem l203_67 : (ax_dt (ax_T 203)).lookup 67 = some (.lload_n 2, 1, 0, 0, 0) := by decide +kernel
theorem l203_68 : (ax_dt (ax_T 203)).lookup 68 = some (.ladd, 1, 0, 0, 0) := by decide +kernel
theorem l203_69 : (ax_dt (ax_T 203)).lookup 69 = some (.aload_n 0, 1, 0, 0, 0) := by decide +kernel
theorem l203_70 : (ax_dt (ax_T 203)).lookup 70 = some (.getfield 65, 3, 9, 20, 0) := by decide +kernel
theorem l203_73 : (ax_dt (ax_T 203)).lookup 73 = some (.iconst 0, 1, 0, 0, 0) := by decide +kernel
theorem l203_74 : (ax_dt (ax_T 203)).lookup 74 = some (.iaload, 1, 0, 0, 0) := by decide +kernel
theorem l203_75 : (ax_dt (ax_T 203)).lookup 75 = some (.i2l, 1, 0, 0, 0) := by decide +kernel
theorem l203_76 : (ax_dt (ax_T 203)).lookup 76 = some (.lcmp, 1, 0, 0, 0) := by decide +kernel
theorem l203_77 : (ax_dt (ax_T 203)).lookup 77 = some (.ifCond .le 10, 3, 0, 0, 0) := by decide +kernel
theorem l203_80 : (ax_dt (ax_T 203)).lookup 80 = some (.aload_n 0, 1, 0, 0, 0) := by decide +kernel
theorem l203_81 : (ax_dt (ax_T 203)).lookup 81 = some (.iconst 2, 1, 0, 0, 0) := by decide +kernel
theorem l203_82 : (ax_dt (ax_T 203)).lookup 82 = some (.iconst 0, 1, 0, 0, 0) := by decide +kernel
theorem l203_83 : (ax_dt (ax_T 203)).lookup 83 = some (.iload_n 1, 1, 0, 0, 0) := by decide +kernel
theorem l203_84 : (ax_dt (ax_T 203)).lookup 84 = some (.invokevirtual 318, 3, 186, 3, 0) := by decide +kernel
theorem l203_87 : (ax_dt (ax_T 203)).lookup 87 = some (.aload_n 0, 1, 0, 0, 0) := by decide +kernel
theorem l203_88 : (ax_dt (ax_T 203)).lookup 88 = some (.getfield 300, 3, 9, 37, 0) := by decide +kernel
theorem l203_91 : (ax_dt (ax_T 203)).lookup 91 = some (.iconst (-1), 1, 0, 0, 0) := by decide +kernel
theorem l203_92 : (ax_dt (ax_T 203)).lookup 92 = some (.if_icmp .eq 4, 3, 0, 0, 0) := by decide +kernel
theorem l203_95 : (ax_dt (ax_T 203)).lookup 95 = some (.return_, 1, 0, 0, 0) := by decide +kernel
theorem l203_96 : (ax_dt (ax_T 203)).lookup 96 = some (.iload_n 1, 1, 0, 0, 0) := by decide +kernel
theorem l203_97 : (ax_dt (ax_T 203)).lookup 97 = some (.iconst 4, 1, 0, 0, 0) := by decide +kernel
theorem l203_98 : (ax_dt (ax_T 203)).lookup 98 = some (.iadd, 1, 0, 0, 0) := by decide +kernel
theorem l203_99 : (ax_dt (ax_T 203)).lookup 99 = some (.lload_n 2, 1, 0, 0, 0) := by decide +kernel
theorem l203_100 : (ax_dt (ax_T 203)).lookup 100 = some (.l2i, 1, 0, 0, 0) := by decide +kernel
theorem l203_101 : (ax_dt (ax_T 203)).lookup 101 = some (.iadd, 1, 0, 0, 0) := by decide +kernel
theorem l203_102 : (ax_dt (ax_T 203)).lookup 102 = some (.istore 4, 2, 0, 0, 0) := by decide +kernel
theorem l203_104 : (ax_dt (ax_T 203)).lookup 104 = some (.aload_n 0, 1, 0, 0, 0) := by decide +kernel
theorem l203_105 : (ax_dt (ax_T 203)).lookup 105 = some (.iload 4, 2, 0, 0, 0) := by decide +kernel
theorem l203_107 : (ax_dt (ax_T 203)).lookup 107 = some (.putfield 315, 3, 9, 41, 0) := by decide +kernel
theorem l203_110 : (ax_dt (ax_T 203)).lookup 110 = some (.aload_n 0, 1, 0, 0, 0) := by decide +kernel
theorem l203_111 : (ax_dt (ax_T 203)).lookup 111 = some (.iconst 2, 1, 0, 0, 0) := by decide +kernel
theorem l203_112 : (ax_dt (ax_T 203)).lookup 112 = some (.invokevirtual 343, 3, 189, 1, 0) := by decide +kernel
theorem l203_115 : (ax_dt (ax_T 203)).lookup 115 = some (.ldc2_w 287, 3, 0, 0, 4) := by decide +kernel
theorem l203_118 : (ax_dt (ax_T 203)).lookup 118 = some (.lcmp, 1, 0, 0, 0) := by decide +kernel
theorem l203_119 : (ax_dt (ax_T 203)).lookup 119 = some (.ifCond .eq 12, 3, 0, 0, 0) := by decide +kernel
theorem l203_122 : (ax_dt (ax_T 203)).lookup 122 = some (.aload_n 0, 1, 0, 0, 0) := by decide +kernel
theorem l203_123 : (ax_dt (ax_T 203)).lookup 123 = some (.iconst 2, 1, 0, 0, 0) := by decide +kernel
theorem l203_124 : (ax_dt (ax_T 203)).lookup 124 = some (.iconst 0, 1, 0, 0, 0) := by decide +kernel
theorem l203_125 : (ax_dt (ax_T 203)).lookup 125 = some (.iload_n 1, 1, 0, 0, 0) := by decide +kernel
theorem l203_126 : (ax_dt (ax_T 203)).lookup 126 = some (.iconst 4, 1, 0, 0, 0) := by decide +kernel
theorem l203_127 : (ax_dt (ax_T 203)).lookup 127 = some (.iadd, 1, 0, 0, 0) := by decide +kernel
theorem l203_128 : (ax_dt (ax_T 203)).lookup 128 = some (.invokevirtual 318, 3, 186, 3, 0) := by decide +kernel
theorem l203_131 : (ax_dt (ax_T 203)).lookup 131 = some (.aload_n 0, 1, 0, 0, 0) := by decide +kernel
theorem l203_132 : (ax_dt (ax_T 203)).lookup 132 = some (.iconst 4, 1, 0, 0, 0) := by decide +kernel
theorem l203_133 : (ax_dt (ax_T 203)).lookup 133 = some (.invokevirtual 343, 3, 189, 1, 0) := by decide +kernel
theorem l203_136 : (ax_dt (ax_T 203)).lookup 136 = some (.lstore 5, 2, 0, 0, 0) := by decide +kernel
theorem l203_138 : (ax_dt (ax_T 203)).lookup 138 = some (.aload_n 0, 1, 0, 0, 0) := by decide +kernel
theorem l203_139 : (ax_dt (ax_T 203)).lookup 139 = some (.getfield 300, 3, 9, 37, 0) := by decide +kernel
theorem l203_142 : (ax_dt (ax_T 203)).lookup 142 = some (.iconst (-1), 1, 0, 0, 0) := by decide +kernel
theorem l203_143 : (ax_dt (ax_T 203)).lookup 143 = some (.if_icmp .ne 26, 3, 0, 0, 0) := by decide +kernel
theorem l203_146 : (ax_dt (ax_T 203)).lookup 146 = some (.lload 5, 2, 0, 0, 0) := by decide +kernel
theorem l203_148 : (ax_dt (ax_T 203)).lookup 148 = some (.aload_n 0, 1, 0, 0, 0) := by decide +kernel
theorem l203_149 : (ax_dt (ax_T 203)).lookup 149 = some (.getfield 65, 3, 9, 20, 0) := by decide +kernel
theorem l203_152 : (ax_dt (ax_T 203)).lookup 152 = some (.iconst 1, 1, 0, 0, 0) := by decide +kernel
theorem l203_153 : (ax_dt (ax_T 203)).lookup 153 = some (.iaload, 1, 0, 0, 0) := by decide +kernel
theorem l203_154 : (ax_dt (ax_T 203)).lookup 154 = some (.i2l, 1, 0, 0, 0) := by decide +kernel
theorem l203_155 : (ax_dt (ax_T 203)).lookup 155 = some (.lcmp, 1, 0, 0, 0) := by decide +kernel
theorem l203_156 : (ax_dt (ax_T 203)).lookup 156 = some (.ifCond .le 13, 3, 0, 0, 0) := by decide +kernel
theorem l203_159 : (ax_dt (ax_T 203)).lookup 159 = some (.aload_n 0, 1, 0, 0, 0) := by decide +kernel
theorem l203_160 : (ax_dt (ax_T 203)).lookup 160 = some (.iconst 2, 1, 0, 0, 0) := by decide +kernel
theorem l203_161 : (ax_dt (ax_T 203)).lookup 161 = some (.iconst 0, 1, 0, 0, 0) := by decide +kernel
theorem l203_162 : (ax_dt (ax_T 203)).lookup 162 = some (.iload_n 1, 1, 0, 0, 0) := by decide +kernel
theorem l203_163 : (ax_dt (ax_T 203)).lookup 163 = some (.bipush 6, 2, 0, 0, 0) := by decide +kernel
theorem l203_165 : (ax_dt (ax_T 203)).lookup 165 = some (.iadd, 1, 0, 0, 0) := by decide +kernel
theorem l203_166 : (ax_dt (ax_T 203)).lookup 166 = some (.invokevirtual 318, 3, 186, 3, 0) := by decide +kernel
theorem l203_169 : (ax_dt (ax_T 203)).lookup 169 = some (.aload_n 0, 1, 0, 0, 0) := by decide +kernel
theorem l203_170 : (ax_dt (ax_T 203)).lookup 170 = some (.iconst 1, 1, 0, 0, 0) := by decide +kernel
theorem l203_171 : (ax_dt (ax_T 203)).lookup 171 = some (.invokevirtual 343, 3, 189, 1, 0) := by decide +kernel
theorem l203_174 : (ax_dt (ax_T 203)).lookup 174 = some (.ldc2_w 389, 3, 0, 0, 8) := by decide +kernel
theorem l203_177 : (ax_dt (ax_T 203)).lookup 177 = some (.lcmp, 1, 0, 0, 0) := by decide +kernel
theorem l203_178 : (ax_dt (ax_T 203)).lookup 178 = some (.ifCond .eq 13, 3, 0, 0, 0) := by decide +kernel
theorem l203_181 : (ax_dt (ax_T 203)).lookup 181 = some (.aload_n 0, 1, 0, 0, 0) := by decide +kernel
theorem l203_182 : (ax_dt (ax_T 203)).lookup 182 = some (.iconst 2, 1, 0, 0, 0) := by decide +kernel
theorem l203_183 : (ax_dt (ax_T 203)).lookup 183 = some (.iconst 0, 1, 0, 0, 0) := by decide +kernel
theorem l203_184 : (ax_dt (ax_T 203)).lookup 184 = some (.iload_n 1, 1, 0, 0, 0) := by decide +kernel
theorem l203_185 : (ax_dt (ax_T 203)).lookup 185 = some (.bipush 10, 2, 0, 0, 0) := by decide +kernel
theorem l203_187 : (ax_dt (ax_T 203)).lookup 187 = some (.iadd, 1, 0, 0, 0) := by decide +kernel
theorem l203_188 : (ax_dt (ax_T 203)).lookup 188 = some (.invokevirtual 318, 3, 186, 3, 0) := by decide +kernel
theorem l203_191 : (ax_dt (ax_T 203)).lookup 191 = some (.aload_n 0, 1, 0, 0, 0) := by decide +kernel
theorem l203_192 : (ax_dt (ax_T 203)).lookup 192 = some (.getfield 300, 3, 9, 37, 0) := by decide +kernel
theorem l203_195 : (ax_dt (ax_T 203)).lookup 195 = some (.iconst (-1), 1, 0, 0, 0) := by decide +kernel
theorem l203_196 : (ax_dt (ax_T 203)).lookup 196 = some (.if_icmp .ne 38, 3, 0, 0, 0) := by decide +kernel
theorem l203_199 : (ax_dt (ax_T 203)).lookup 199 = some (.aload_n 0, 1, 0, 0, 0) := by decide +kernel
theorem l203_200 : (ax_dt (ax_T 203)).lookup 200 = some (.getfield 17, 3, 9, 5, 0) := by decide +kernel
theorem l203_203 : (ax_dt (ax_T 203)).lookup 203 = some (.aload_n 0, 1, 0, 0, 0) := by decide +kernel
theorem l203_204 : (ax_dt (ax_T 203)).lookup 204 = some (.getfield 137, 3, 9, 3, 0) := by decide +kernel
theorem l203_207 : (ax_dt (ax_T 203)).lookup 207 = some (.iaload, 1, 0, 0, 0) := by decide +kernel
theorem l203_208 : (ax_dt (ax_T 203)).lookup 208 = some (.ifCond .eq 13, 3, 0, 0, 0) := by decide +kernel
theorem l203_211 : (ax_dt (ax_T 203)).lookup 211 = some (.lload 5, 2, 0, 0, 0) := by decide +kernel
theorem l203_213 : (ax_dt (ax_T 203)).lookup 213 = some (.aload_n 0, 1, 0, 0, 0) := by decide +kernel
theorem l203_214 : (ax_dt (ax_T 203)).lookup 214 = some (.getfield 391, 3, 9, 54, 0) := by decide +kernel
theorem l203_217 : (ax_dt (ax_T 203)).lookup 217 = some (.lcmp, 1, 0, 0, 0) := by decide +kernel
theorem l203_218 : (ax_dt (ax_T 203)).lookup 218 = some (.ifCond .eq 16, 3, 0, 0, 0) := by decide +kernel
theorem l203_221 : (ax_dt (ax_T 203)).lookup 221 = some (.aload_n 0, 1, 0, 0, 0) := by decide +kernel
theorem l203_222 : (ax_dt (ax_T 203)).lookup 222 = some (.lload 5, 2, 0, 0, 0) := by decide +kernel
theorem l203_224 : (ax_dt (ax_T 203)).lookup 224 = some (.l2i, 1, 0, 0, 0) := by decide +kernel
theorem l203_225 : (ax_dt (ax_T 203)).lookup 225 = some (.invokevirtual 395, 3, 191, 1, 0) := by decide +kernel
theorem l203_228 : (ax_dt (ax_T 203)).lookup 228 = some (.aload_n 0, 1, 0, 0, 0) := by decide +kernel
theorem l203_229 : (ax_dt (ax_T 203)).lookup 229 = some (.lload 5, 2, 0, 0, 0) := by decide +kernel
theorem l203_231 : (ax_dt (ax_T 203)).lookup 231 = some (.putfield 391, 3, 9, 54, 0) := by decide +kernel
theorem l203_234 : (ax_dt (ax_T 203)).lookup 234 = some (.aload_n 0, 1, 0, 0, 0) := by decide +kernel
theorem l203_235 : (ax_dt (ax_T 203)).lookup 235 = some (.getfield 300, 3, 9, 37, 0) := by decide +kernel
theorem l203_238 : (ax_dt (ax_T 203)).lookup 238 = some (.iconst (-1), 1, 0, 0, 0) := by decide +kernel
theorem l203_239 : (ax_dt (ax_T 203)).lookup 239 = some (.if_icmp .eq 4, 3, 0, 0, 0) := by decide +kernel
theorem l203_242 : (ax_dt (ax_T 203)).lookup 242 = some (.return_, 1, 0, 0, 0) := by decide +kernel
theorem l203_243 : (ax_dt (ax_T 203)).lookup 243 = some (.aload_n 0, 1, 0, 0, 0) := by decide +kernel
theorem l203_244 : (ax_dt (ax_T 203)).lookup 244 = some (.getfield 17, 3, 9, 5, 0) := by decide +kernel
theorem l203_247 : (ax_dt (ax_T 203)).lookup 247 = some (.aload_n 0, 1, 0, 0, 0) := by decide +kernel
theorem l203_248 : (ax_dt (ax_T 203)).lookup 248 = some (.getfield 137, 3, 9, 3, 0) := by decide +kernel
theorem l203_251 : (ax_dt (ax_T 203)).lookup 251 = some (.dup2, 1, 0, 0, 0) := by decide +kernel
theorem l203_252 : (ax_dt (ax_T 203)).lookup 252 = some (.iaload, 1, 0, 0, 0) := by decide +kernel
theorem l203_253 : (ax_dt (ax_T 203)).lookup 253 = some (.iconst 1, 1, 0, 0, 0) := by decide +kernel
theorem l203_254 : (ax_dt (ax_T 203)).lookup 254 = some (.iadd, 1, 0, 0, 0) := by decide +kernel
theorem l203_255 : (ax_dt (ax_T 203)).lookup 255 = some (.iastore, 1, 0, 0, 0) := by decide +kernel
theorem l203_256 : (ax_dt (ax_T 203)).lookup 256 = some (.aload_n 0, 1, 0, 0, 0) := by decide +kernel
theorem l203_257 : (ax_dt (ax_T 203)).lookup 257 = some (.iconst 0, 1, 0, 0, 0) := by decide +kernel
theorem l203_258 : (ax_dt (ax_T 203)).lookup 258 = some (.putfield 309, 3, 9, 42, 0) := by decide +kernel
theorem l203_261 : (ax_dt (ax_T 203)).lookup 261 = some (.aload_n 0, 1, 0, 0, 0) := by decide +kernel
theorem l203_262 : (ax_dt (ax_T 203)).lookup 262 = some (.iload_n 1, 1, 0, 0, 0) := by decide +kernel
theorem l203_263 : (ax_dt (ax_T 203)).lookup 263 = some (.bipush 11, 2, 0, 0, 0) := by decide +kernel
theorem l203_265 : (ax_dt (ax_T 203)).lookup 265 = some (.iadd, 1, 0, 0, 0) := by decide +kernel
theorem l203_266 : (ax_dt (ax_T 203)).lookup 266 = some (.putfield 312, 3, 9, 40, 0) := by decide +kernel
theorem l203_269 : (ax_dt (ax_T 203)).lookup 269 = some (.aload_n 0, 1, 0, 0, 0) := by decide +kernel
theorem l203_270 : (ax_dt (ax_T 203)).lookup 270 = some (.iload 4, 2, 0, 0, 0) := by decide +kernel
theorem l203_272 : (ax_dt (ax_T 203)).lookup 272 = some (.putfield 315, 3, 9, 41, 0) := by decide +kernel
theorem l203_275 : (ax_dt (ax_T 203)).lookup 275 = some (.aload_n 0, 1, 0, 0, 0) := by decide +kernel
theorem l203_276 : (ax_dt (ax_T 203)).lookup 276 = some (.invokevirtual 398, 3, 201, 0, 0) := by decide +kernel
theorem l203_279 : (ax_dt (ax_T 203)).lookup 279 = some (.aload_n 0, 1, 0, 0, 0) := by decide +kernel
theorem l203_280 : (ax_dt (ax_T 203)).lookup 280 = some (.iload 4, 2, 0, 0, 0) := by decide +kernel
theorem l203_282 : (ax_dt (ax_T 203)).lookup 282 = some (.putfield 312, 3, 9, 40, 0) := by decide +kernel
theorem l203_285 : (ax_dt (ax_T 203)).lookup 285 = some (.return_, 1, 0, 0, 0) := by decide +kernel
noncomputable def F_X11_readUnit_234 (v1 : Int) (v4 : Int) (μ : bM) : Option (Int × bM) := if (μ 76 37) = (-1) then bG (0 ≤ (μ 76 3) ∧ (μ 76 3) < 2) (bG (bR ((μ 79 (μ 76 3).toNat) + 1)) (bG (0 ≤ (μ 76 3) ∧ (μ 76 3) < 2) (bG (bR (v1 + 11)) (bMm (F_X11_readEntries (bset (bset (bset (bset μ 79 (μ 76 3).toNat ((μ 79 (μ 76 3).toNat) + 1)) 76 42 0) 76 40 (v1 + 11)) 76 41 v4)) (fun w8 μ9 => some (0, (bset μ9 76 40 v4))))))) else some (0, μ)
noncomputable def F_X11_readUnit_221 (v1 : Int) (v4 : Int) (v5 : Int) (μ : bM) : Option (Int × bM) := bMm (F_X11_readTable (b32 v5) μ) (fun w1 μ2 => F_X11_readUnit_234 v1 v4 (bset μ2 76 54 v5))
noncomputable def F_X11_readUnit_191 (v1 : Int) (v4 : Int) (v5 : Int) (μ : bM) : Option (Int × bM) := if ¬ (μ 76 37) = (-1) then F_X11_readUnit_234 v1 v4 μ else bG (0 ≤ (μ 76 3) ∧ (μ 76 3) < 2) (if (μ 79 (μ 76 3).toNat) = 0 then F_X11_readUnit_221 v1 v4 v5 μ else if (bCmp v5 (μ 76 54)) = 0 then F_X11_readUnit_234 v1 v4 μ else F_X11_readUnit_221 v1 v4 v5 μ)
noncomputable def F_X11_readUnit_169 (v1 : Int) (v4 : Int) (v5 : Int) (μ : bM) : Option (Int × bM) := bMm (F_X11_fixed 1 μ) (fun w1 μ2 => if (bCmp w1 8) = 0 then F_X11_readUnit_191 v1 v4 v5 μ2 else bG (bR (v1 + 10)) (bMm (F_X11_bad 2 0 (v1 + 10) μ2) (fun w6 μ7 => F_X11_readUnit_191 v1 v4 v5 μ7)))
noncomputable def F_X11_readUnit_131 (v1 : Int) (v4 : Int) (μ : bM) : Option (Int × bM) := bMm (F_X11_fixed 4 μ) (fun w1 μ2 => if ¬ (μ2 76 37) = (-1) then F_X11_readUnit_169 v1 v4 w1 μ2 else if (bCmp w1 (μ2 94 1)) ≤ 0 then F_X11_readUnit_169 v1 v4 w1 μ2 else bG (bR (v1 + 6)) (bMm (F_X11_bad 2 0 (v1 + 6) μ2) (fun w7 μ8 => F_X11_readUnit_169 v1 v4 w1 μ8)))
noncomputable def F_X11_readUnit_87 (v1 : Int) (v2 : Int) (μ : bM) : Option (Int × bM) := if (μ 76 37) = (-1) then bG (bR (v1 + 4)) (bG (bR ((v1 + 4) + (b32 v2))) (bMm (F_X11_fixed 2 (bset μ 76 41 ((v1 + 4) + (b32 v2)))) (fun w5 μ6 => if (bCmp w5 4) = 0 then F_X11_readUnit_131 v1 ((v1 + 4) + (b32 v2)) μ6 else bG (bR (v1 + 4)) (bMm (F_X11_bad 2 0 (v1 + 4) μ6) (fun w10 μ11 => F_X11_readUnit_131 v1 ((v1 + 4) + (b32 v2)) μ11))))) else some (0, μ)
noncomputable def F_X11_readUnit_47 (v1 : Int) (μ : bM) : Option (Int × bM) := bMm (F_X11_fixed 4 μ) (fun w1 μ2 => if ¬ (μ2 76 37) = (-1) then F_X11_readUnit_87 v1 w1 μ2 else bG (bRL (v1 + 4)) (bG (bRL ((v1 + 4) + w1)) (if (bCmp ((v1 + 4) + w1) (μ2 94 0)) ≤ 0 then F_X11_readUnit_87 v1 w1 μ2 else bMm (F_X11_bad 2 0 v1 μ2) (fun w8 μ9 => F_X11_readUnit_87 v1 w1 μ9))))
noncomputable def F_X11_readUnit (v1 : Int) (μ : bM) : Option (Int × bM) := bG (0 ≤ ((bset (bset (bset (bset μ 76 52 v1) 76 42 0) 76 41 ((bset (bset μ 76 52 v1) 76 42 0) 94 0)) 76 40 v1) 76 3) ∧ ((bset (bset (bset (bset μ 76 52 v1) 76 42 0) 76 41 ((bset (bset μ 76 52 v1) 76 42 0) 94 0)) 76 40 v1) 76 3) < 2) (if ¬ ((bset (bset (bset (bset μ 76 52 v1) 76 42 0) 76 41 ((bset (bset μ 76 52 v1) 76 42 0) 94 0)) 76 40 v1) 79 ((bset (bset (bset (bset μ 76 52 v1) 76 42 0) 76 41 ((bset (bset μ 76 52 v1) 76 42 0) 94 0)) 76 40 v1) 76 3).toNat) = 6 then F_X11_readUnit_47 v1 (bset (bset (bset (bset μ 76 52 v1) 76 42 0) 76 41 ((bset (bset μ 76 52 v1) 76 42 0) 94 0)) 76 40 v1) else bMm (F_X11_bad 8 0 v1 (bset (bset (bset (bset μ 76 52 v1) 76 42 0) 76 41 ((bset (bset μ 76 52 v1) 76 42 0) 94 0)) 76 40 v1)) (fun w6 μ7 => F_X11_readUnit_47 v1 μ7))
theorem p_X11_readUnit_234 {L : Nat} {xs : Nat → Int32} {d : Nat} {μ : bM}  {κ : (Int × bM) → Option bX} (hr : ∀ r : Int × bM, κ r = (bMc) r)  {v1 : Int} (h1 : bR v1) {v4 : Int} (h4 : bR v4) : bD L xs (d + 7) 203 234 [(0, .ref 76), (1, bI v1), (4, bI v4)] [] μ ((F_X11_readUnit_234 v1 v4 μ).bind κ) := by
  unfold F_X11_readUnit_234
  refine bD.ok fun hk => ?_
  refine b_s (pc' := 235) (lv1 := [(0, .ref 76), (1, bI v1), (4, bI v4)]) (st' := [.ref 76]) l203_234 (fun _ => rfl) ?_
  refine b_gi l203_235 (by rfl) (by decide) (by decide) rfl (b_pc (pc' := 238) rfl ?_)
  refine b_s (pc' := 239) (lv1 := [(0, .ref 76), (1, bI v1), (4, bI v4)]) (st' := [bI (-1), bI (μ 76 37)]) l203_238 (fun _ => rfl) ?_
  refine b_ieq (pt := 243) l203_239 (bO_f hk (ci := 9) (by rfl) rfl) (by decide) (by decide) rfl (fun c1 => ?_) (fun c1 => b_pc (pc' := 242) rfl ?_)
  · refine b_s (pc' := 244) (lv1 := [(0, .ref 76), (1, bI v1), (4, bI v4)]) (st' := [.ref 76]) l203_243 (fun _ => rfl) ?_
    refine b_gp (q' := 79) (j := 3) l203_244 (by rfl) (by decide) (by decide) rfl hk rfl rfl (b_pc (pc' := 247) rfl ?_)
    refine b_s (pc' := 248) (lv1 := [(0, .ref 76), (1, bI v1), (4, bI v4)]) (st' := [.ref 76, .ref 79]) l203_247 (fun _ => rfl) ?_
    refine b_gi l203_248 (by rfl) (by decide) (by decide) rfl (b_pc (pc' := 251) rfl ?_)
    refine b_s (pc' := 252) (lv1 := [(0, .ref 76), (1, bI v1), (4, bI v4)]) (st' := [bI (μ 76 3), .ref 79, bI (μ 76 3), .ref 79]) l203_251 (fun _ => rfl) ?_
    refine b_g fun g13 => ?_
    refine b_ial l203_252 (by rfl) g13 (b_pc (pc' := 253) rfl ?_)
    refine b_s (pc' := 254) (lv1 := [(0, .ref 76), (1, bI v1), (4, bI v4)]) (st' := [bI 1, bI (μ 79 (μ 76 3).toNat), bI (μ 76 3), .ref 79]) l203_253 (fun _ => rfl) ?_
    refine b_iadd l203_254 fun g2 => (b_pc (pc' := 255) rfl ?_)
    refine b_g fun g12 => ?_
    refine b_ias l203_255 (by rfl) g12 g2 (bD.ok fun hk3 => b_pc (pc' := 256) rfl ?_)
    refine b_s (pc' := 257) (lv1 := [(0, .ref 76), (1, bI v1), (4, bI v4)]) (st' := [.ref 76]) l203_256 (fun _ => rfl) ?_
    refine b_s (pc' := 258) (lv1 := [(0, .ref 76), (1, bI v1), (4, bI v4)]) (st' := [bI 0, .ref 76]) l203_257 (fun _ => rfl) ?_
    refine b_pi l203_258 (by rfl) (by decide) (by decide) rfl rfl (by decide) (bD.ok fun hk4 => b_pc (pc' := 261) rfl ?_)
    refine b_s (pc' := 262) (lv1 := [(0, .ref 76), (1, bI v1), (4, bI v4)]) (st' := [.ref 76]) l203_261 (fun _ => rfl) ?_
    refine b_s (pc' := 263) (lv1 := [(0, .ref 76), (1, bI v1), (4, bI v4)]) (st' := [bI v1, .ref 76]) l203_262 (fun _ => rfl) ?_
    refine b_bipush l203_263 (by decide) (b_pc (pc' := 265) rfl ?_)
    refine b_iadd l203_265 fun g5 => (b_pc (pc' := 266) rfl ?_)
    refine b_pi l203_266 (by rfl) (by decide) (by decide) rfl rfl g5 (bD.ok fun hk6 => b_pc (pc' := 269) rfl ?_)
    refine b_s (pc' := 270) (lv1 := [(0, .ref 76), (1, bI v1), (4, bI v4)]) (st' := [.ref 76]) l203_269 (fun _ => rfl) ?_
    refine b_s (pc' := 272) (lv1 := [(0, .ref 76), (1, bI v1), (4, bI v4)]) (st' := [bI v4, .ref 76]) l203_270 (fun _ => rfl) ?_
    refine b_pi l203_272 (by rfl) (by decide) (by decide) rfl rfl h4 (bD.ok fun hk7 => b_pc (pc' := 275) rfl ?_)
    refine b_s (pc' := 276) (lv1 := [(0, .ref 76), (1, bI v1), (4, bI v4)]) (st' := [.ref 76]) l203_275 (fun _ => rfl) ?_
    refine b_cMv l203_276 rfl (b_rc (ci := 9) (by rfl) (by decide) (by decide +kernel)) (Nat.le_of_ble_eq_true rfl) (Nat.le_of_ble_eq_true rfl) rfl (r_X11_readEntries ) fun w8 μ9 hw8 => bD.ok fun hk10 => b_pc (pc' := 279) rfl ?_
    refine b_s (pc' := 280) (lv1 := [(0, .ref 76), (1, bI v1), (4, bI v4)]) (st' := [.ref 76]) l203_279 (fun _ => rfl) ?_
    refine b_s (pc' := 282) (lv1 := [(0, .ref 76), (1, bI v1), (4, bI v4)]) (st' := [bI v4, .ref 76]) l203_280 (fun _ => rfl) ?_
    refine b_pi l203_282 (by rfl) (by decide) (by decide) rfl rfl h4 (bD.ok fun hk11 => b_pc (pc' := 285) rfl ?_)
    exact b_retv l203_285 rfl (hr _)
  · exact b_retv l203_242 rfl (hr _)
theorem p_X11_readUnit_221 {L : Nat} {xs : Nat → Int32} {d : Nat} {μ : bM}  {κ : (Int × bM) → Option bX} (hr : ∀ r : Int × bM, κ r = (bMc) r)  {v1 : Int} (h1 : bR v1) {v4 : Int} (h4 : bR v4) {v5 : Int} (h5 : bRL v5) : bD L xs (d + 7) 203 221 [(0, .ref 76), (1, bI v1), (4, bI v4), (5, bLg v5)] [] μ ((F_X11_readUnit_221 v1 v4 v5 μ).bind κ) := by
  unfold F_X11_readUnit_221
  refine bD.ok fun hk => ?_
  refine b_s (pc' := 222) (lv1 := [(0, .ref 76), (1, bI v1), (4, bI v4), (5, bLg v5)]) (st' := [.ref 76]) l203_221 (fun _ => rfl) ?_
  refine b_s (pc' := 224) (lv1 := [(0, .ref 76), (1, bI v1), (4, bI v4), (5, bLg v5)]) (st' := [bLg v5, .ref 76]) l203_222 (fun _ => rfl) ?_
  refine b_l2i l203_224 (b_pc (pc' := 225) rfl ?_)
  refine b_cMv l203_225 rfl (b_rc (ci := 9) (by rfl) (by decide) (by decide +kernel)) (Nat.le_of_ble_eq_true rfl) (Nat.le_of_ble_eq_true rfl) rfl (r_X11_readTable (b32 v5) (b32_R _)) fun w1 μ2 hw1 => bD.ok fun hk3 => b_pc (pc' := 228) rfl ?_
  refine b_s (pc' := 229) (lv1 := [(0, .ref 76), (1, bI v1), (4, bI v4), (5, bLg v5)]) (st' := [.ref 76]) l203_228 (fun _ => rfl) ?_
  refine b_s (pc' := 231) (lv1 := [(0, .ref 76), (1, bI v1), (4, bI v4), (5, bLg v5)]) (st' := [bLg v5, .ref 76]) l203_229 (fun _ => rfl) ?_
  refine b_pl l203_231 (by rfl) (by decide) (by decide) rfl rfl h5 (bD.ok fun hk4 => b_pc (pc' := 234) rfl ?_)
  refine bD.wk (lv' := [(0, .ref 76), (1, bI v1), (4, bI v4)]) (bSb rfl (bSb rfl (bSb rfl bSn))) ?_
  exact p_X11_readUnit_234 hr h1 h4
theorem p_X11_readUnit_191 {L : Nat} {xs : Nat → Int32} {d : Nat} {μ : bM}  {κ : (Int × bM) → Option bX} (hr : ∀ r : Int × bM, κ r = (bMc) r)  {v1 : Int} (h1 : bR v1) {v4 : Int} (h4 : bR v4) {v5 : Int} (h5 : bRL v5) : bD L xs (d + 7) 203 191 [(0, .ref 76), (1, bI v1), (4, bI v4), (5, bLg v5)] [] μ ((F_X11_readUnit_191 v1 v4 v5 μ).bind κ) := by
  unfold F_X11_readUnit_191
  refine bD.ok fun hk => ?_
  refine b_s (pc' := 192) (lv1 := [(0, .ref 76), (1, bI v1), (4, bI v4), (5, bLg v5)]) (st' := [.ref 76]) l203_191 (fun _ => rfl) ?_
  refine b_gi l203_192 (by rfl) (by decide) (by decide) rfl (b_pc (pc' := 195) rfl ?_)
  refine b_s (pc' := 196) (lv1 := [(0, .ref 76), (1, bI v1), (4, bI v4), (5, bLg v5)]) (st' := [bI (-1), bI (μ 76 37)]) l203_195 (fun _ => rfl) ?_
  refine b_ine (pt := 234) l203_196 (bO_f hk (ci := 9) (by rfl) rfl) (by decide) (by decide) rfl (fun c1 => ?_) (fun c1 => b_pc (pc' := 199) rfl ?_)
  · refine bD.wk (lv' := [(0, .ref 76), (1, bI v1), (4, bI v4)]) (bSb rfl (bSb rfl (bSb rfl bSn))) ?_
    exact p_X11_readUnit_234 hr h1 h4
  · refine b_s (pc' := 200) (lv1 := [(0, .ref 76), (1, bI v1), (4, bI v4), (5, bLg v5)]) (st' := [.ref 76]) l203_199 (fun _ => rfl) ?_
    refine b_gp (q' := 79) (j := 3) l203_200 (by rfl) (by decide) (by decide) rfl hk rfl rfl (b_pc (pc' := 203) rfl ?_)
    refine b_s (pc' := 204) (lv1 := [(0, .ref 76), (1, bI v1), (4, bI v4), (5, bLg v5)]) (st' := [.ref 76, .ref 79]) l203_203 (fun _ => rfl) ?_
    refine b_gi l203_204 (by rfl) (by decide) (by decide) rfl (b_pc (pc' := 207) rfl ?_)
    refine b_g fun g4 => ?_
    refine b_ial l203_207 (by rfl) g4 (b_pc (pc' := 208) rfl ?_)
    refine b_zeq (pt := 221) l203_208 (bO_i hk (by rfl)) (by decide) rfl (fun c2 => ?_) (fun c2 => b_pc (pc' := 211) rfl ?_)
    · refine bD.wk (lv' := [(0, .ref 76), (1, bI v1), (4, bI v4), (5, bLg v5)]) (bSb rfl (bSb rfl (bSb rfl (bSb rfl bSn)))) ?_
      exact p_X11_readUnit_221 hr h1 h4 h5
    · refine b_s (pc' := 213) (lv1 := [(0, .ref 76), (1, bI v1), (4, bI v4), (5, bLg v5)]) (st' := [bLg v5]) l203_211 (fun _ => rfl) ?_
      refine b_s (pc' := 214) (lv1 := [(0, .ref 76), (1, bI v1), (4, bI v4), (5, bLg v5)]) (st' := [.ref 76, bLg v5]) l203_213 (fun _ => rfl) ?_
      refine b_gl l203_214 (by rfl) (by decide) (by decide) rfl (b_pc (pc' := 217) rfl ?_)
      refine b_lcmp l203_217 h5 (bO_fl hk (ci := 9) (by rfl) rfl) (b_pc (pc' := 218) rfl ?_)
      refine b_zeq (pt := 234) l203_218 (bCmp_R _ _) (by decide) rfl (fun c3 => ?_) (fun c3 => b_pc (pc' := 221) rfl ?_)
      · refine bD.wk (lv' := [(0, .ref 76), (1, bI v1), (4, bI v4)]) (bSb rfl (bSb rfl (bSb rfl bSn))) ?_
        exact p_X11_readUnit_234 hr h1 h4
      · refine bD.wk (lv' := [(0, .ref 76), (1, bI v1), (4, bI v4), (5, bLg v5)]) (bSb rfl (bSb rfl (bSb rfl (bSb rfl bSn)))) ?_
        exact p_X11_readUnit_221 hr h1 h4 h5
theorem p_X11_readUnit_169 {L : Nat} {xs : Nat → Int32} {d : Nat} {μ : bM}  {κ : (Int × bM) → Option bX} (hr : ∀ r : Int × bM, κ r = (bMc) r)  {v1 : Int} (h1 : bR v1) {v4 : Int} (h4 : bR v4) {v5 : Int} (h5 : bRL v5) : bD L xs (d + 7) 203 169 [(0, .ref 76), (1, bI v1), (4, bI v4), (5, bLg v5)] [] μ ((F_X11_readUnit_169 v1 v4 v5 μ).bind κ) := by
  unfold F_X11_readUnit_169
  refine bD.ok fun hk => ?_
  refine b_s (pc' := 170) (lv1 := [(0, .ref 76), (1, bI v1), (4, bI v4), (5, bLg v5)]) (st' := [.ref 76]) l203_169 (fun _ => rfl) ?_
  refine b_s (pc' := 171) (lv1 := [(0, .ref 76), (1, bI v1), (4, bI v4), (5, bLg v5)]) (st' := [bI 1, .ref 76]) l203_170 (fun _ => rfl) ?_
  refine b_cMl l203_171 rfl (b_rc (ci := 9) (by rfl) (by decide) (by decide +kernel)) (Nat.le_of_ble_eq_true rfl) (Nat.le_of_ble_eq_true rfl) rfl (r_X11_fixed 1 (by decide)) fun w1 μ2 hw1 => bD.ok fun hk3 => b_pc (pc' := 174) rfl ?_
  refine b_s (pc' := 177) (lv1 := [(0, .ref 76), (1, bI v1), (4, bI v4), (5, bLg v5)]) (st' := [bLg 8, bLg w1]) l203_174 (fun _ => rfl) ?_
  refine b_lcmp l203_177 hw1 (by decide) (b_pc (pc' := 178) rfl ?_)
  refine b_zeq (pt := 191) l203_178 (bCmp_R _ _) (by decide) rfl (fun c4 => ?_) (fun c4 => b_pc (pc' := 181) rfl ?_)
  · refine bD.wk (lv' := [(0, .ref 76), (1, bI v1), (4, bI v4), (5, bLg v5)]) (bSb rfl (bSb rfl (bSb rfl (bSb rfl bSn)))) ?_
    exact p_X11_readUnit_191 hr h1 h4 h5
  · refine b_s (pc' := 182) (lv1 := [(0, .ref 76), (1, bI v1), (4, bI v4), (5, bLg v5)]) (st' := [.ref 76]) l203_181 (fun _ => rfl) ?_
    refine b_s (pc' := 183) (lv1 := [(0, .ref 76), (1, bI v1), (4, bI v4), (5, bLg v5)]) (st' := [bI 2, .ref 76]) l203_182 (fun _ => rfl) ?_
    refine b_s (pc' := 184) (lv1 := [(0, .ref 76), (1, bI v1), (4, bI v4), (5, bLg v5)]) (st' := [bI 0, bI 2, .ref 76]) l203_183 (fun _ => rfl) ?_
    refine b_s (pc' := 185) (lv1 := [(0, .ref 76), (1, bI v1), (4, bI v4), (5, bLg v5)]) (st' := [bI v1, bI 0, bI 2, .ref 76]) l203_184 (fun _ => rfl) ?_
    refine b_bipush l203_185 (by decide) (b_pc (pc' := 187) rfl ?_)
    refine b_iadd l203_187 fun g5 => (b_pc (pc' := 188) rfl ?_)
    refine b_cMv l203_188 rfl (b_rc (ci := 9) (by rfl) (by decide) (by decide +kernel)) (Nat.le_of_ble_eq_true rfl) (Nat.le_of_ble_eq_true rfl) rfl (r_X11_bad 2 (by decide) 0 (by decide) (v1 + 10) g5) fun w6 μ7 hw6 => bD.ok fun hk8 => b_pc (pc' := 191) rfl ?_
    refine bD.wk (lv' := [(0, .ref 76), (1, bI v1), (4, bI v4), (5, bLg v5)]) (bSb rfl (bSb rfl (bSb rfl (bSb rfl bSn)))) ?_
    exact p_X11_readUnit_191 hr h1 h4 h5
theorem p_X11_readUnit_131 {L : Nat} {xs : Nat → Int32} {d : Nat} {μ : bM}  {κ : (Int × bM) → Option bX} (hr : ∀ r : Int × bM, κ r = (bMc) r)  {v1 : Int} (h1 : bR v1) {v4 : Int} (h4 : bR v4) : bD L xs (d + 7) 203 131 [(0, .ref 76), (1, bI v1), (4, bI v4)] [] μ ((F_X11_readUnit_131 v1 v4 μ).bind κ) := by
  unfold F_X11_readUnit_131
  refine bD.ok fun hk => ?_
  refine b_s (pc' := 132) (lv1 := [(0, .ref 76), (1, bI v1), (4, bI v4)]) (st' := [.ref 76]) l203_131 (fun _ => rfl) ?_
  refine b_s (pc' := 133) (lv1 := [(0, .ref 76), (1, bI v1), (4, bI v4)]) (st' := [bI 4, .ref 76]) l203_132 (fun _ => rfl) ?_
  refine b_cMl l203_133 rfl (b_rc (ci := 9) (by rfl) (by decide) (by decide +kernel)) (Nat.le_of_ble_eq_true rfl) (Nat.le_of_ble_eq_true rfl) rfl (r_X11_fixed 4 (by decide)) fun w1 μ2 hw1 => bD.ok fun hk3 => b_pc (pc' := 136) rfl ?_
  refine b_w (pc' := 138) (lv1 := ax_st2 [(0, .ref 76), (1, bI v1), (4, bI v4)] 5 (bLg w1)) (lv' := [(0, .ref 76), (1, bI v1), (4, bI v4), (5, bLg w1)]) (st' := []) l203_136 (fun _ => rfl) (bSb rfl (bSb rfl (bSb rfl (bSb rfl bSn)))) ?_
  refine b_s (pc' := 139) (lv1 := [(0, .ref 76), (1, bI v1), (4, bI v4), (5, bLg w1)]) (st' := [.ref 76]) l203_138 (fun _ => rfl) ?_
  refine b_gi l203_139 (by rfl) (by decide) (by decide) rfl (b_pc (pc' := 142) rfl ?_)
  refine b_s (pc' := 143) (lv1 := [(0, .ref 76), (1, bI v1), (4, bI v4), (5, bLg w1)]) (st' := [bI (-1), bI (μ2 76 37)]) l203_142 (fun _ => rfl) ?_
  refine b_ine (pt := 169) l203_143 (bO_f hk3 (ci := 9) (by rfl) rfl) (by decide) (by decide) rfl (fun c4 => ?_) (fun c4 => b_pc (pc' := 146) rfl ?_)
  · refine bD.wk (lv' := [(0, .ref 76), (1, bI v1), (4, bI v4), (5, bLg w1)]) (bSb rfl (bSb rfl (bSb rfl (bSb rfl bSn)))) ?_
    exact p_X11_readUnit_169 hr h1 h4 hw1
  · refine b_s (pc' := 148) (lv1 := [(0, .ref 76), (1, bI v1), (4, bI v4), (5, bLg w1)]) (st' := [bLg w1]) l203_146 (fun _ => rfl) ?_
    refine b_s (pc' := 149) (lv1 := [(0, .ref 76), (1, bI v1), (4, bI v4), (5, bLg w1)]) (st' := [.ref 76, bLg w1]) l203_148 (fun _ => rfl) ?_
    refine b_gp (q' := 94) (j := 18) l203_149 (by rfl) (by decide) (by decide) rfl hk3 rfl rfl (b_pc (pc' := 152) rfl ?_)
    refine b_s (pc' := 153) (lv1 := [(0, .ref 76), (1, bI v1), (4, bI v4), (5, bLg w1)]) (st' := [bI 1, .ref 94, bLg w1]) l203_152 (fun _ => rfl) ?_
    refine b_ial l203_153 (by rfl) (by decide) (b_pc (pc' := 154) rfl ?_)
    refine b_i2l l203_154 (bO_i hk3 (by rfl)) (b_pc (pc' := 155) rfl ?_)
    refine b_lcmp l203_155 hw1 (bR_L (bO_i hk3 (by rfl))) (b_pc (pc' := 156) rfl ?_)
    refine b_zle (pt := 169) l203_156 (bCmp_R _ _) (by decide) rfl (fun c5 => ?_) (fun c5 => b_pc (pc' := 159) rfl ?_)
    · refine bD.wk (lv' := [(0, .ref 76), (1, bI v1), (4, bI v4), (5, bLg w1)]) (bSb rfl (bSb rfl (bSb rfl (bSb rfl bSn)))) ?_
      exact p_X11_readUnit_169 hr h1 h4 hw1
    · refine b_s (pc' := 160) (lv1 := [(0, .ref 76), (1, bI v1), (4, bI v4), (5, bLg w1)]) (st' := [.ref 76]) l203_159 (fun _ => rfl) ?_
      refine b_s (pc' := 161) (lv1 := [(0, .ref 76), (1, bI v1), (4, bI v4), (5, bLg w1)]) (st' := [bI 2, .ref 76]) l203_160 (fun _ => rfl) ?_
      refine b_s (pc' := 162) (lv1 := [(0, .ref 76), (1, bI v1), (4, bI v4), (5, bLg w1)]) (st' := [bI 0, bI 2, .ref 76]) l203_161 (fun _ => rfl) ?_
      refine b_s (pc' := 163) (lv1 := [(0, .ref 76), (1, bI v1), (4, bI v4), (5, bLg w1)]) (st' := [bI v1, bI 0, bI 2, .ref 76]) l203_162 (fun _ => rfl) ?_
      refine b_bipush l203_163 (by decide) (b_pc (pc' := 165) rfl ?_)
      refine b_iadd l203_165 fun g6 => (b_pc (pc' := 166) rfl ?_)
      refine b_cMv l203_166 rfl (b_rc (ci := 9) (by rfl) (by decide) (by decide +kernel)) (Nat.le_of_ble_eq_true rfl) (Nat.le_of_ble_eq_true rfl) rfl (r_X11_bad 2 (by decide) 0 (by decide) (v1 + 6) g6) fun w7 μ8 hw7 => bD.ok fun hk9 => b_pc (pc' := 169) rfl ?_
      refine bD.wk (lv' := [(0, .ref 76), (1, bI v1), (4, bI v4), (5, bLg w1)]) (bSb rfl (bSb rfl (bSb rfl (bSb rfl bSn)))) ?_
      exact p_X11_readUnit_169 hr h1 h4 hw1
theorem p_X11_readUnit_87 {L : Nat} {xs : Nat → Int32} {d : Nat} {μ : bM}  {κ : (Int × bM) → Option bX} (hr : ∀ r : Int × bM, κ r = (bMc) r)  {v1 : Int} (h1 : bR v1) {v2 : Int} (h2 : bRL v2) : bD L xs (d + 7) 203 87 [(0, .ref 76), (1, bI v1), (2, bLg v2)] [] μ ((F_X11_readUnit_87 v1 v2 μ).bind κ) := by
  unfold F_X11_readUnit_87
  refine bD.ok fun hk => ?_
  refine b_s (pc' := 88) (lv1 := [(0, .ref 76), (1, bI v1), (2, bLg v2)]) (st' := [.ref 76]) l203_87 (fun _ => rfl) ?_
  refine b_gi l203_88 (by rfl) (by decide) (by decide) rfl (b_pc (pc' := 91) rfl ?_)
  refine b_s (pc' := 92) (lv1 := [(0, .ref 76), (1, bI v1), (2, bLg v2)]) (st' := [bI (-1), bI (μ 76 37)]) l203_91 (fun _ => rfl) ?_
  refine b_ieq (pt := 96) l203_92 (bO_f hk (ci := 9) (by rfl) rfl) (by decide) (by decide) rfl (fun c1 => ?_) (fun c1 => b_pc (pc' := 95) rfl ?_)
  · refine b_s (pc' := 97) (lv1 := [(0, .ref 76), (1, bI v1), (2, bLg v2)]) (st' := [bI v1]) l203_96 (fun _ => rfl) ?_
    refine b_s (pc' := 98) (lv1 := [(0, .ref 76), (1, bI v1), (2, bLg v2)]) (st' := [bI 4, bI v1]) l203_97 (fun _ => rfl) ?_
    refine b_iadd l203_98 fun g2 => (b_pc (pc' := 99) rfl ?_)
    refine b_s (pc' := 100) (lv1 := [(0, .ref 76), (1, bI v1), (2, bLg v2)]) (st' := [bLg v2, bI (v1 + 4)]) l203_99 (fun _ => rfl) ?_
    refine b_l2i l203_100 (b_pc (pc' := 101) rfl ?_)
    refine b_iadd l203_101 fun g3 => (b_pc (pc' := 102) rfl ?_)
    refine b_w (pc' := 104) (lv1 := ax_st1 [(0, .ref 76), (1, bI v1), (2, bLg v2)] 4 (bI ((v1 + 4) + (b32 v2)))) (lv' := [(0, .ref 76), (1, bI v1), (4, bI ((v1 + 4) + (b32 v2)))]) (st' := []) l203_102 (fun _ => rfl) (bSb rfl (bSb rfl (bSb rfl bSn))) ?_
    refine b_s (pc' := 105) (lv1 := [(0, .ref 76), (1, bI v1), (4, bI ((v1 + 4) + (b32 v2)))]) (st' := [.ref 76]) l203_104 (fun _ => rfl) ?_
    refine b_s (pc' := 107) (lv1 := [(0, .ref 76), (1, bI v1), (4, bI ((v1 + 4) + (b32 v2)))]) (st' := [bI ((v1 + 4) + (b32 v2)), .ref 76]) l203_105 (fun _ => rfl) ?_
    refine b_pi l203_107 (by rfl) (by decide) (by decide) rfl rfl g3 (bD.ok fun hk4 => b_pc (pc' := 110) rfl ?_)
    refine b_s (pc' := 111) (lv1 := [(0, .ref 76), (1, bI v1), (4, bI ((v1 + 4) + (b32 v2)))]) (st' := [.ref 76]) l203_110 (fun _ => rfl) ?_
    refine b_s (pc' := 112) (lv1 := [(0, .ref 76), (1, bI v1), (4, bI ((v1 + 4) + (b32 v2)))]) (st' := [bI 2, .ref 76]) l203_111 (fun _ => rfl) ?_
    refine b_cMl l203_112 rfl (b_rc (ci := 9) (by rfl) (by decide) (by decide +kernel)) (Nat.le_of_ble_eq_true rfl) (Nat.le_of_ble_eq_true rfl) rfl (r_X11_fixed 2 (by decide)) fun w5 μ6 hw5 => bD.ok fun hk7 => b_pc (pc' := 115) rfl ?_
    refine b_s (pc' := 118) (lv1 := [(0, .ref 76), (1, bI v1), (4, bI ((v1 + 4) + (b32 v2)))]) (st' := [bLg 4, bLg w5]) l203_115 (fun _ => rfl) ?_
    refine b_lcmp l203_118 hw5 (by decide) (b_pc (pc' := 119) rfl ?_)
    refine b_zeq (pt := 131) l203_119 (bCmp_R _ _) (by decide) rfl (fun c8 => ?_) (fun c8 => b_pc (pc' := 122) rfl ?_)
    · refine bD.wk (lv' := [(0, .ref 76), (1, bI v1), (4, bI ((v1 + 4) + (b32 v2)))]) (bSb rfl (bSb rfl (bSb rfl bSn))) ?_
      exact p_X11_readUnit_131 hr h1 g3
    · refine b_s (pc' := 123) (lv1 := [(0, .ref 76), (1, bI v1), (4, bI ((v1 + 4) + (b32 v2)))]) (st' := [.ref 76]) l203_122 (fun _ => rfl) ?_
      refine b_s (pc' := 124) (lv1 := [(0, .ref 76), (1, bI v1), (4, bI ((v1 + 4) + (b32 v2)))]) (st' := [bI 2, .ref 76]) l203_123 (fun _ => rfl) ?_
      refine b_s (pc' := 125) (lv1 := [(0, .ref 76), (1, bI v1), (4, bI ((v1 + 4) + (b32 v2)))]) (st' := [bI 0, bI 2, .ref 76]) l203_124 (fun _ => rfl) ?_
      refine b_s (pc' := 126) (lv1 := [(0, .ref 76), (1, bI v1), (4, bI ((v1 + 4) + (b32 v2)))]) (st' := [bI v1, bI 0, bI 2, .ref 76]) l203_125 (fun _ => rfl) ?_
      refine b_s (pc' := 127) (lv1 := [(0, .ref 76), (1, bI v1), (4, bI ((v1 + 4) + (b32 v2)))]) (st' := [bI 4, bI v1, bI 0, bI 2, .ref 76]) l203_126 (fun _ => rfl) ?_
      refine b_iadd l203_127 fun g9 => (b_pc (pc' := 128) rfl ?_)
      refine b_cMv l203_128 rfl (b_rc (ci := 9) (by rfl) (by decide) (by decide +kernel)) (Nat.le_of_ble_eq_true rfl) (Nat.le_of_ble_eq_true rfl) rfl (r_X11_bad 2 (by decide) 0 (by decide) (v1 + 4) g9) fun w10 μ11 hw10 => bD.ok fun hk12 => b_pc (pc' := 131) rfl ?_
      refine bD.wk (lv' := [(0, .ref 76), (1, bI v1), (4, bI ((v1 + 4) + (b32 v2)))]) (bSb rfl (bSb rfl (bSb rfl bSn))) ?_
      exact p_X11_readUnit_131 hr h1 g3
  · exact b_retv l203_95 rfl (hr _)
theorem p_X11_readUnit_47 {L : Nat} {xs : Nat → Int32} {d : Nat} {μ : bM}  {κ : (Int × bM) → Option bX} (hr : ∀ r : Int × bM, κ r = (bMc) r)  {v1 : Int} (h1 : bR v1) : bD L xs (d + 7) 203 47 [(0, .ref 76), (1, bI v1)] [] μ ((F_X11_readUnit_47 v1 μ).bind κ) := by
  unfold F_X11_readUnit_47
  refine bD.ok fun hk => ?_
  refine b_s (pc' := 48) (lv1 := [(0, .ref 76), (1, bI v1)]) (st' := [.ref 76]) l203_47 (fun _ => rfl) ?_
  refine b_s (pc' := 49) (lv1 := [(0, .ref 76), (1, bI v1)]) (st' := [bI 4, .ref 76]) l203_48 (fun _ => rfl) ?_
  refine b_cMl l203_49 rfl (b_rc (ci := 9) (by rfl) (by decide) (by decide +kernel)) (Nat.le_of_ble_eq_true rfl) (Nat.le_of_ble_eq_true rfl) rfl (r_X11_fixed 4 (by decide)) fun w1 μ2 hw1 => bD.ok fun hk3 => b_pc (pc' := 52) rfl ?_
  refine b_w (pc' := 53) (lv1 := ax_st2 [(0, .ref 76), (1, bI v1)] 2 (bLg w1)) (lv' := [(0, .ref 76), (1, bI v1), (2, bLg w1)]) (st' := []) l203_52 (fun _ => rfl) (bSb rfl (bSb rfl (bSb rfl bSn))) ?_
  refine b_s (pc' := 54) (lv1 := [(0, .ref 76), (1, bI v1), (2, bLg w1)]) (st' := [.ref 76]) l203_53 (fun _ => rfl) ?_
  refine b_gi l203_54 (by rfl) (by decide) (by decide) rfl (b_pc (pc' := 57) rfl ?_)
  refine b_s (pc' := 58) (lv1 := [(0, .ref 76), (1, bI v1), (2, bLg w1)]) (st' := [bI (-1), bI (μ2 76 37)]) l203_57 (fun _ => rfl) ?_
  refine b_ine (pt := 87) l203_58 (bO_f hk3 (ci := 9) (by rfl) rfl) (by decide) (by decide) rfl (fun c4 => ?_) (fun c4 => b_pc (pc' := 61) rfl ?_)
  · refine bD.wk (lv' := [(0, .ref 76), (1, bI v1), (2, bLg w1)]) (bSb rfl (bSb rfl (bSb rfl bSn))) ?_
    exact p_X11_readUnit_87 hr h1 hw1
  · refine b_s (pc' := 62) (lv1 := [(0, .ref 76), (1, bI v1), (2, bLg w1)]) (st' := [bI v1]) l203_61 (fun _ => rfl) ?_
    refine b_i2l l203_62 h1 (b_pc (pc' := 63) rfl ?_)
    refine b_s (pc' := 66) (lv1 := [(0, .ref 76), (1, bI v1), (2, bLg w1)]) (st' := [bLg 4, bLg v1]) l203_63 (fun _ => rfl) ?_
    refine b_ladd l203_66 fun g5 => (b_pc (pc' := 67) rfl ?_)
    refine b_s (pc' := 68) (lv1 := [(0, .ref 76), (1, bI v1), (2, bLg w1)]) (st' := [bLg w1, bLg (v1 + 4)]) l203_67 (fun _ => rfl) ?_
    refine b_ladd l203_68 fun g6 => (b_pc (pc' := 69) rfl ?_)
    refine b_s (pc' := 70) (lv1 := [(0, .ref 76), (1, bI v1), (2, bLg w1)]) (st' := [.ref 76, bLg ((v1 + 4) + w1)]) l203_69 (fun _ => rfl) ?_
    refine b_gp (q' := 94) (j := 18) l203_70 (by rfl) (by decide) (by decide) rfl hk3 rfl rfl (b_pc (pc' := 73) rfl ?_)
    refine b_s (pc' := 74) (lv1 := [(0, .ref 76), (1, bI v1), (2, bLg w1)]) (st' := [bI 0, .ref 94, bLg ((v1 + 4) + w1)]) l203_73 (fun _ => rfl) ?_
    refine b_ial l203_74 (by rfl) (by decide) (b_pc (pc' := 75) rfl ?_)
    refine b_i2l l203_75 (bO_i hk3 (by rfl)) (b_pc (pc' := 76) rfl ?_)
    refine b_lcmp l203_76 g6 (bR_L (bO_i hk3 (by rfl))) (b_pc (pc' := 77) rfl ?_)
    refine b_zle (pt := 87) l203_77 (bCmp_R _ _) (by decide) rfl (fun c7 => ?_) (fun c7 => b_pc (pc' := 80) rfl ?_)
    · refine bD.wk (lv' := [(0, .ref 76), (1, bI v1), (2, bLg w1)]) (bSb rfl (bSb rfl (bSb rfl bSn))) ?_
      exact p_X11_readUnit_87 hr h1 hw1
    · refine b_s (pc' := 81) (lv1 := [(0, .ref 76), (1, bI v1), (2, bLg w1)]) (st' := [.ref 76]) l203_80 (fun _ => rfl) ?_
      refine b_s (pc' := 82) (lv1 := [(0, .ref 76), (1, bI v1), (2, bLg w1)]) (st' := [bI 2, .ref 76]) l203_81 (fun _ => rfl) ?_
      refine b_s (pc' := 83) (lv1 := [(0, .ref 76), (1, bI v1), (2, bLg w1)]) (st' := [bI 0, bI 2, .ref 76]) l203_82 (fun _ => rfl) ?_
      refine b_s (pc' := 84) (lv1 := [(0, .ref 76), (1, bI v1), (2, bLg w1)]) (st' := [bI v1, bI 0, bI 2, .ref 76]) l203_83 (fun _ => rfl) ?_
      refine b_cMv l203_84 rfl (b_rc (ci := 9) (by rfl) (by decide) (by decide +kernel)) (Nat.le_of_ble_eq_true rfl) (Nat.le_of_ble_eq_true rfl) rfl (r_X11_bad 2 (by decide) 0 (by decide) v1 h1) fun w8 μ9 hw8 => bD.ok fun hk10 => b_pc (pc' := 87) rfl ?_
      refine bD.wk (lv' := [(0, .ref 76), (1, bI v1), (2, bLg w1)]) (bSb rfl (bSb rfl (bSb rfl bSn))) ?_
      exact p_X11_readUnit_87 hr h1 hw1
theorem r_X11_readUnit {L : Nat} {xs : Nat → Int32} {d : Nat} {μ : bM}  (v1 : Int) (h1 : bR v1) : bD L xs (d + 7) 203 0 [(0, .ref 76), (1, bI v1)] [] μ ((F_X11_readUnit v1 μ).bind (bMc)) := by
  have hr : ∀ r, (bMc) r = (bMc) r := fun _ => rfl
  unfold F_X11_readUnit
  refine bD.ok fun hk => ?_
  refine b_s (pc' := 1) (lv1 := [(0, .ref 76), (1, bI v1)]) (st' := [.ref 76]) l203_0 (fun _ => rfl) ?_
  refine b_s (pc' := 2) (lv1 := [(0, .ref 76), (1, bI v1)]) (st' := [bI v1, .ref 76]) l203_1 (fun _ => rfl) ?_
  refine b_pi l203_2 (by rfl) (by decide) (by decide) rfl rfl h1 (bD.ok fun hk1 => b_pc (pc' := 5) rfl ?_)
  refine b_s (pc' := 6) (lv1 := [(0, .ref 76), (1, bI v1)]) (st' := [.ref 76]) l203_5 (fun _ => rfl) ?_
  refine b_s (pc' := 7) (lv1 := [(0, .ref 76), (1, bI v1)]) (st' := [bI 0, .ref 76]) l203_6 (fun _ => rfl) ?_
  refine b_pi l203_7 (by rfl) (by decide) (by decide) rfl rfl (by decide) (bD.ok fun hk2 => b_pc (pc' := 10) rfl ?_)
  refine b_s (pc' := 11) (lv1 := [(0, .ref 76), (1, bI v1)]) (st' := [.ref 76]) l203_10 (fun _ => rfl) ?_
  refine b_s (pc' := 12) (lv1 := [(0, .ref 76), (1, bI v1)]) (st' := [.ref 76, .ref 76]) l203_11 (fun _ => rfl) ?_
  refine b_gp (q' := 94) (j := 18) l203_12 (by rfl) (by decide) (by decide) rfl hk2 rfl rfl (b_pc (pc' := 15) rfl ?_)
  refine b_s (pc' := 16) (lv1 := [(0, .ref 76), (1, bI v1)]) (st' := [bI 0, .ref 94, .ref 76]) l203_15 (fun _ => rfl) ?_
  refine b_ial l203_16 (by rfl) (by decide) (b_pc (pc' := 17) rfl ?_)
  refine b_pi l203_17 (by rfl) (by decide) (by decide) rfl rfl (bO_i hk2 (by rfl)) (bD.ok fun hk3 => b_pc (pc' := 20) rfl ?_)
  refine b_s (pc' := 21) (lv1 := [(0, .ref 76), (1, bI v1)]) (st' := [.ref 76]) l203_20 (fun _ => rfl) ?_
  refine b_s (pc' := 22) (lv1 := [(0, .ref 76), (1, bI v1)]) (st' := [bI v1, .ref 76]) l203_21 (fun _ => rfl) ?_
  refine b_pi l203_22 (by rfl) (by decide) (by decide) rfl rfl h1 (bD.ok fun hk4 => b_pc (pc' := 25) rfl ?_)
  refine b_s (pc' := 26) (lv1 := [(0, .ref 76), (1, bI v1)]) (st' := [.ref 76]) l203_25 (fun _ => rfl) ?_
  refine b_gp (q' := 79) (j := 3) l203_26 (by rfl) (by decide) (by decide) rfl hk4 rfl rfl (b_pc (pc' := 29) rfl ?_)
  refine b_s (pc' := 30) (lv1 := [(0, .ref 76), (1, bI v1)]) (st' := [.ref 76, .ref 79]) l203_29 (fun _ => rfl) ?_
  refine b_gi l203_30 (by rfl) (by decide) (by decide) rfl (b_pc (pc' := 33) rfl ?_)
  refine b_g fun g9 => ?_
  refine b_ial l203_33 (by rfl) g9 (b_pc (pc' := 34) rfl ?_)
  refine b_bipush l203_34 (by decide) (b_pc (pc' := 36) rfl ?_)
  refine b_ine (pt := 47) l203_36 (bO_i hk4 (by rfl)) (by decide) (by decide) rfl (fun c5 => ?_) (fun c5 => b_pc (pc' := 39) rfl ?_)
  · refine bD.wk (lv' := [(0, .ref 76), (1, bI v1)]) (bSb rfl (bSb rfl bSn)) ?_
    exact p_X11_readUnit_47 hr h1
  · refine b_s (pc' := 40) (lv1 := [(0, .ref 76), (1, bI v1)]) (st' := [.ref 76]) l203_39 (fun _ => rfl) ?_
    refine b_bipush l203_40 (by decide) (b_pc (pc' := 42) rfl ?_)
    refine b_s (pc' := 43) (lv1 := [(0, .ref 76), (1, bI v1)]) (st' := [bI 0, bI 8, .ref 76]) l203_42 (fun _ => rfl) ?_
    refine b_s (pc' := 44) (lv1 := [(0, .ref 76), (1, bI v1)]) (st' := [bI v1, bI 0, bI 8, .ref 76]) l203_43 (fun _ => rfl) ?_
    refine b_cMv l203_44 rfl (b_rc (ci := 9) (by rfl) (by decide) (by decide +kernel)) (Nat.le_of_ble_eq_true rfl) (Nat.le_of_ble_eq_true rfl) rfl (r_X11_bad 8 (by decide) 0 (by decide) v1 h1) fun w6 μ7 hw6 => bD.ok fun hk8 => b_pc (pc' := 47) rfl ?_
    refine bD.wk (lv' := [(0, .ref 76), (1, bI v1)]) (bSb rfl (bSb rfl bSn)) ?_
    exact p_X11_readUnit_47 hr h1
/-! ETModel.read -/
theorem l204_0 : (ax_dt (ax_T 204)).lookup 0 = some (.aload_n 0, 1, 0, 0, 0) := by decide +kernel
theorem l204_1 : (ax_dt (ax_T 204)).lookup 1 = some (.iconst 0, 1, 0, 0, 0) := by decide +kernel
theorem l204_2 : (ax_dt (ax_T 204)).lookup 2 = some (.putfield 120, 3, 9, 0, 0) := by decide +kernel
theorem l204_5 : (ax_dt (ax_T 204)).lookup 5 = some (.aload_n 0, 1, 0, 0, 0) := by decide +kernel
theorem l204_6 : (ax_dt (ax_T 204)).lookup 6 = some (.iconst 1, 1, 0, 0, 0) := by decide +kernel
theorem l204_7 : (ax_dt (ax_T 204)).lookup 7 = some (.aload_n 0, 1, 0, 0, 0) := by decide +kernel
theorem l204_8 : (ax_dt (ax_T 204)).lookup 8 = some (.getfield 137, 3, 9, 3, 0) := by decide +kernel
theorem l204_11 : (ax_dt (ax_T 204)).lookup 11 = some (.isub, 1, 0, 0, 0) := by decide +kernel
theorem l204_12 : (ax_dt (ax_T 204)).lookup 12 = some (.putfield 137, 3, 9, 3, 0) := by decide +kernel
theorem l204_15 : (ax_dt (ax_T 204)).lookup 15 = some (.aload_n 0, 1, 0, 0, 0) := by decide +kernel
theorem l204_16 : (ax_dt (ax_T 204)).lookup 16 = some (.getfield 13, 3, 9, 4, 0) := by decide +kernel
theorem l204_19 : (ax_dt (ax_T 204)).lookup 19 = some (.aload_n 0, 1, 0, 0, 0) := by decide +kernel
theorem l204_20 : (ax_dt (ax_T 204)).lookup 20 = some (.getfield 137, 3, 9, 3, 0) := by decide +kernel
theorem l204_23 : (ax_dt (ax_T 204)).lookup 23 = some (.iconst 0, 1, 0, 0, 0) := by decide +kernel
theorem l204_24 : (ax_dt (ax_T 204)).lookup 24 = some (.iastore, 1, 0, 0, 0) := by decide +kernel
theorem l204_25 : (ax_dt (ax_T 204)).lookup 25 = some (.aload_n 0, 1, 0, 0, 0) := by decide +kernel
theorem l204_26 : (ax_dt (ax_T 204)).lookup 26 = some (.getfield 17, 3, 9, 5, 0) := by decide +kernel
theorem l204_29 : (ax_dt (ax_T 204)).lookup 29 = some (.aload_n 0, 1, 0, 0, 0) := by decide +kernel
theorem l204_30 : (ax_dt (ax_T 204)).lookup 30 = some (.getfield 137, 3, 9, 3, 0) := by decide +kernel
theorem l204_33 : (ax_dt (ax_T 204)).lookup 33 = some (.iconst 0, 1, 0, 0, 0) := by decide +kernel
theorem l204_34 : (ax_dt (ax_T 204)).lookup 34 = some (.iastore, 1, 0, 0, 0) := by decide +kernel
theorem l204_35 : (ax_dt (ax_T 204)).lookup 35 = some (.aload_n 0, 1, 0, 0, 0) := by decide +kernel
theorem l204_36 : (ax_dt (ax_T 204)).lookup 36 = some (.getfield 54, 3, 9, 17, 0) := by decide +kernel
theorem l204_39 : (ax_dt (ax_T 204)).lookup 39 = some (.aload_n 0, 1, 0, 0, 0) := by decide +kernel
theorem l204_40 : (ax_dt (ax_T 204)).lookup 40 = some (.getfield 137, 3, 9, 3, 0) := by decide +kernel
theorem l204_43 : (ax_dt (ax_T 204)).lookup 43 = some (.iconst 0, 1, 0, 0, 0) := by decide +kernel
theorem l204_44 : (ax_dt (ax_T 204)).lookup 44 = some (.iastore, 1, 0, 0, 0) := by decide +kernel
theorem l204_45 : (ax_dt (ax_T 204)).lookup 45 = some (.aload_n 0, 1, 0, 0, 0) := by decide +kernel
theorem l204_46 : (ax_dt (ax_T 204)).lookup 46 = some (.getfield 51, 3, 9, 16, 0) := by decide +kernel
theorem l204_49 : (ax_dt (ax_T 204)).lookup 49 = some (.aload_n 0, 1, 0, 0, 0) := by decide +kernel
theorem l204_50 : (ax_dt (ax_T 204)).lookup 50 = some (.getfield 137, 3, 9, 3, 0) := by decide +kernel
theorem l204_53 : (ax_dt (ax_T 204)).lookup 53 = some (.iconst 0, 1, 0, 0, 0) := by decide +kernel
theorem l204_54 : (ax_dt (ax_T 204)).lookup 54 = some (.iastore, 1, 0, 0, 0) := by decide +kernel
theorem l204_55 : (ax_dt (ax_T 204)).lookup 55 = some (.aload_n 0, 1, 0, 0, 0) := by decide +kernel
theorem l204_56 : (ax_dt (ax_T 204)).lookup 56 = some (.iconst (-1), 1, 0, 0, 0) := by decide +kernel
theorem l204_57 : (ax_dt (ax_T 204)).lookup 57 = some (.putfield 300, 3, 9, 37, 0) := by decide +kernel
theorem l204_60 : (ax_dt (ax_T 204)).lookup 60 = some (.aload_n 0, 1, 0, 0, 0) := by decide +kernel
theorem l204_61 : (ax_dt (ax_T 204)).lookup 61 = some (.iconst 2, 1, 0, 0, 0) := by decide +kernel
theorem l204_62 : (ax_dt (ax_T 204)).lookup 62 = some (.invokestatic 284, 3, 135, 1, 0) := by decide +kernel
theorem l204_65 : (ax_dt (ax_T 204)).lookup 65 = some (.aload_n 0, 1, 0, 0, 0) := by decide +kernel
theorem l204_66 : (ax_dt (ax_T 204)).lookup 66 = some (.getfield 65, 3, 9, 20, 0) := by decide +kernel
theorem l204_69 : (ax_dt (ax_T 204)).lookup 69 = some (.iconst 2, 1, 0, 0, 0) := by decide +kernel
theorem l204_70 : (ax_dt (ax_T 204)).lookup 70 = some (.iaload, 1, 0, 0, 0) := by decide +kernel
theorem l204_71 : (ax_dt (ax_T 204)).lookup 71 = some (.invokevirtual 354, 3, 196, 2, 0) := by decide +kernel
theorem l204_74 : (ax_dt (ax_T 204)).lookup 74 = some (.istore_n 1, 1, 0, 0, 0) := by decide +kernel
theorem l204_75 : (ax_dt (ax_T 204)).lookup 75 = some (.iconst 0, 1, 0, 0, 0) := by decide +kernel
theorem l204_76 : (ax_dt (ax_T 204)).lookup 76 = some (.istore_n 2, 1, 0, 0, 0) := by decide +kernel
theorem l204_77 : (ax_dt (ax_T 204)).lookup 77 = some (.aload_n 0, 1, 0, 0, 0) := by decide +kernel
theorem l204_78 : (ax_dt (ax_T 204)).lookup 78 = some (.getfield 300, 3, 9, 37, 0) := by decide +kernel
theorem l204_81 : (ax_dt (ax_T 204)).lookup 81 = some (.iconst (-1), 1, 0, 0, 0) := by decide +kernel
theorem l204_82 : (ax_dt (ax_T 204)).lookup 82 = some (.if_icmp .ne 26, 3, 0, 0, 0) := by decide +kernel
theorem l204_85 : (ax_dt (ax_T 204)).lookup 85 = some (.iload_n 2, 1, 0, 0, 0) := by decide +kernel
theorem l204_86 : (ax_dt (ax_T 204)).lookup 86 = some (.aload_n 0, 1, 0, 0, 0) := by decide +kernel
theorem l204_87 : (ax_dt (ax_T 204)).lookup 87 = some (.getfield 65, 3, 9, 20, 0) := by decide +kernel
theorem l204_90 : (ax_dt (ax_T 204)).lookup 90 = some (.iconst 0, 1, 0, 0, 0) := by decide +kernel
theorem l204_91 : (ax_dt (ax_T 204)).lookup 91 = some (.iaload, 1, 0, 0, 0) := by decide +kernel
theorem l204_92 : (ax_dt (ax_T 204)).lookup 92 = some (.if_icmp .ge 16, 3, 0, 0, 0) := by decide +kernel
theorem l204_95 : (ax_dt (ax_T 204)).lookup 95 = some (.aload_n 0, 1, 0, 0, 0) := by decide +kernel
theorem l204_96 : (ax_dt (ax_T 204)).lookup 96 = some (.iload_n 2, 1, 0, 0, 0) := by decide +kernel
theorem l204_97 : (ax_dt (ax_T 204)).lookup 97 = some (.invokevirtual 401, 3, 203, 1, 0) := by decide +kernel
theorem l204_100 : (ax_dt (ax_T 204)).lookup 100 = some (.aload_n 0, 1, 0, 0, 0) := by decide +kernel
theorem l204_101 : (ax_dt (ax_T 204)).lookup 101 = some (.getfield 312, 3, 9, 40, 0) := by decide +kernel
theorem l204_104 : (ax_dt (ax_T 204)).lookup 104 = some (.istore_n 2, 1, 0, 0, 0) := by decide +kernel
theorem l204_105 : (ax_dt (ax_T 204)).lookup 105 = some (.goto (-28), 3, 0, 0, 0) := by decide +kernel
theorem l204_108 : (ax_dt (ax_T 204)).lookup 108 = some (.aload_n 0, 1, 0, 0, 0) := by decide +kernel
theorem l204_109 : (ax_dt (ax_T 204)).lookup 109 = some (.getfield 300, 3, 9, 37, 0) := by decide +kernel
theorem l204_112 : (ax_dt (ax_T 204)).lookup 112 = some (.iconst (-1), 1, 0, 0, 0) := by decide +kernel
theorem l204_113 : (ax_dt (ax_T 204)).lookup 113 = some (.if_icmp .eq 36, 3, 0, 0, 0) := by decide +kernel
theorem l204_116 : (ax_dt (ax_T 204)).lookup 116 = some (.aload_n 0, 1, 0, 0, 0) := by decide +kernel
theorem l204_117 : (ax_dt (ax_T 204)).lookup 117 = some (.iconst 1, 1, 0, 0, 0) := by decide +kernel
theorem l204_118 : (ax_dt (ax_T 204)).lookup 118 = some (.aload_n 0, 1, 0, 0, 0) := by decide +kernel
theorem l204_119 : (ax_dt (ax_T 204)).lookup 119 = some (.getfield 137, 3, 9, 3, 0) := by decide +kernel
theorem l204_122 : (ax_dt (ax_T 204)).lookup 122 = some (.isub, 1, 0, 0, 0) := by decide +kernel
theorem l204_123 : (ax_dt (ax_T 204)).lookup 123 = some (.putfield 137, 3, 9, 3, 0) := by decide +kernel
theorem l204_126 : (ax_dt (ax_T 204)).lookup 126 = some (.aload_n 0, 1, 0, 0, 0) := by decide +kernel
theorem l204_127 : (ax_dt (ax_T 204)).lookup 127 = some (.aload_n 0, 1, 0, 0, 0) := by decide +kernel
theorem l204_128 : (ax_dt (ax_T 204)).lookup 128 = some (.getfield 303, 3, 9, 38, 0) := by decide +kernel
theorem l204_131 : (ax_dt (ax_T 204)).lookup 131 = some (.putfield 404, 3, 9, 21, 0) := by decide +kernel
theorem l204_134 : (ax_dt (ax_T 204)).lookup 134 = some (.aload_n 0, 1, 0, 0, 0) := by decide +kernel
theorem l204_135 : (ax_dt (ax_T 204)).lookup 135 = some (.aload_n 0, 1, 0, 0, 0) := by decide +kernel
theorem l204_136 : (ax_dt (ax_T 204)).lookup 136 = some (.getfield 306, 3, 9, 39, 0) := by decide +kernel
theorem l204_139 : (ax_dt (ax_T 204)).lookup 139 = some (.putfield 407, 3, 9, 22, 0) := by decide +kernel
theorem l204_142 : (ax_dt (ax_T 204)).lookup 142 = some (.iconst (-1), 1, 0, 0, 0) := by decide +kernel
theorem l204_143 : (ax_dt (ax_T 204)).lookup 143 = some (.aload_n 0, 1, 0, 0, 0) := by decide +kernel
theorem l204_144 : (ax_dt (ax_T 204)).lookup 144 = some (.getfield 300, 3, 9, 37, 0) := by decide +kernel
theorem l204_147 : (ax_dt (ax_T 204)).lookup 147 = some (.isub, 1, 0, 0, 0) := by decide +kernel
theorem l204_148 : (ax_dt (ax_T 204)).lookup 148 = some (.ireturn, 1, 0, 0, 0) := by decide +kernel
theorem l204_149 : (ax_dt (ax_T 204)).lookup 149 = some (.aload_n 0, 1, 0, 0, 0) := by decide +kernel
theorem l204_150 : (ax_dt (ax_T 204)).lookup 150 = some (.iconst 0, 1, 0, 0, 0) := by decide +kernel
theorem l204_151 : (ax_dt (ax_T 204)).lookup 151 = some (.putfield 404, 3, 9, 21, 0) := by decide +kernel
theorem l204_154 : (ax_dt (ax_T 204)).lookup 154 = some (.aload_n 0, 1, 0, 0, 0) := by decide +kernel
theorem l204_155 : (ax_dt (ax_T 204)).lookup 155 = some (.iconst 0, 1, 0, 0, 0) := by decide +kernel
theorem l204_156 : (ax_dt (ax_T 204)).lookup 156 = some (.putfield 407, 3, 9, 22, 0) := by decide +kernel
theorem l204_159 : (ax_dt (ax_T 204)).lookup 159 = some (.aload_n 0, 1, 0, 0, 0) := by decide +kernel
theorem l204_160 : (ax_dt (ax_T 204)).lookup 160 = some (.getfield 13, 3, 9, 4, 0) := by decide +kernel
theorem l204_163 : (ax_dt (ax_T 204)).lookup 163 = some (.aload_n 0, 1, 0, 0, 0) := by decide +kernel
theorem l204_164 : (ax_dt (ax_T 204)).lookup 164 = some (.getfield 137, 3, 9, 3, 0) := by decide +kernel
theorem l204_167 : (ax_dt (ax_T 204)).lookup 167 = some (.iaload, 1, 0, 0, 0) := by decide +kernel
theorem l204_168 : (ax_dt (ax_T 204)).lookup 168 = some (.ireturn, 1, 0, 0, 0) := by decide +kernel
noncomputable def F_X11_read_108 (μ : bM) : Option (Int × bM) := if (μ 76 37) = (-1) then bG (0 ≤ ((bset (bset μ 76 21 0) 76 22 0) 76 3) ∧ ((bset (bset μ 76 21 0) 76 22 0) 76 3) < 2) (some (((bset (bset μ 76 21 0) 76 22 0) 78 ((bset (bset μ 76 21 0) 76 22 0) 76 3).toNat), (bset (bset μ 76 21 0) 76 22 0))) else bG (bR (1 - (μ 76 3))) (bG (bR ((-1) - ((bset (bset (bset μ 76 3 (1 - (μ 76 3))) 76 21 ((bset μ 76 3 (1 - (μ 76 3))) 76 38)) 76 22 ((bset (bset μ 76 3 (1 - (μ 76 3))) 76 21 ((bset μ 76 3 (1 - (μ 76 3))) 76 38)) 76 39)) 76 37))) (some (((-1) - ((bset (bset (bset μ 76 3 (1 - (μ 76 3))) 76 21 ((bset μ 76 3 (1 - (μ 76 3))) 76 38)) 76 22 ((bset (bset μ 76 3 (1 - (μ 76 3))) 76 21 ((bset μ 76 3 (1 - (μ 76 3))) 76 38)) 76 39)) 76 37)), (bset (bset (bset μ 76 3 (1 - (μ 76 3))) 76 21 ((bset μ 76 3 (1 - (μ 76 3))) 76 38)) 76 22 ((bset (bset μ 76 3 (1 - (μ 76 3))) 76 21 ((bset μ 76 3 (1 - (μ 76 3))) 76 38)) 76 39)))))
noncomputable def F_X11_read_77 (v2 : Int) (μ : bM) : Option ((Int × bM) ⊕ (Int × bM)) := if ¬ (μ 76 37) = (-1) then bUp (F_X11_read_108 μ) else if (μ 94 0) ≤ v2 then bUp (F_X11_read_108 μ) else bMm (F_X11_readUnit v2 μ) (fun w3 μ4 => some (.inl ((μ4 76 40), μ4)))
noncomputable def F_X11_read (μ : bM) : Option (Int × bM) := bG (bR (1 - ((bset μ 76 0 0) 76 3))) (bG (0 ≤ ((bset (bset μ 76 0 0) 76 3 (1 - ((bset μ 76 0 0) 76 3))) 76 3) ∧ ((bset (bset μ 76 0 0) 76 3 (1 - ((bset μ 76 0 0) 76 3))) 76 3) < 2) (bG (0 ≤ ((bset (bset (bset μ 76 0 0) 76 3 (1 - ((bset μ 76 0 0) 76 3))) 78 ((bset (bset μ 76 0 0) 76 3 (1 - ((bset μ 76 0 0) 76 3))) 76 3).toNat 0) 76 3) ∧ ((bset (bset (bset μ 76 0 0) 76 3 (1 - ((bset μ 76 0 0) 76 3))) 78 ((bset (bset μ 76 0 0) 76 3 (1 - ((bset μ 76 0 0) 76 3))) 76 3).toNat 0) 76 3) < 2) (bG (0 ≤ ((bset (bset (bset (bset μ 76 0 0) 76 3 (1 - ((bset μ 76 0 0) 76 3))) 78 ((bset (bset μ 76 0 0) 76 3 (1 - ((bset μ 76 0 0) 76 3))) 76 3).toNat 0) 79 ((bset (bset (bset μ 76 0 0) 76 3 (1 - ((bset μ 76 0 0) 76 3))) 78 ((bset (bset μ 76 0 0) 76 3 (1 - ((bset μ 76 0 0) 76 3))) 76 3).toNat 0) 76 3).toNat 0) 76 3) ∧ ((bset (bset (bset (bset μ 76 0 0) 76 3 (1 - ((bset μ 76 0 0) 76 3))) 78 ((bset (bset μ 76 0 0) 76 3 (1 - ((bset μ 76 0 0) 76 3))) 76 3).toNat 0) 79 ((bset (bset (bset μ 76 0 0) 76 3 (1 - ((bset μ 76 0 0) 76 3))) 78 ((bset (bset μ 76 0 0) 76 3 (1 - ((bset μ 76 0 0) 76 3))) 76 3).toNat 0) 76 3).toNat 0) 76 3) < 2) (bG (0 ≤ ((bset (bset (bset (bset (bset μ 76 0 0) 76 3 (1 - ((bset μ 76 0 0) 76 3))) 78 ((bset (bset μ 76 0 0) 76 3 (1 - ((bset μ 76 0 0) 76 3))) 76 3).toNat 0) 79 ((bset (bset (bset μ 76 0 0) 76 3 (1 - ((bset μ 76 0 0) 76 3))) 78 ((bset (bset μ 76 0 0) 76 3 (1 - ((bset μ 76 0 0) 76 3))) 76 3).toNat 0) 76 3).toNat 0) 91 ((bset (bset (bset (bset μ 76 0 0) 76 3 (1 - ((bset μ 76 0 0) 76 3))) 78 ((bset (bset μ 76 0 0) 76 3 (1 - ((bset μ 76 0 0) 76 3))) 76 3).toNat 0) 79 ((bset (bset (bset μ 76 0 0) 76 3 (1 - ((bset μ 76 0 0) 76 3))) 78 ((bset (bset μ 76 0 0) 76 3 (1 - ((bset μ 76 0 0) 76 3))) 76 3).toNat 0) 76 3).toNat 0) 76 3).toNat 0) 76 3) ∧ ((bset (bset (bset (bset (bset μ 76 0 0) 76 3 (1 - ((bset μ 76 0 0) 76 3))) 78 ((bset (bset μ 76 0 0) 76 3 (1 - ((bset μ 76 0 0) 76 3))) 76 3).toNat 0) 79 ((bset (bset (bset μ 76 0 0) 76 3 (1 - ((bset μ 76 0 0) 76 3))) 78 ((bset (bset μ 76 0 0) 76 3 (1 - ((bset μ 76 0 0) 76 3))) 76 3).toNat 0) 76 3).toNat 0) 91 ((bset (bset (bset (bset μ 76 0 0) 76 3 (1 - ((bset μ 76 0 0) 76 3))) 78 ((bset (bset μ 76 0 0) 76 3 (1 - ((bset μ 76 0 0) 76 3))) 76 3).toNat 0) 79 ((bset (bset (bset μ 76 0 0) 76 3 (1 - ((bset μ 76 0 0) 76 3))) 78 ((bset (bset μ 76 0 0) 76 3 (1 - ((bset μ 76 0 0) 76 3))) 76 3).toNat 0) 76 3).toNat 0) 76 3).toNat 0) 76 3) < 2) ((F_X11_from 2 (bset (bset (bset (bset (bset (bset (bset μ 76 0 0) 76 3 (1 - ((bset μ 76 0 0) 76 3))) 78 ((bset (bset μ 76 0 0) 76 3 (1 - ((bset μ 76 0 0) 76 3))) 76 3).toNat 0) 79 ((bset (bset (bset μ 76 0 0) 76 3 (1 - ((bset μ 76 0 0) 76 3))) 78 ((bset (bset μ 76 0 0) 76 3 (1 - ((bset μ 76 0 0) 76 3))) 76 3).toNat 0) 76 3).toNat 0) 91 ((bset (bset (bset (bset μ 76 0 0) 76 3 (1 - ((bset μ 76 0 0) 76 3))) 78 ((bset (bset μ 76 0 0) 76 3 (1 - ((bset μ 76 0 0) 76 3))) 76 3).toNat 0) 79 ((bset (bset (bset μ 76 0 0) 76 3 (1 - ((bset μ 76 0 0) 76 3))) 78 ((bset (bset μ 76 0 0) 76 3 (1 - ((bset μ 76 0 0) 76 3))) 76 3).toNat 0) 76 3).toNat 0) 76 3).toNat 0) 90 ((bset (bset (bset (bset (bset μ 76 0 0) 76 3 (1 - ((bset μ 76 0 0) 76 3))) 78 ((bset (bset μ 76 0 0) 76 3 (1 - ((bset μ 76 0 0) 76 3))) 76 3).toNat 0) 79 ((bset (bset (bset μ 76 0 0) 76 3 (1 - ((bset μ 76 0 0) 76 3))) 78 ((bset (bset μ 76 0 0) 76 3 (1 - ((bset μ 76 0 0) 76 3))) 76 3).toNat 0) 76 3).toNat 0) 91 ((bset (bset (bset (bset μ 76 0 0) 76 3 (1 - ((bset μ 76 0 0) 76 3))) 78 ((bset (bset μ 76 0 0) 76 3 (1 - ((bset μ 76 0 0) 76 3))) 76 3).toNat 0) 79 ((bset (bset (bset μ 76 0 0) 76 3 (1 - ((bset μ 76 0 0) 76 3))) 78 ((bset (bset μ 76 0 0) 76 3 (1 - ((bset μ 76 0 0) 76 3))) 76 3).toNat 0) 76 3).toNat 0) 76 3).toNat 0) 76 3).toNat 0) 76 37 (-1))).bind fun w9 => bMm (F_X11_keep w9 ((bset (bset (bset (bset (bset (bset (bset μ 76 0 0) 76 3 (1 - ((bset μ 76 0 0) 76 3))) 78 ((bset (bset μ 76 0 0) 76 3 (1 - ((bset μ 76 0 0) 76 3))) 76 3).toNat 0) 79 ((bset (bset (bset μ 76 0 0) 76 3 (1 - ((bset μ 76 0 0) 76 3))) 78 ((bset (bset μ 76 0 0) 76 3 (1 - ((bset μ 76 0 0) 76 3))) 76 3).toNat 0) 76 3).toNat 0) 91 ((bset (bset (bset (bset μ 76 0 0) 76 3 (1 - ((bset μ 76 0 0) 76 3))) 78 ((bset (bset μ 76 0 0) 76 3 (1 - ((bset μ 76 0 0) 76 3))) 76 3).toNat 0) 79 ((bset (bset (bset μ 76 0 0) 76 3 (1 - ((bset μ 76 0 0) 76 3))) 78 ((bset (bset μ 76 0 0) 76 3 (1 - ((bset μ 76 0 0) 76 3))) 76 3).toNat 0) 76 3).toNat 0) 76 3).toNat 0) 90 ((bset (bset (bset (bset (bset μ 76 0 0) 76 3 (1 - ((bset μ 76 0 0) 76 3))) 78 ((bset (bset μ 76 0 0) 76 3 (1 - ((bset μ 76 0 0) 76 3))) 76 3).toNat 0) 79 ((bset (bset (bset μ 76 0 0) 76 3 (1 - ((bset μ 76 0 0) 76 3))) 78 ((bset (bset μ 76 0 0) 76 3 (1 - ((bset μ 76 0 0) 76 3))) 76 3).toNat 0) 76 3).toNat 0) 91 ((bset (bset (bset (bset μ 76 0 0) 76 3 (1 - ((bset μ 76 0 0) 76 3))) 78 ((bset (bset μ 76 0 0) 76 3 (1 - ((bset μ 76 0 0) 76 3))) 76 3).toNat 0) 79 ((bset (bset (bset μ 76 0 0) 76 3 (1 - ((bset μ 76 0 0) 76 3))) 78 ((bset (bset μ 76 0 0) 76 3 (1 - ((bset μ 76 0 0) 76 3))) 76 3).toNat 0) 76 3).toNat 0) 76 3).toNat 0) 76 3).toNat 0) 76 37 (-1)) 94 2) (bset (bset (bset (bset (bset (bset (bset μ 76 0 0) 76 3 (1 - ((bset μ 76 0 0) 76 3))) 78 ((bset (bset μ 76 0 0) 76 3 (1 - ((bset μ 76 0 0) 76 3))) 76 3).toNat 0) 79 ((bset (bset (bset μ 76 0 0) 76 3 (1 - ((bset μ 76 0 0) 76 3))) 78 ((bset (bset μ 76 0 0) 76 3 (1 - ((bset μ 76 0 0) 76 3))) 76 3).toNat 0) 76 3).toNat 0) 91 ((bset (bset (bset (bset μ 76 0 0) 76 3 (1 - ((bset μ 76 0 0) 76 3))) 78 ((bset (bset μ 76 0 0) 76 3 (1 - ((bset μ 76 0 0) 76 3))) 76 3).toNat 0) 79 ((bset (bset (bset μ 76 0 0) 76 3 (1 - ((bset μ 76 0 0) 76 3))) 78 ((bset (bset μ 76 0 0) 76 3 (1 - ((bset μ 76 0 0) 76 3))) 76 3).toNat 0) 76 3).toNat 0) 76 3).toNat 0) 90 ((bset (bset (bset (bset (bset μ 76 0 0) 76 3 (1 - ((bset μ 76 0 0) 76 3))) 78 ((bset (bset μ 76 0 0) 76 3 (1 - ((bset μ 76 0 0) 76 3))) 76 3).toNat 0) 79 ((bset (bset (bset μ 76 0 0) 76 3 (1 - ((bset μ 76 0 0) 76 3))) 78 ((bset (bset μ 76 0 0) 76 3 (1 - ((bset μ 76 0 0) 76 3))) 76 3).toNat 0) 76 3).toNat 0) 91 ((bset (bset (bset (bset μ 76 0 0) 76 3 (1 - ((bset μ 76 0 0) 76 3))) 78 ((bset (bset μ 76 0 0) 76 3 (1 - ((bset μ 76 0 0) 76 3))) 76 3).toNat 0) 79 ((bset (bset (bset μ 76 0 0) 76 3 (1 - ((bset μ 76 0 0) 76 3))) 78 ((bset (bset μ 76 0 0) 76 3 (1 - ((bset μ 76 0 0) 76 3))) 76 3).toNat 0) 76 3).toNat 0) 76 3).toNat 0) 76 3).toNat 0) 76 37 (-1))) (fun w10 μ11 => bLoop (fun z => F_X11_read_77 z.1 z.2) (0, μ11)))))))
theorem p_X11_read_108 {L : Nat} {xs : Nat → Int32} {d : Nat} {μ : bM}  {κ : (Int × bM) → Option bX} (hr : ∀ r : Int × bM, κ r = (bMc) r)   : bD L xs (d + 8) 204 108 [(0, .ref 76)] [] μ ((F_X11_read_108 μ).bind κ) := by
  unfold F_X11_read_108
  refine bD.ok fun hk => ?_
  refine b_s (pc' := 109) (lv1 := [(0, .ref 76)]) (st' := [.ref 76]) l204_108 (fun _ => rfl) ?_
  refine b_gi l204_109 (by rfl) (by decide) (by decide) rfl (b_pc (pc' := 112) rfl ?_)
  refine b_s (pc' := 113) (lv1 := [(0, .ref 76)]) (st' := [bI (-1), bI (μ 76 37)]) l204_112 (fun _ => rfl) ?_
  refine b_ieq (pt := 149) l204_113 (bO_f hk (ci := 9) (by rfl) rfl) (by decide) (by decide) rfl (fun c1 => ?_) (fun c1 => b_pc (pc' := 116) rfl ?_)
  · refine b_s (pc' := 150) (lv1 := [(0, .ref 76)]) (st' := [.ref 76]) l204_149 (fun _ => rfl) ?_
    refine b_s (pc' := 151) (lv1 := [(0, .ref 76)]) (st' := [bI 0, .ref 76]) l204_150 (fun _ => rfl) ?_
    refine b_pi l204_151 (by rfl) (by decide) (by decide) rfl rfl (by decide) (bD.ok fun hk2 => b_pc (pc' := 154) rfl ?_)
    refine b_s (pc' := 155) (lv1 := [(0, .ref 76)]) (st' := [.ref 76]) l204_154 (fun _ => rfl) ?_
    refine b_s (pc' := 156) (lv1 := [(0, .ref 76)]) (st' := [bI 0, .ref 76]) l204_155 (fun _ => rfl) ?_
    refine b_pi l204_156 (by rfl) (by decide) (by decide) rfl rfl (by decide) (bD.ok fun hk3 => b_pc (pc' := 159) rfl ?_)
    refine b_s (pc' := 160) (lv1 := [(0, .ref 76)]) (st' := [.ref 76]) l204_159 (fun _ => rfl) ?_
    refine b_gp (q' := 78) (j := 2) l204_160 (by rfl) (by decide) (by decide) rfl hk3 rfl rfl (b_pc (pc' := 163) rfl ?_)
    refine b_s (pc' := 164) (lv1 := [(0, .ref 76)]) (st' := [.ref 76, .ref 78]) l204_163 (fun _ => rfl) ?_
    refine b_gi l204_164 (by rfl) (by decide) (by decide) rfl (b_pc (pc' := 167) rfl ?_)
    refine b_g fun g4 => ?_
    refine b_ial l204_167 (by rfl) g4 (b_pc (pc' := 168) rfl ?_)
    exact b_reti l204_168 rfl (bO_i hk3 (by rfl)) (hr _)
  · refine b_s (pc' := 117) (lv1 := [(0, .ref 76)]) (st' := [.ref 76]) l204_116 (fun _ => rfl) ?_
    refine b_s (pc' := 118) (lv1 := [(0, .ref 76)]) (st' := [bI 1, .ref 76]) l204_117 (fun _ => rfl) ?_
    refine b_s (pc' := 119) (lv1 := [(0, .ref 76)]) (st' := [.ref 76, bI 1, .ref 76]) l204_118 (fun _ => rfl) ?_
    refine b_gi l204_119 (by rfl) (by decide) (by decide) rfl (b_pc (pc' := 122) rfl ?_)
    refine b_isub l204_122 fun g5 => (b_pc (pc' := 123) rfl ?_)
    refine b_pi l204_123 (by rfl) (by decide) (by decide) rfl rfl g5 (bD.ok fun hk6 => b_pc (pc' := 126) rfl ?_)
    refine b_s (pc' := 127) (lv1 := [(0, .ref 76)]) (st' := [.ref 76]) l204_126 (fun _ => rfl) ?_
    refine b_s (pc' := 128) (lv1 := [(0, .ref 76)]) (st' := [.ref 76, .ref 76]) l204_127 (fun _ => rfl) ?_
    refine b_gi l204_128 (by rfl) (by decide) (by decide) rfl (b_pc (pc' := 131) rfl ?_)
    refine b_pi l204_131 (by rfl) (by decide) (by decide) rfl rfl (bO_f hk6 (ci := 9) (by rfl) rfl) (bD.ok fun hk7 => b_pc (pc' := 134) rfl ?_)
    refine b_s (pc' := 135) (lv1 := [(0, .ref 76)]) (st' := [.ref 76]) l204_134 (fun _ => rfl) ?_
    refine b_s (pc' := 136) (lv1 := [(0, .ref 76)]) (st' := [.ref 76, .ref 76]) l204_135 (fun _ => rfl) ?_
    refine b_gi l204_136 (by rfl) (by decide) (by decide) rfl (b_pc (pc' := 139) rfl ?_)
    refine b_pi l204_139 (by rfl) (by decide) (by decide) rfl rfl (bO_f hk7 (ci := 9) (by rfl) rfl) (bD.ok fun hk8 => b_pc (pc' := 142) rfl ?_)
    refine b_s (pc' := 143) (lv1 := [(0, .ref 76)]) (st' := [bI (-1)]) l204_142 (fun _ => rfl) ?_
    refine b_s (pc' := 144) (lv1 := [(0, .ref 76)]) (st' := [.ref 76, bI (-1)]) l204_143 (fun _ => rfl) ?_
    refine b_gi l204_144 (by rfl) (by decide) (by decide) rfl (b_pc (pc' := 147) rfl ?_)
    refine b_isub l204_147 fun g9 => (b_pc (pc' := 148) rfl ?_)
    exact b_reti l204_148 rfl g9 (hr _)
theorem q_X11_read_77 {L : Nat} {xs : Nat → Int32} {d : Nat} {μ : bM}  {κ : ((Int × bM) ⊕ (Int × bM)) → Option bX} (hr : ∀ r : Int × bM, κ (.inr r) = (bMc) r) (H77 : ∀ (v2 : Int) (μ : bM), bR v2 → bD L xs (d + 8) 204 77 [(0, .ref 76), (2, bI v2)] [] μ (κ (.inl (v2, μ))))  {v2 : Int} (h2 : bR v2) : bD L xs (d + 8) 204 77 [(0, .ref 76), (2, bI v2)] [] μ ((F_X11_read_77 v2 μ).bind κ) := by
  unfold F_X11_read_77
  refine bD.ok fun hk => ?_
  refine b_s (pc' := 78) (lv1 := [(0, .ref 76), (2, bI v2)]) (st' := [.ref 76]) l204_77 (fun _ => rfl) ?_
  refine b_gi l204_78 (by rfl) (by decide) (by decide) rfl (b_pc (pc' := 81) rfl ?_)
  refine b_s (pc' := 82) (lv1 := [(0, .ref 76), (2, bI v2)]) (st' := [bI (-1), bI (μ 76 37)]) l204_81 (fun _ => rfl) ?_
  refine b_ine (pt := 108) l204_82 (bO_f hk (ci := 9) (by rfl) rfl) (by decide) (by decide) rfl (fun c1 => ?_) (fun c1 => b_pc (pc' := 85) rfl ?_)
  · refine b_up (fun _ => rfl) ?_
    refine bD.wk (lv' := [(0, .ref 76)]) (bSb rfl bSn) ?_
    exact p_X11_read_108 hr 
  · refine b_s (pc' := 86) (lv1 := [(0, .ref 76), (2, bI v2)]) (st' := [bI v2]) l204_85 (fun _ => rfl) ?_
    refine b_s (pc' := 87) (lv1 := [(0, .ref 76), (2, bI v2)]) (st' := [.ref 76, bI v2]) l204_86 (fun _ => rfl) ?_
    refine b_gp (q' := 94) (j := 18) l204_87 (by rfl) (by decide) (by decide) rfl hk rfl rfl (b_pc (pc' := 90) rfl ?_)
    refine b_s (pc' := 91) (lv1 := [(0, .ref 76), (2, bI v2)]) (st' := [bI 0, .ref 94, bI v2]) l204_90 (fun _ => rfl) ?_
    refine b_ial l204_91 (by rfl) (by decide) (b_pc (pc' := 92) rfl ?_)
    refine b_ige (pt := 108) l204_92 h2 (bO_i hk (by rfl)) (by decide) rfl (fun c2 => ?_) (fun c2 => b_pc (pc' := 95) rfl ?_)
    · refine b_up (fun _ => rfl) ?_
      refine bD.wk (lv' := [(0, .ref 76)]) (bSb rfl bSn) ?_
      exact p_X11_read_108 hr 
    · refine b_s (pc' := 96) (lv1 := [(0, .ref 76), (2, bI v2)]) (st' := [.ref 76]) l204_95 (fun _ => rfl) ?_
      refine b_s (pc' := 97) (lv1 := [(0, .ref 76), (2, bI v2)]) (st' := [bI v2, .ref 76]) l204_96 (fun _ => rfl) ?_
      refine b_cMv l204_97 rfl (b_rc (ci := 9) (by rfl) (by decide) (by decide +kernel)) (Nat.le_of_ble_eq_true rfl) (Nat.le_of_ble_eq_true rfl) rfl (r_X11_readUnit v2 h2) fun w3 μ4 hw3 => bD.ok fun hk5 => b_pc (pc' := 100) rfl ?_
      refine b_s (pc' := 101) (lv1 := [(0, .ref 76), (2, bI v2)]) (st' := [.ref 76]) l204_100 (fun _ => rfl) ?_
      refine b_gi l204_101 (by rfl) (by decide) (by decide) rfl (b_pc (pc' := 104) rfl ?_)
      refine b_w (pc' := 105) (lv1 := ax_st1 [(0, .ref 76), (2, bI v2)] 2 (bI (μ4 76 40))) (lv' := [(0, .ref 76), (2, bI (μ4 76 40))]) (st' := []) l204_104 (fun _ => rfl) (bSb rfl (bSb rfl bSn)) ?_
      refine b_s (pc' := 77) (lv1 := [(0, .ref 76), (2, bI (μ4 76 40))]) (st' := []) l204_105 (fun _ => rfl) ?_
      refine bD.wk (lv' := [(0, .ref 76), (2, bI (μ4 76 40))]) (bSb rfl (bSb rfl bSn)) ?_
      exact H77 (μ4 76 40) μ4 (bO_f hk5 (ci := 9) (by rfl) rfl)
theorem p_X11_read_77 {L : Nat} {xs : Nat → Int32} {d : Nat} {μ : bM}  {κ : (Int × bM) → Option bX} (hr : ∀ r : Int × bM, κ r = (bMc) r)  {v2 : Int} (h2 : bR v2) : bD L xs (d + 8) 204 77 [(0, .ref 76), (2, bI v2)] [] μ ((bLoop (fun z => F_X11_read_77 z.1 z.2) (v2, μ)).bind κ) :=
  b_loop (fun z => [(0, .ref 76), (2, bI z.1)]) (fun z => z.2) (fun z => bR z.1) (fun κ' hκ HH z hz => q_X11_read_77 (κ := κ') (fun r => (hκ _).trans (hr r)) (fun a2 am b2 => HH (a2, am) b2)  hz) (v2, μ) h2
theorem r_X11_read {L : Nat} {xs : Nat → Int32} {d : Nat} {μ : bM}   : bD L xs (d + 8) 204 0 [(0, .ref 76)] [] μ ((F_X11_read μ).bind (bMc)) := by
  have hr : ∀ r, (bMc) r = (bMc) r := fun _ => rfl
  unfold F_X11_read
  refine bD.ok fun hk => ?_
  refine b_s (pc' := 1) (lv1 := [(0, .ref 76)]) (st' := [.ref 76]) l204_0 (fun _ => rfl) ?_
  refine b_s (pc' := 2) (lv1 := [(0, .ref 76)]) (st' := [bI 0, .ref 76]) l204_1 (fun _ => rfl) ?_
  refine b_pi l204_2 (by rfl) (by decide) (by decide) rfl rfl (by decide) (bD.ok fun hk1 => b_pc (pc' := 5) rfl ?_)
  refine b_s (pc' := 6) (lv1 := [(0, .ref 76)]) (st' := [.ref 76]) l204_5 (fun _ => rfl) ?_
  refine b_s (pc' := 7) (lv1 := [(0, .ref 76)]) (st' := [bI 1, .ref 76]) l204_6 (fun _ => rfl) ?_
  refine b_s (pc' := 8) (lv1 := [(0, .ref 76)]) (st' := [.ref 76, bI 1, .ref 76]) l204_7 (fun _ => rfl) ?_
  refine b_gi l204_8 (by rfl) (by decide) (by decide) rfl (b_pc (pc' := 11) rfl ?_)
  refine b_isub l204_11 fun g2 => (b_pc (pc' := 12) rfl ?_)
  refine b_pi l204_12 (by rfl) (by decide) (by decide) rfl rfl g2 (bD.ok fun hk3 => b_pc (pc' := 15) rfl ?_)
  refine b_s (pc' := 16) (lv1 := [(0, .ref 76)]) (st' := [.ref 76]) l204_15 (fun _ => rfl) ?_
  refine b_gp (q' := 78) (j := 2) l204_16 (by rfl) (by decide) (by decide) rfl hk3 rfl rfl (b_pc (pc' := 19) rfl ?_)
  refine b_s (pc' := 20) (lv1 := [(0, .ref 76)]) (st' := [.ref 76, .ref 78]) l204_19 (fun _ => rfl) ?_
  refine b_gi l204_20 (by rfl) (by decide) (by decide) rfl (b_pc (pc' := 23) rfl ?_)
  refine b_s (pc' := 24) (lv1 := [(0, .ref 76)]) (st' := [bI 0, bI ((bset (bset μ 76 0 0) 76 3 (1 - ((bset μ 76 0 0) 76 3))) 76 3), .ref 78]) l204_23 (fun _ => rfl) ?_
  refine b_g fun g16 => ?_
  refine b_ias l204_24 (by rfl) g16 (by decide) (bD.ok fun hk4 => b_pc (pc' := 25) rfl ?_)
  refine b_s (pc' := 26) (lv1 := [(0, .ref 76)]) (st' := [.ref 76]) l204_25 (fun _ => rfl) ?_
  refine b_gp (q' := 79) (j := 3) l204_26 (by rfl) (by decide) (by decide) rfl hk4 rfl rfl (b_pc (pc' := 29) rfl ?_)
  refine b_s (pc' := 30) (lv1 := [(0, .ref 76)]) (st' := [.ref 76, .ref 79]) l204_29 (fun _ => rfl) ?_
  refine b_gi l204_30 (by rfl) (by decide) (by decide) rfl (b_pc (pc' := 33) rfl ?_)
  refine b_s (pc' := 34) (lv1 := [(0, .ref 76)]) (st' := [bI 0, bI ((bset (bset (bset μ 76 0 0) 76 3 (1 - ((bset μ 76 0 0) 76 3))) 78 ((bset (bset μ 76 0 0) 76 3 (1 - ((bset μ 76 0 0) 76 3))) 76 3).toNat 0) 76 3), .ref 79]) l204_33 (fun _ => rfl) ?_
  refine b_g fun g15 => ?_
  refine b_ias l204_34 (by rfl) g15 (by decide) (bD.ok fun hk5 => b_pc (pc' := 35) rfl ?_)
  refine b_s (pc' := 36) (lv1 := [(0, .ref 76)]) (st' := [.ref 76]) l204_35 (fun _ => rfl) ?_
  refine b_gp (q' := 91) (j := 15) l204_36 (by rfl) (by decide) (by decide) rfl hk5 rfl rfl (b_pc (pc' := 39) rfl ?_)
  refine b_s (pc' := 40) (lv1 := [(0, .ref 76)]) (st' := [.ref 76, .ref 91]) l204_39 (fun _ => rfl) ?_
  refine b_gi l204_40 (by rfl) (by decide) (by decide) rfl (b_pc (pc' := 43) rfl ?_)
  refine b_s (pc' := 44) (lv1 := [(0, .ref 76)]) (st' := [bI 0, bI ((bset (bset (bset (bset μ 76 0 0) 76 3 (1 - ((bset μ 76 0 0) 76 3))) 78 ((bset (bset μ 76 0 0) 76 3 (1 - ((bset μ 76 0 0) 76 3))) 76 3).toNat 0) 79 ((bset (bset (bset μ 76 0 0) 76 3 (1 - ((bset μ 76 0 0) 76 3))) 78 ((bset (bset μ 76 0 0) 76 3 (1 - ((bset μ 76 0 0) 76 3))) 76 3).toNat 0) 76 3).toNat 0) 76 3), .ref 91]) l204_43 (fun _ => rfl) ?_
  refine b_g fun g14 => ?_
  refine b_ias l204_44 (by rfl) g14 (by decide) (bD.ok fun hk6 => b_pc (pc' := 45) rfl ?_)
  refine b_s (pc' := 46) (lv1 := [(0, .ref 76)]) (st' := [.ref 76]) l204_45 (fun _ => rfl) ?_
  refine b_gp (q' := 90) (j := 14) l204_46 (by rfl) (by decide) (by decide) rfl hk6 rfl rfl (b_pc (pc' := 49) rfl ?_)
  refine b_s (pc' := 50) (lv1 := [(0, .ref 76)]) (st' := [.ref 76, .ref 90]) l204_49 (fun _ => rfl) ?_
  refine b_gi l204_50 (by rfl) (by decide) (by decide) rfl (b_pc (pc' := 53) rfl ?_)
  refine b_s (pc' := 54) (lv1 := [(0, .ref 76)]) (st' := [bI 0, bI ((bset (bset (bset (bset (bset μ 76 0 0) 76 3 (1 - ((bset μ 76 0 0) 76 3))) 78 ((bset (bset μ 76 0 0) 76 3 (1 - ((bset μ 76 0 0) 76 3))) 76 3).toNat 0) 79 ((bset (bset (bset μ 76 0 0) 76 3 (1 - ((bset μ 76 0 0) 76 3))) 78 ((bset (bset μ 76 0 0) 76 3 (1 - ((bset μ 76 0 0) 76 3))) 76 3).toNat 0) 76 3).toNat 0) 91 ((bset (bset (bset (bset μ 76 0 0) 76 3 (1 - ((bset μ 76 0 0) 76 3))) 78 ((bset (bset μ 76 0 0) 76 3 (1 - ((bset μ 76 0 0) 76 3))) 76 3).toNat 0) 79 ((bset (bset (bset μ 76 0 0) 76 3 (1 - ((bset μ 76 0 0) 76 3))) 78 ((bset (bset μ 76 0 0) 76 3 (1 - ((bset μ 76 0 0) 76 3))) 76 3).toNat 0) 76 3).toNat 0) 76 3).toNat 0) 76 3), .ref 90]) l204_53 (fun _ => rfl) ?_
  refine b_g fun g13 => ?_
  refine b_ias l204_54 (by rfl) g13 (by decide) (bD.ok fun hk7 => b_pc (pc' := 55) rfl ?_)
  refine b_s (pc' := 56) (lv1 := [(0, .ref 76)]) (st' := [.ref 76]) l204_55 (fun _ => rfl) ?_
  refine b_s (pc' := 57) (lv1 := [(0, .ref 76)]) (st' := [bI (-1), .ref 76]) l204_56 (fun _ => rfl) ?_
  refine b_pi l204_57 (by rfl) (by decide) (by decide) rfl rfl (by decide) (bD.ok fun hk8 => b_pc (pc' := 60) rfl ?_)
  refine b_s (pc' := 61) (lv1 := [(0, .ref 76)]) (st' := [.ref 76]) l204_60 (fun _ => rfl) ?_
  refine b_s (pc' := 62) (lv1 := [(0, .ref 76)]) (st' := [bI 2, .ref 76]) l204_61 (fun _ => rfl) ?_
  refine b_cPi l204_62 rfl (fun _ => trivial) (Nat.le_of_ble_eq_true rfl) (Nat.le_of_ble_eq_true rfl) rfl (r_X11_from 2 (by decide)) fun w9 hw9 => b_pc (pc' := 65) rfl ?_
  refine b_s (pc' := 66) (lv1 := [(0, .ref 76)]) (st' := [.ref 76, bI w9, .ref 76]) l204_65 (fun _ => rfl) ?_
  refine b_gp (q' := 94) (j := 18) l204_66 (by rfl) (by decide) (by decide) rfl hk8 rfl rfl (b_pc (pc' := 69) rfl ?_)
  refine b_s (pc' := 70) (lv1 := [(0, .ref 76)]) (st' := [bI 2, .ref 94, bI w9, .ref 76]) l204_69 (fun _ => rfl) ?_
  refine b_ial l204_70 (by rfl) (by decide) (b_pc (pc' := 71) rfl ?_)
  refine b_cMi l204_71 rfl (b_rc (ci := 9) (by rfl) (by decide) (by decide +kernel)) (Nat.le_of_ble_eq_true rfl) (Nat.le_of_ble_eq_true rfl) rfl (r_X11_keep w9 hw9 ((bset (bset (bset (bset (bset (bset (bset μ 76 0 0) 76 3 (1 - ((bset μ 76 0 0) 76 3))) 78 ((bset (bset μ 76 0 0) 76 3 (1 - ((bset μ 76 0 0) 76 3))) 76 3).toNat 0) 79 ((bset (bset (bset μ 76 0 0) 76 3 (1 - ((bset μ 76 0 0) 76 3))) 78 ((bset (bset μ 76 0 0) 76 3 (1 - ((bset μ 76 0 0) 76 3))) 76 3).toNat 0) 76 3).toNat 0) 91 ((bset (bset (bset (bset μ 76 0 0) 76 3 (1 - ((bset μ 76 0 0) 76 3))) 78 ((bset (bset μ 76 0 0) 76 3 (1 - ((bset μ 76 0 0) 76 3))) 76 3).toNat 0) 79 ((bset (bset (bset μ 76 0 0) 76 3 (1 - ((bset μ 76 0 0) 76 3))) 78 ((bset (bset μ 76 0 0) 76 3 (1 - ((bset μ 76 0 0) 76 3))) 76 3).toNat 0) 76 3).toNat 0) 76 3).toNat 0) 90 ((bset (bset (bset (bset (bset μ 76 0 0) 76 3 (1 - ((bset μ 76 0 0) 76 3))) 78 ((bset (bset μ 76 0 0) 76 3 (1 - ((bset μ 76 0 0) 76 3))) 76 3).toNat 0) 79 ((bset (bset (bset μ 76 0 0) 76 3 (1 - ((bset μ 76 0 0) 76 3))) 78 ((bset (bset μ 76 0 0) 76 3 (1 - ((bset μ 76 0 0) 76 3))) 76 3).toNat 0) 76 3).toNat 0) 91 ((bset (bset (bset (bset μ 76 0 0) 76 3 (1 - ((bset μ 76 0 0) 76 3))) 78 ((bset (bset μ 76 0 0) 76 3 (1 - ((bset μ 76 0 0) 76 3))) 76 3).toNat 0) 79 ((bset (bset (bset μ 76 0 0) 76 3 (1 - ((bset μ 76 0 0) 76 3))) 78 ((bset (bset μ 76 0 0) 76 3 (1 - ((bset μ 76 0 0) 76 3))) 76 3).toNat 0) 76 3).toNat 0) 76 3).toNat 0) 76 3).toNat 0) 76 37 (-1)) 94 2) (bO_i hk8 (by rfl))) fun w10 μ11 hw10 => bD.ok fun hk12 => b_pc (pc' := 74) rfl ?_
  refine b_w (pc' := 75) (lv1 := ax_st1 [(0, .ref 76)] 1 (bI w10)) (lv' := [(0, .ref 76)]) (st' := []) l204_74 (fun _ => rfl) (bSb rfl bSn) ?_
  refine b_s (pc' := 76) (lv1 := [(0, .ref 76)]) (st' := [bI 0]) l204_75 (fun _ => rfl) ?_
  refine b_w (pc' := 77) (lv1 := ax_st1 [(0, .ref 76)] 2 (bI 0)) (lv' := [(0, .ref 76), (2, bI 0)]) (st' := []) l204_76 (fun _ => rfl) (bSb rfl (bSb rfl bSn)) ?_
  refine bD.wk (lv' := [(0, .ref 76), (2, bI 0)]) (bSb rfl (bSb rfl bSn)) ?_
  exact p_X11_read_77 hr (by decide)
/-! ETModel.fault -/
theorem l205_0 : (ax_dt (ax_T 205)).lookup 0 = some (.aload_n 0, 1, 0, 0, 0) := by decide +kernel
theorem l205_1 : (ax_dt (ax_T 205)).lookup 1 = some (.iload_n 1, 1, 0, 0, 0) := by decide +kernel
theorem l205_2 : (ax_dt (ax_T 205)).lookup 2 = some (.i2l, 1, 0, 0, 0) := by decide +kernel
theorem l205_3 : (ax_dt (ax_T 205)).lookup 3 = some (.lconst 0, 1, 0, 0, 0) := by decide +kernel
theorem l205_4 : (ax_dt (ax_T 205)).lookup 4 = some (.lconst 1, 1, 0, 0, 0) := by decide +kernel
theorem l205_5 : (ax_dt (ax_T 205)).lookup 5 = some (.invokestatic 131, 3, 133, 3, 0) := by decide +kernel
theorem l205_8 : (ax_dt (ax_T 205)).lookup 8 = some (.invokevirtual 127, 3, 134, 1, 0) := by decide +kernel
theorem l205_11 : (ax_dt (ax_T 205)).lookup 11 = some (.ifCond .eq 21, 3, 0, 0, 0) := by decide +kernel
theorem l205_14 : (ax_dt (ax_T 205)).lookup 14 = some (.iload_n 1, 1, 0, 0, 0) := by decide +kernel
theorem l205_15 : (ax_dt (ax_T 205)).lookup 15 = some (.ifCond .ne 10, 3, 0, 0, 0) := by decide +kernel
theorem l205_18 : (ax_dt (ax_T 205)).lookup 18 = some (.aload_n 0, 1, 0, 0, 0) := by decide +kernel
theorem l205_19 : (ax_dt (ax_T 205)).lookup 19 = some (.getfield 404, 3, 9, 21, 0) := by decide +kernel
theorem l205_22 : (ax_dt (ax_T 205)).lookup 22 = some (.goto 11, 3, 0, 0, 0) := by decide +kernel
theorem l205_25 : (ax_dt (ax_T 205)).lookup 25 = some (.aload_n 0, 1, 0, 0, 0) := by decide +kernel
theorem l205_26 : (ax_dt (ax_T 205)).lookup 26 = some (.getfield 407, 3, 9, 22, 0) := by decide +kernel
theorem l205_29 : (ax_dt (ax_T 205)).lookup 29 = some (.goto 4, 3, 0, 0, 0) := by decide +kernel
theorem l205_32 : (ax_dt (ax_T 205)).lookup 32 = some (.iconst 0, 1, 0, 0, 0) := by decide +kernel
theorem l205_33 : (ax_dt (ax_T 205)).lookup 33 = some (.ireturn, 1, 0, 0, 0) := by decide +kernel
noncomputable def F_X11_fault (v1 : Int) (μ : bM) : Option (Int × bM) := (F_X11_in v1 0 1 μ).bind fun w1 => bMm (F_X11_goes w1 μ) (fun w2 μ3 => if w2 = 0 then some (0, μ3) else if ¬ v1 = 0 then some ((μ3 76 22), μ3) else some ((μ3 76 21), μ3))
theorem r_X11_fault {L : Nat} {xs : Nat → Int32} {d : Nat} {μ : bM}  (v1 : Int) (h1 : bR v1) : bD L xs (d + 1) 205 0 [(0, .ref 76), (1, bI v1)] [] μ ((F_X11_fault v1 μ).bind (bMc)) := by
  have hr : ∀ r, (bMc) r = (bMc) r := fun _ => rfl
  unfold F_X11_fault
  refine bD.ok fun hk => ?_
  refine b_s (pc' := 1) (lv1 := [(0, .ref 76), (1, bI v1)]) (st' := [.ref 76]) l205_0 (fun _ => rfl) ?_
  refine b_s (pc' := 2) (lv1 := [(0, .ref 76), (1, bI v1)]) (st' := [bI v1, .ref 76]) l205_1 (fun _ => rfl) ?_
  refine b_i2l l205_2 h1 (b_pc (pc' := 3) rfl ?_)
  refine b_lconst (e := 0) l205_3 (by decide) (b_pc (pc' := 4) rfl ?_)
  refine b_lconst (e := 1) l205_4 (by decide) (b_pc (pc' := 5) rfl ?_)
  refine b_cPz l205_5 rfl (fun _ => trivial) (Nat.le_of_ble_eq_true rfl) (Nat.le_of_ble_eq_true rfl) rfl (r_X11_in v1 (bR_L h1) 0 (by decide) 1 (by decide)) fun w1 hw1 => b_pc (pc' := 8) rfl ?_
  refine b_cMz l205_8 rfl (b_rc (ci := 9) (by rfl) (by decide) (by decide +kernel)) (Nat.le_of_ble_eq_true rfl) (Nat.le_of_ble_eq_true rfl) rfl (r_X11_goes w1 (bZ_R hw1)) fun w2 μ3 hw2 => bD.ok fun hk4 => b_pc (pc' := 11) rfl ?_
  refine b_zeq (pt := 32) l205_11 (bZ_R hw2) (by decide) rfl (fun c5 => ?_) (fun c5 => b_pc (pc' := 14) rfl ?_)
  · refine b_s (pc' := 33) (lv1 := [(0, .ref 76), (1, bI v1)]) (st' := [bI 0]) l205_32 (fun _ => rfl) ?_
    exact b_reti l205_33 rfl (by decide) (hr _)
  · refine b_s (pc' := 15) (lv1 := [(0, .ref 76), (1, bI v1)]) (st' := [bI v1]) l205_14 (fun _ => rfl) ?_
    refine b_zne (pt := 25) l205_15 h1 (by decide) rfl (fun c6 => ?_) (fun c6 => b_pc (pc' := 18) rfl ?_)
    · refine b_s (pc' := 26) (lv1 := [(0, .ref 76), (1, bI v1)]) (st' := [.ref 76]) l205_25 (fun _ => rfl) ?_
      refine b_gi l205_26 (by rfl) (by decide) (by decide) rfl (b_pc (pc' := 29) rfl ?_)
      refine b_s (pc' := 33) (lv1 := [(0, .ref 76), (1, bI v1)]) (st' := [bI (μ3 76 22)]) l205_29 (fun _ => rfl) ?_
      exact b_reti l205_33 rfl (bO_f hk4 (ci := 9) (by rfl) rfl) (hr _)
    · refine b_s (pc' := 19) (lv1 := [(0, .ref 76), (1, bI v1)]) (st' := [.ref 76]) l205_18 (fun _ => rfl) ?_
      refine b_gi l205_19 (by rfl) (by decide) (by decide) rfl (b_pc (pc' := 22) rfl ?_)
      refine b_s (pc' := 33) (lv1 := [(0, .ref 76), (1, bI v1)]) (st' := [bI (μ3 76 21)]) l205_22 (fun _ => rfl) ?_
      exact b_reti l205_33 rfl (bO_f hk4 (ci := 9) (by rfl) rfl) (hr _)
/-! ETModel.count -/
theorem l206_0 : (ax_dt (ax_T 206)).lookup 0 = some (.aload_n 0, 1, 0, 0, 0) := by decide +kernel
theorem l206_1 : (ax_dt (ax_T 206)).lookup 1 = some (.iload_n 1, 1, 0, 0, 0) := by decide +kernel
theorem l206_2 : (ax_dt (ax_T 206)).lookup 2 = some (.i2l, 1, 0, 0, 0) := by decide +kernel
theorem l206_3 : (ax_dt (ax_T 206)).lookup 3 = some (.lconst 0, 1, 0, 0, 0) := by decide +kernel
theorem l206_4 : (ax_dt (ax_T 206)).lookup 4 = some (.ldc2_w 410, 3, 0, 0, 3) := by decide +kernel
theorem l206_7 : (ax_dt (ax_T 206)).lookup 7 = some (.invokestatic 131, 3, 133, 3, 0) := by decide +kernel
theorem l206_10 : (ax_dt (ax_T 206)).lookup 10 = some (.invokevirtual 127, 3, 134, 1, 0) := by decide +kernel
theorem l206_13 : (ax_dt (ax_T 206)).lookup 13 = some (.ifCond .ne 5, 3, 0, 0, 0) := by decide +kernel
theorem l206_16 : (ax_dt (ax_T 206)).lookup 16 = some (.iconst 0, 1, 0, 0, 0) := by decide +kernel
theorem l206_17 : (ax_dt (ax_T 206)).lookup 17 = some (.ireturn, 1, 0, 0, 0) := by decide +kernel
theorem l206_18 : (ax_dt (ax_T 206)).lookup 18 = some (.iload_n 1, 1, 0, 0, 0) := by decide +kernel
theorem l206_19 : (ax_dt (ax_T 206)).lookup 19 = some (.iconst 2, 1, 0, 0, 0) := by decide +kernel
theorem l206_20 : (ax_dt (ax_T 206)).lookup 20 = some (.if_icmp .ge 29, 3, 0, 0, 0) := by decide +kernel
theorem l206_23 : (ax_dt (ax_T 206)).lookup 23 = some (.iload_n 1, 1, 0, 0, 0) := by decide +kernel
theorem l206_24 : (ax_dt (ax_T 206)).lookup 24 = some (.ifCond .ne 15, 3, 0, 0, 0) := by decide +kernel
theorem l206_27 : (ax_dt (ax_T 206)).lookup 27 = some (.aload_n 0, 1, 0, 0, 0) := by decide +kernel
theorem l206_28 : (ax_dt (ax_T 206)).lookup 28 = some (.getfield 13, 3, 9, 4, 0) := by decide +kernel
theorem l206_31 : (ax_dt (ax_T 206)).lookup 31 = some (.aload_n 0, 1, 0, 0, 0) := by decide +kernel
theorem l206_32 : (ax_dt (ax_T 206)).lookup 32 = some (.getfield 137, 3, 9, 3, 0) := by decide +kernel
theorem l206_35 : (ax_dt (ax_T 206)).lookup 35 = some (.iaload, 1, 0, 0, 0) := by decide +kernel
theorem l206_36 : (ax_dt (ax_T 206)).lookup 36 = some (.goto 12, 3, 0, 0, 0) := by decide +kernel
theorem l206_39 : (ax_dt (ax_T 206)).lookup 39 = some (.aload_n 0, 1, 0, 0, 0) := by decide +kernel
theorem l206_40 : (ax_dt (ax_T 206)).lookup 40 = some (.getfield 17, 3, 9, 5, 0) := by decide +kernel
theorem l206_43 : (ax_dt (ax_T 206)).lookup 43 = some (.aload_n 0, 1, 0, 0, 0) := by decide +kernel
theorem l206_44 : (ax_dt (ax_T 206)).lookup 44 = some (.getfield 137, 3, 9, 3, 0) := by decide +kernel
theorem l206_47 : (ax_dt (ax_T 206)).lookup 47 = some (.iaload, 1, 0, 0, 0) := by decide +kernel
theorem l206_48 : (ax_dt (ax_T 206)).lookup 48 = some (.ireturn, 1, 0, 0, 0) := by decide +kernel
theorem l206_49 : (ax_dt (ax_T 206)).lookup 49 = some (.aload_n 0, 1, 0, 0, 0) := by decide +kernel
theorem l206_50 : (ax_dt (ax_T 206)).lookup 50 = some (.invokevirtual 274, 3, 171, 0, 0) := by decide +kernel
theorem l206_53 : (ax_dt (ax_T 206)).lookup 53 = some (.iload_n 1, 1, 0, 0, 0) := by decide +kernel
theorem l206_54 : (ax_dt (ax_T 206)).lookup 54 = some (.iconst 2, 1, 0, 0, 0) := by decide +kernel
theorem l206_55 : (ax_dt (ax_T 206)).lookup 55 = some (.if_icmp .ne 10, 3, 0, 0, 0) := by decide +kernel
theorem l206_58 : (ax_dt (ax_T 206)).lookup 58 = some (.aload_n 0, 1, 0, 0, 0) := by decide +kernel
theorem l206_59 : (ax_dt (ax_T 206)).lookup 59 = some (.getfield 205, 3, 9, 26, 0) := by decide +kernel
theorem l206_62 : (ax_dt (ax_T 206)).lookup 62 = some (.goto 7, 3, 0, 0, 0) := by decide +kernel
theorem l206_65 : (ax_dt (ax_T 206)).lookup 65 = some (.aload_n 0, 1, 0, 0, 0) := by decide +kernel
theorem l206_66 : (ax_dt (ax_T 206)).lookup 66 = some (.getfield 211, 3, 9, 29, 0) := by decide +kernel
theorem l206_69 : (ax_dt (ax_T 206)).lookup 69 = some (.ireturn, 1, 0, 0, 0) := by decide +kernel
noncomputable def F_X11_count (v1 : Int) (μ : bM) : Option (Int × bM) := (F_X11_in v1 0 3 μ).bind fun w1 => bMm (F_X11_goes w1 μ) (fun w2 μ3 => if ¬ w2 = 0 then if 2 ≤ v1 then bMm (F_X11_layOut μ3) (fun w7 μ8 => if ¬ v1 = 2 then some ((μ8 76 29), μ8) else some ((μ8 76 26), μ8)) else if ¬ v1 = 0 then bG (0 ≤ (μ3 76 3) ∧ (μ3 76 3) < 2) (some ((μ3 79 (μ3 76 3).toNat), μ3)) else bG (0 ≤ (μ3 76 3) ∧ (μ3 76 3) < 2) (some ((μ3 78 (μ3 76 3).toNat), μ3)) else some (0, μ3))
theorem r_X11_count {L : Nat} {xs : Nat → Int32} {d : Nat} {μ : bM}  (v1 : Int) (h1 : bR v1) : bD L xs (d + 5) 206 0 [(0, .ref 76), (1, bI v1)] [] μ ((F_X11_count v1 μ).bind (bMc)) := by
  have hr : ∀ r, (bMc) r = (bMc) r := fun _ => rfl
  unfold F_X11_count
  refine bD.ok fun hk => ?_
  refine b_s (pc' := 1) (lv1 := [(0, .ref 76), (1, bI v1)]) (st' := [.ref 76]) l206_0 (fun _ => rfl) ?_
  refine b_s (pc' := 2) (lv1 := [(0, .ref 76), (1, bI v1)]) (st' := [bI v1, .ref 76]) l206_1 (fun _ => rfl) ?_
  refine b_i2l l206_2 h1 (b_pc (pc' := 3) rfl ?_)
  refine b_lconst (e := 0) l206_3 (by decide) (b_pc (pc' := 4) rfl ?_)
  refine b_s (pc' := 7) (lv1 := [(0, .ref 76), (1, bI v1)]) (st' := [bLg 3, bLg 0, bLg v1, .ref 76]) l206_4 (fun _ => rfl) ?_
  refine b_cPz l206_7 rfl (fun _ => trivial) (Nat.le_of_ble_eq_true rfl) (Nat.le_of_ble_eq_true rfl) rfl (r_X11_in v1 (bR_L h1) 0 (by decide) 3 (by decide)) fun w1 hw1 => b_pc (pc' := 10) rfl ?_
  refine b_cMz l206_10 rfl (b_rc (ci := 9) (by rfl) (by decide) (by decide +kernel)) (Nat.le_of_ble_eq_true rfl) (Nat.le_of_ble_eq_true rfl) rfl (r_X11_goes w1 (bZ_R hw1)) fun w2 μ3 hw2 => bD.ok fun hk4 => b_pc (pc' := 13) rfl ?_
  refine b_zne (pt := 18) l206_13 (bZ_R hw2) (by decide) rfl (fun c5 => ?_) (fun c5 => b_pc (pc' := 16) rfl ?_)
  · refine b_s (pc' := 19) (lv1 := [(0, .ref 76), (1, bI v1)]) (st' := [bI v1]) l206_18 (fun _ => rfl) ?_
    refine b_s (pc' := 20) (lv1 := [(0, .ref 76), (1, bI v1)]) (st' := [bI 2, bI v1]) l206_19 (fun _ => rfl) ?_
    refine b_ige (pt := 49) l206_20 h1 (by decide) (by decide) rfl (fun c6 => ?_) (fun c6 => b_pc (pc' := 23) rfl ?_)
    · refine b_s (pc' := 50) (lv1 := [(0, .ref 76), (1, bI v1)]) (st' := [.ref 76]) l206_49 (fun _ => rfl) ?_
      refine b_cMv l206_50 rfl (b_rc (ci := 9) (by rfl) (by decide) (by decide +kernel)) (Nat.le_of_ble_eq_true rfl) (Nat.le_of_ble_eq_true rfl) rfl (r_X11_layOut ) fun w7 μ8 hw7 => bD.ok fun hk9 => b_pc (pc' := 53) rfl ?_
      refine b_s (pc' := 54) (lv1 := [(0, .ref 76), (1, bI v1)]) (st' := [bI v1]) l206_53 (fun _ => rfl) ?_
      refine b_s (pc' := 55) (lv1 := [(0, .ref 76), (1, bI v1)]) (st' := [bI 2, bI v1]) l206_54 (fun _ => rfl) ?_
      refine b_ine (pt := 65) l206_55 h1 (by decide) (by decide) rfl (fun c10 => ?_) (fun c10 => b_pc (pc' := 58) rfl ?_)
      · refine b_s (pc' := 66) (lv1 := [(0, .ref 76), (1, bI v1)]) (st' := [.ref 76]) l206_65 (fun _ => rfl) ?_
        refine b_gi l206_66 (by rfl) (by decide) (by decide) rfl (b_pc (pc' := 69) rfl ?_)
        exact b_reti l206_69 rfl (bO_f hk9 (ci := 9) (by rfl) rfl) (hr _)
      · refine b_s (pc' := 59) (lv1 := [(0, .ref 76), (1, bI v1)]) (st' := [.ref 76]) l206_58 (fun _ => rfl) ?_
        refine b_gi l206_59 (by rfl) (by decide) (by decide) rfl (b_pc (pc' := 62) rfl ?_)
        refine b_s (pc' := 69) (lv1 := [(0, .ref 76), (1, bI v1)]) (st' := [bI (μ8 76 26)]) l206_62 (fun _ => rfl) ?_
        exact b_reti l206_69 rfl (bO_f hk9 (ci := 9) (by rfl) rfl) (hr _)
    · refine b_s (pc' := 24) (lv1 := [(0, .ref 76), (1, bI v1)]) (st' := [bI v1]) l206_23 (fun _ => rfl) ?_
      refine b_zne (pt := 39) l206_24 h1 (by decide) rfl (fun c11 => ?_) (fun c11 => b_pc (pc' := 27) rfl ?_)
      · refine b_s (pc' := 40) (lv1 := [(0, .ref 76), (1, bI v1)]) (st' := [.ref 76]) l206_39 (fun _ => rfl) ?_
        refine b_gp (q' := 79) (j := 3) l206_40 (by rfl) (by decide) (by decide) rfl hk4 rfl rfl (b_pc (pc' := 43) rfl ?_)
        refine b_s (pc' := 44) (lv1 := [(0, .ref 76), (1, bI v1)]) (st' := [.ref 76, .ref 79]) l206_43 (fun _ => rfl) ?_
        refine b_gi l206_44 (by rfl) (by decide) (by decide) rfl (b_pc (pc' := 47) rfl ?_)
        refine b_g fun g12 => ?_
        refine b_ial l206_47 (by rfl) g12 (b_pc (pc' := 48) rfl ?_)
        exact b_reti l206_48 rfl (bO_i hk4 (by rfl)) (hr _)
      · refine b_s (pc' := 28) (lv1 := [(0, .ref 76), (1, bI v1)]) (st' := [.ref 76]) l206_27 (fun _ => rfl) ?_
        refine b_gp (q' := 78) (j := 2) l206_28 (by rfl) (by decide) (by decide) rfl hk4 rfl rfl (b_pc (pc' := 31) rfl ?_)
        refine b_s (pc' := 32) (lv1 := [(0, .ref 76), (1, bI v1)]) (st' := [.ref 76, .ref 78]) l206_31 (fun _ => rfl) ?_
        refine b_gi l206_32 (by rfl) (by decide) (by decide) rfl (b_pc (pc' := 35) rfl ?_)
        refine b_g fun g13 => ?_
        refine b_ial l206_35 (by rfl) g13 (b_pc (pc' := 36) rfl ?_)
        refine b_s (pc' := 48) (lv1 := [(0, .ref 76), (1, bI v1)]) (st' := [bI (μ3 78 (μ3 76 3).toNat)]) l206_36 (fun _ => rfl) ?_
        exact b_reti l206_48 rfl (bO_i hk4 (by rfl)) (hr _)
  · refine b_s (pc' := 17) (lv1 := [(0, .ref 76), (1, bI v1)]) (st' := [bI 0]) l206_16 (fun _ => rfl) ?_
    exact b_reti l206_17 rfl (by decide) (hr _)
/-! ETModel.about -/
theorem l207_0 : (ax_dt (ax_T 207)).lookup 0 = some (.aload_n 0, 1, 0, 0, 0) := by decide +kernel
theorem l207_1 : (ax_dt (ax_T 207)).lookup 1 = some (.aload_n 0, 1, 0, 0, 0) := by decide +kernel
theorem l207_2 : (ax_dt (ax_T 207)).lookup 2 = some (.iload_n 1, 1, 0, 0, 0) := by decide +kernel
theorem l207_3 : (ax_dt (ax_T 207)).lookup 3 = some (.invokevirtual 152, 3, 141, 1, 0) := by decide +kernel
theorem l207_6 : (ax_dt (ax_T 207)).lookup 6 = some (.ifCond .eq 19, 3, 0, 0, 0) := by decide +kernel
theorem l207_9 : (ax_dt (ax_T 207)).lookup 9 = some (.iload_n 2, 1, 0, 0, 0) := by decide +kernel
theorem l207_10 : (ax_dt (ax_T 207)).lookup 10 = some (.i2l, 1, 0, 0, 0) := by decide +kernel
theorem l207_11 : (ax_dt (ax_T 207)).lookup 11 = some (.lconst 0, 1, 0, 0, 0) := by decide +kernel
theorem l207_12 : (ax_dt (ax_T 207)).lookup 12 = some (.ldc2_w 412, 3, 0, 0, 5) := by decide +kernel
theorem l207_15 : (ax_dt (ax_T 207)).lookup 15 = some (.invokestatic 131, 3, 133, 3, 0) := by decide +kernel
theorem l207_18 : (ax_dt (ax_T 207)).lookup 18 = some (.ifCond .eq 7, 3, 0, 0, 0) := by decide +kernel
theorem l207_21 : (ax_dt (ax_T 207)).lookup 21 = some (.iconst 1, 1, 0, 0, 0) := by decide +kernel
theorem l207_22 : (ax_dt (ax_T 207)).lookup 22 = some (.goto 4, 3, 0, 0, 0) := by decide +kernel
theorem l207_25 : (ax_dt (ax_T 207)).lookup 25 = some (.iconst 0, 1, 0, 0, 0) := by decide +kernel
theorem l207_26 : (ax_dt (ax_T 207)).lookup 26 = some (.invokevirtual 127, 3, 134, 1, 0) := by decide +kernel
theorem l207_29 : (ax_dt (ax_T 207)).lookup 29 = some (.ifCond .ne 5, 3, 0, 0, 0) := by decide +kernel
theorem l207_32 : (ax_dt (ax_T 207)).lookup 32 = some (.iconst 0, 1, 0, 0, 0) := by decide +kernel
theorem l207_33 : (ax_dt (ax_T 207)).lookup 33 = some (.ireturn, 1, 0, 0, 0) := by decide +kernel
theorem l207_34 : (ax_dt (ax_T 207)).lookup 34 = some (.aload_n 0, 1, 0, 0, 0) := by decide +kernel
theorem l207_35 : (ax_dt (ax_T 207)).lookup 35 = some (.iload_n 1, 1, 0, 0, 0) := by decide +kernel
theorem l207_36 : (ax_dt (ax_T 207)).lookup 36 = some (.invokevirtual 140, 3, 140, 1, 0) := by decide +kernel
theorem l207_39 : (ax_dt (ax_T 207)).lookup 39 = some (.istore_n 3, 1, 0, 0, 0) := by decide +kernel
theorem l207_40 : (ax_dt (ax_T 207)).lookup 40 = some (.iload_n 2, 1, 0, 0, 0) := by decide +kernel
theorem l207_41 : (ax_dt (ax_T 207)).lookup 41 = some (.tableswitch 118 0 4 #[35, 42, 49, 56, 111], 35, 0, 0, 0) := by decide +kernel
theorem l207_76 : (ax_dt (ax_T 207)).lookup 76 = some (.aload_n 0, 1, 0, 0, 0) := by decide +kernel
theorem l207_77 : (ax_dt (ax_T 207)).lookup 77 = some (.getfield 23, 3, 9, 7, 0) := by decide +kernel
theorem l207_80 : (ax_dt (ax_T 207)).lookup 80 = some (.iload_n 3, 1, 0, 0, 0) := by decide +kernel
theorem l207_81 : (ax_dt (ax_T 207)).lookup 81 = some (.iaload, 1, 0, 0, 0) := by decide +kernel
theorem l207_82 : (ax_dt (ax_T 207)).lookup 82 = some (.ireturn, 1, 0, 0, 0) := by decide +kernel
theorem l207_83 : (ax_dt (ax_T 207)).lookup 83 = some (.aload_n 0, 1, 0, 0, 0) := by decide +kernel
theorem l207_84 : (ax_dt (ax_T 207)).lookup 84 = some (.getfield 26, 3, 9, 8, 0) := by decide +kernel
theorem l207_87 : (ax_dt (ax_T 207)).lookup 87 = some (.iload_n 3, 1, 0, 0, 0) := by decide +kernel
theorem l207_88 : (ax_dt (ax_T 207)).lookup 88 = some (.iaload, 1, 0, 0, 0) := by decide +kernel
theorem l207_89 : (ax_dt (ax_T 207)).lookup 89 = some (.ireturn, 1, 0, 0, 0) := by decide +kernel
theorem l207_90 : (ax_dt (ax_T 207)).lookup 90 = some (.aload_n 0, 1, 0, 0, 0) := by decide +kernel
theorem l207_91 : (ax_dt (ax_T 207)).lookup 91 = some (.getfield 29, 3, 9, 9, 0) := by decide +kernel
theorem l207_94 : (ax_dt (ax_T 207)).lookup 94 = some (.iload_n 3, 1, 0, 0, 0) := by decide +kernel
theorem l207_95 : (ax_dt (ax_T 207)).lookup 95 = some (.iaload, 1, 0, 0, 0) := by decide +kernel
theorem l207_96 : (ax_dt (ax_T 207)).lookup 96 = some (.ireturn, 1, 0, 0, 0) := by decide +kernel
theorem l207_97 : (ax_dt (ax_T 207)).lookup 97 = some (.iconst 0, 1, 0, 0, 0) := by decide +kernel
theorem l207_98 : (ax_dt (ax_T 207)).lookup 98 = some (.istore 4, 2, 0, 0, 0) := by decide +kernel
theorem l207_100 : (ax_dt (ax_T 207)).lookup 100 = some (.iconst 0, 1, 0, 0, 0) := by decide +kernel
theorem l207_101 : (ax_dt (ax_T 207)).lookup 101 = some (.istore 5, 2, 0, 0, 0) := by decide +kernel
theorem l207_103 : (ax_dt (ax_T 207)).lookup 103 = some (.iload 5, 2, 0, 0, 0) := by decide +kernel
theorem l207_105 : (ax_dt (ax_T 207)).lookup 105 = some (.aload_n 0, 1, 0, 0, 0) := by decide +kernel
theorem l207_106 : (ax_dt (ax_T 207)).lookup 106 = some (.getfield 13, 3, 9, 4, 0) := by decide +kernel
theorem l207_109 : (ax_dt (ax_T 207)).lookup 109 = some (.aload_n 0, 1, 0, 0, 0) := by decide +kernel
theorem l207_110 : (ax_dt (ax_T 207)).lookup 110 = some (.getfield 137, 3, 9, 3, 0) := by decide +kernel
theorem l207_113 : (ax_dt (ax_T 207)).lookup 113 = some (.iaload, 1, 0, 0, 0) := by decide +kernel
theorem l207_114 : (ax_dt (ax_T 207)).lookup 114 = some (.if_icmp .ge 35, 3, 0, 0, 0) := by decide +kernel
theorem l207_117 : (ax_dt (ax_T 207)).lookup 117 = some (.aload_n 0, 1, 0, 0, 0) := by decide +kernel
theorem l207_118 : (ax_dt (ax_T 207)).lookup 118 = some (.getfield 26, 3, 9, 8, 0) := by decide +kernel
theorem l207_121 : (ax_dt (ax_T 207)).lookup 121 = some (.aload_n 0, 1, 0, 0, 0) := by decide +kernel
theorem l207_122 : (ax_dt (ax_T 207)).lookup 122 = some (.iload 5, 2, 0, 0, 0) := by decide +kernel
theorem l207_124 : (ax_dt (ax_T 207)).lookup 124 = some (.invokevirtual 140, 3, 140, 1, 0) := by decide +kernel
theorem l207_127 : (ax_dt (ax_T 207)).lookup 127 = some (.iaload, 1, 0, 0, 0) := by decide +kernel
theorem l207_128 : (ax_dt (ax_T 207)).lookup 128 = some (.iload_n 1, 1, 0, 0, 0) := by decide +kernel
theorem l207_129 : (ax_dt (ax_T 207)).lookup 129 = some (.if_icmp .ne 10, 3, 0, 0, 0) := by decide +kernel
theorem l207_132 : (ax_dt (ax_T 207)).lookup 132 = some (.iload 4, 2, 0, 0, 0) := by decide +kernel
theorem l207_134 : (ax_dt (ax_T 207)).lookup 134 = some (.iconst 1, 1, 0, 0, 0) := by decide +kernel
theorem l207_135 : (ax_dt (ax_T 207)).lookup 135 = some (.iadd, 1, 0, 0, 0) := by decide +kernel
theorem l207_136 : (ax_dt (ax_T 207)).lookup 136 = some (.goto 5, 3, 0, 0, 0) := by decide +kernel
theorem l207_139 : (ax_dt (ax_T 207)).lookup 139 = some (.iload 4, 2, 0, 0, 0) := by decide +kernel
theorem l207_141 : (ax_dt (ax_T 207)).lookup 141 = some (.istore 4, 2, 0, 0, 0) := by decide +kernel
theorem l207_143 : (ax_dt (ax_T 207)).lookup 143 = some (.iinc 5 1, 3, 0, 0, 0) := by decide +kernel
theorem l207_146 : (ax_dt (ax_T 207)).lookup 146 = some (.goto (-43), 3, 0, 0, 0) := by decide +kernel
theorem l207_149 : (ax_dt (ax_T 207)).lookup 149 = some (.iload 4, 2, 0, 0, 0) := by decide +kernel
theorem l207_151 : (ax_dt (ax_T 207)).lookup 151 = some (.ireturn, 1, 0, 0, 0) := by decide +kernel
theorem l207_152 : (ax_dt (ax_T 207)).lookup 152 = some (.aload_n 0, 1, 0, 0, 0) := by decide +kernel
theorem l207_153 : (ax_dt (ax_T 207)).lookup 153 = some (.getfield 32, 3, 9, 10, 0) := by decide +kernel
theorem l207_156 : (ax_dt (ax_T 207)).lookup 156 = some (.iload_n 3, 1, 0, 0, 0) := by decide +kernel
theorem l207_157 : (ax_dt (ax_T 207)).lookup 157 = some (.iaload, 1, 0, 0, 0) := by decide +kernel
theorem l207_158 : (ax_dt (ax_T 207)).lookup 158 = some (.ireturn, 1, 0, 0, 0) := by decide +kernel
theorem l207_159 : (ax_dt (ax_T 207)).lookup 159 = some (.aload_n 0, 1, 0, 0, 0) := by decide +kernel
theorem l207_160 : (ax_dt (ax_T 207)).lookup 160 = some (.invokevirtual 274, 3, 171, 0, 0) := by decide +kernel
theorem l207_163 : (ax_dt (ax_T 207)).lookup 163 = some (.aload_n 0, 1, 0, 0, 0) := by decide +kernel
theorem l207_164 : (ax_dt (ax_T 207)).lookup 164 = some (.getfield 86, 3, 9, 33, 0) := by decide +kernel
theorem l207_167 : (ax_dt (ax_T 207)).lookup 167 = some (.iload_n 1, 1, 0, 0, 0) := by decide +kernel
theorem l207_168 : (ax_dt (ax_T 207)).lookup 168 = some (.iaload, 1, 0, 0, 0) := by decide +kernel
theorem l207_169 : (ax_dt (ax_T 207)).lookup 169 = some (.ireturn, 1, 0, 0, 0) := by decide +kernel
noncomputable def F_X11_about_103 (v1 : Int) (μ : bM) (v4 : Int) (v5 : Int) : Option ((Int × Int) ⊕ (Int × bM)) := bG (0 ≤ (μ 76 3) ∧ (μ 76 3) < 2) (if (μ 78 (μ 76 3).toNat) ≤ v5 then some (.inr (v4, μ)) else (F_X11_at v5 μ).bind fun w2 => bG (0 ≤ w2 ∧ w2 < 800) (if ¬ (μ 82 w2.toNat) = v1 then bG (bR (v5 + 1)) (some (.inl (v4, (v5 + 1)))) else bG (bR (v4 + 1)) (bG (bR (v5 + 1)) (some (.inl ((v4 + 1), (v5 + 1)))))))
noncomputable def F_X11_about_26 (v1 : Int) (v2 : Int) (y1 : Int) (μ : bM) : Option (Int × bM) := bMm (F_X11_goes y1 μ) (fun w1 μ2 => if ¬ w1 = 0 then (F_X11_at v1 μ2).bind fun w5 => if v2 = 0 then bG (0 ≤ w5 ∧ w5 < 800) (some ((μ2 81 w5.toNat), μ2)) else if v2 = 1 then bG (0 ≤ w5 ∧ w5 < 800) (some ((μ2 82 w5.toNat), μ2)) else if v2 = 2 then bG (0 ≤ w5 ∧ w5 < 800) (some ((μ2 83 w5.toNat), μ2)) else if v2 = 3 then bLoop (fun z => F_X11_about_103 v1 μ2 z.1 z.2) (0, 0) else if v2 = 4 then bG (0 ≤ w5 ∧ w5 < 800) (some ((μ2 84 w5.toNat), μ2)) else bMm (F_X11_layOut μ2) (fun w10 μ11 => bG (0 ≤ v1 ∧ v1 < 400) (some ((μ11 101 v1.toNat), μ11))) else some (0, μ2))
noncomputable def F_X11_about_25 (v1 : Int) (v2 : Int) (μ : bM) : Option (Int × bM) := F_X11_about_26 v1 v2 0 μ
noncomputable def F_X11_about (v1 : Int) (v2 : Int) (μ : bM) : Option (Int × bM) := (F_X11_isEntry v1 μ).bind fun w1 => if w1 = 0 then F_X11_about_25 v1 v2 μ else (F_X11_in v2 0 5 μ).bind fun w3 => if w3 = 0 then F_X11_about_25 v1 v2 μ else F_X11_about_26 v1 v2 1 μ
theorem q_X11_about_103 {L : Nat} {xs : Nat → Int32} {d : Nat} {μ : bM} {v1 : Int} {κ : ((Int × Int) ⊕ (Int × bM)) → Option bX} (hr : ∀ r : Int × bM, κ (.inr r) = (bMc) r) (H103 : ∀ (v4 : Int) (v5 : Int), bR v4 → bR v5 → bD L xs (d + 5) 207 103 [(0, .ref 76), (1, bI v1), (4, bI v4), (5, bI v5)] [] μ (κ (.inl (v4, v5))))  (h1 : bR v1) {v4 : Int} (h4 : bR v4) {v5 : Int} (h5 : bR v5) : bD L xs (d + 5) 207 103 [(0, .ref 76), (1, bI v1), (4, bI v4), (5, bI v5)] [] μ ((F_X11_about_103 v1 μ v4 v5).bind κ) := by
  unfold F_X11_about_103
  refine bD.ok fun hk => ?_
  refine b_s (pc' := 105) (lv1 := [(0, .ref 76), (1, bI v1), (4, bI v4), (5, bI v5)]) (st' := [bI v5]) l207_103 (fun _ => rfl) ?_
  refine b_s (pc' := 106) (lv1 := [(0, .ref 76), (1, bI v1), (4, bI v4), (5, bI v5)]) (st' := [.ref 76, bI v5]) l207_105 (fun _ => rfl) ?_
  refine b_gp (q' := 78) (j := 2) l207_106 (by rfl) (by decide) (by decide) rfl hk rfl rfl (b_pc (pc' := 109) rfl ?_)
  refine b_s (pc' := 110) (lv1 := [(0, .ref 76), (1, bI v1), (4, bI v4), (5, bI v5)]) (st' := [.ref 76, .ref 78, bI v5]) l207_109 (fun _ => rfl) ?_
  refine b_gi l207_110 (by rfl) (by decide) (by decide) rfl (b_pc (pc' := 113) rfl ?_)
  refine b_g fun g8 => ?_
  refine b_ial l207_113 (by rfl) g8 (b_pc (pc' := 114) rfl ?_)
  refine b_ige (pt := 149) l207_114 h5 (bO_i hk (by rfl)) (by decide) rfl (fun c1 => ?_) (fun c1 => b_pc (pc' := 117) rfl ?_)
  · refine b_s (pc' := 151) (lv1 := [(0, .ref 76), (1, bI v1), (4, bI v4), (5, bI v5)]) (st' := [bI v4]) l207_149 (fun _ => rfl) ?_
    exact b_reti l207_151 rfl h4 (hr _)
  · refine b_s (pc' := 118) (lv1 := [(0, .ref 76), (1, bI v1), (4, bI v4), (5, bI v5)]) (st' := [.ref 76]) l207_117 (fun _ => rfl) ?_
    refine b_gp (q' := 82) (j := 6) l207_118 (by rfl) (by decide) (by decide) rfl hk rfl rfl (b_pc (pc' := 121) rfl ?_)
    refine b_s (pc' := 122) (lv1 := [(0, .ref 76), (1, bI v1), (4, bI v4), (5, bI v5)]) (st' := [.ref 76, .ref 82]) l207_121 (fun _ => rfl) ?_
    refine b_s (pc' := 124) (lv1 := [(0, .ref 76), (1, bI v1), (4, bI v4), (5, bI v5)]) (st' := [bI v5, .ref 76, .ref 82]) l207_122 (fun _ => rfl) ?_
    refine b_cPi l207_124 rfl (b_rc (ci := 9) (by rfl) (by decide) (by decide +kernel)) (Nat.le_of_ble_eq_true rfl) (Nat.le_of_ble_eq_true rfl) rfl (r_X11_at v5 h5) fun w2 hw2 => b_pc (pc' := 127) rfl ?_
    refine b_g fun g7 => ?_
    refine b_ial l207_127 (by rfl) g7 (b_pc (pc' := 128) rfl ?_)
    refine b_s (pc' := 129) (lv1 := [(0, .ref 76), (1, bI v1), (4, bI v4), (5, bI v5)]) (st' := [bI v1, bI (μ 82 w2.toNat)]) l207_128 (fun _ => rfl) ?_
    refine b_ine (pt := 139) l207_129 (bO_i hk (by rfl)) h1 (by decide) rfl (fun c3 => ?_) (fun c3 => b_pc (pc' := 132) rfl ?_)
    · refine b_s (pc' := 141) (lv1 := [(0, .ref 76), (1, bI v1), (4, bI v4), (5, bI v5)]) (st' := [bI v4]) l207_139 (fun _ => rfl) ?_
      refine b_w (pc' := 143) (lv1 := ax_st1 [(0, .ref 76), (1, bI v1), (4, bI v4), (5, bI v5)] 4 (bI v4)) (lv' := [(0, .ref 76), (1, bI v1), (4, bI v4), (5, bI v5)]) (st' := []) l207_141 (fun _ => rfl) (bSb rfl (bSb rfl (bSb rfl (bSb rfl bSn)))) ?_
      refine b_inc (lv' := [(0, .ref 76), (1, bI v1), (4, bI v4), (5, bI (v5 + 1))]) l207_143 rfl (by decide +kernel) (bSb rfl (bSb rfl (bSb rfl (bSb rfl bSn)))) fun g4 => (b_pc (pc' := 146) rfl ?_)
      refine b_s (pc' := 103) (lv1 := [(0, .ref 76), (1, bI v1), (4, bI v4), (5, bI (v5 + 1))]) (st' := []) l207_146 (fun _ => rfl) ?_
      refine bD.wk (lv' := [(0, .ref 76), (1, bI v1), (4, bI v4), (5, bI (v5 + 1))]) (bSb rfl (bSb rfl (bSb rfl (bSb rfl bSn)))) ?_
      exact H103 v4 (v5 + 1) h4 g4
    · refine b_s (pc' := 134) (lv1 := [(0, .ref 76), (1, bI v1), (4, bI v4), (5, bI v5)]) (st' := [bI v4]) l207_132 (fun _ => rfl) ?_
      refine b_s (pc' := 135) (lv1 := [(0, .ref 76), (1, bI v1), (4, bI v4), (5, bI v5)]) (st' := [bI 1, bI v4]) l207_134 (fun _ => rfl) ?_
      refine b_iadd l207_135 fun g5 => (b_pc (pc' := 136) rfl ?_)
      refine b_s (pc' := 141) (lv1 := [(0, .ref 76), (1, bI v1), (4, bI v4), (5, bI v5)]) (st' := [bI (v4 + 1)]) l207_136 (fun _ => rfl) ?_
      refine b_w (pc' := 143) (lv1 := ax_st1 [(0, .ref 76), (1, bI v1), (4, bI v4), (5, bI v5)] 4 (bI (v4 + 1))) (lv' := [(0, .ref 76), (1, bI v1), (4, bI (v4 + 1)), (5, bI v5)]) (st' := []) l207_141 (fun _ => rfl) (bSb rfl (bSb rfl (bSb rfl (bSb rfl bSn)))) ?_
      refine b_inc (lv' := [(0, .ref 76), (1, bI v1), (4, bI (v4 + 1)), (5, bI (v5 + 1))]) l207_143 rfl (by decide +kernel) (bSb rfl (bSb rfl (bSb rfl (bSb rfl bSn)))) fun g6 => (b_pc (pc' := 146) rfl ?_)
      refine b_s (pc' := 103) (lv1 := [(0, .ref 76), (1, bI v1), (4, bI (v4 + 1)), (5, bI (v5 + 1))]) (st' := []) l207_146 (fun _ => rfl) ?_
      refine bD.wk (lv' := [(0, .ref 76), (1, bI v1), (4, bI (v4 + 1)), (5, bI (v5 + 1))]) (bSb rfl (bSb rfl (bSb rfl (bSb rfl bSn)))) ?_
      exact H103 (v4 + 1) (v5 + 1) g5 g6
theorem p_X11_about_103 {L : Nat} {xs : Nat → Int32} {d : Nat} {μ : bM}  {κ : (Int × bM) → Option bX} (hr : ∀ r : Int × bM, κ r = (bMc) r)  {v1 : Int} (h1 : bR v1) {v4 : Int} (h4 : bR v4) {v5 : Int} (h5 : bR v5) : bD L xs (d + 5) 207 103 [(0, .ref 76), (1, bI v1), (4, bI v4), (5, bI v5)] [] μ ((bLoop (fun z => F_X11_about_103 v1 μ z.1 z.2) (v4, v5)).bind κ) :=
  b_loop (fun z => [(0, .ref 76), (1, bI v1), (4, bI z.1), (5, bI z.2)]) (fun z => μ) (fun z => bR z.1 ∧ bR z.2) (fun κ' hκ HH z hz => q_X11_about_103 (κ := κ') (fun r => (hκ _).trans (hr r)) (fun a4 a5 b4 b5 => HH (a4, a5) ⟨b4, b5⟩)  h1 hz.1 hz.2) (v4, v5) ⟨h4, h5⟩
theorem p_X11_about_26 {L : Nat} {xs : Nat → Int32} {d : Nat} {μ : bM}  {κ : (Int × bM) → Option bX} (hr : ∀ r : Int × bM, κ r = (bMc) r)  {v1 : Int} (h1 : bR v1) {v2 : Int} (h2 : bR v2) {y1 : Int} (hy1 : bR y1) : bD L xs (d + 5) 207 26 [(0, .ref 76), (1, bI v1), (2, bI v2)] [bI y1, .ref 76] μ ((F_X11_about_26 v1 v2 y1 μ).bind κ) := by
  unfold F_X11_about_26
  refine bD.ok fun hk => ?_
  refine b_cMz l207_26 rfl (b_rc (ci := 9) (by rfl) (by decide) (by decide +kernel)) (Nat.le_of_ble_eq_true rfl) (Nat.le_of_ble_eq_true rfl) rfl (r_X11_goes y1 hy1) fun w1 μ2 hw1 => bD.ok fun hk3 => b_pc (pc' := 29) rfl ?_
  refine b_zne (pt := 34) l207_29 (bZ_R hw1) (by decide) rfl (fun c4 => ?_) (fun c4 => b_pc (pc' := 32) rfl ?_)
  · refine b_s (pc' := 35) (lv1 := [(0, .ref 76), (1, bI v1), (2, bI v2)]) (st' := [.ref 76]) l207_34 (fun _ => rfl) ?_
    refine b_s (pc' := 36) (lv1 := [(0, .ref 76), (1, bI v1), (2, bI v2)]) (st' := [bI v1, .ref 76]) l207_35 (fun _ => rfl) ?_
    refine b_cPi l207_36 rfl (b_rc (ci := 9) (by rfl) (by decide) (by decide +kernel)) (Nat.le_of_ble_eq_true rfl) (Nat.le_of_ble_eq_true rfl) rfl (r_X11_at v1 h1) fun w5 hw5 => b_pc (pc' := 39) rfl ?_
    refine b_w (pc' := 40) (lv1 := ax_st1 [(0, .ref 76), (1, bI v1), (2, bI v2)] 3 (bI w5)) (lv' := [(0, .ref 76), (1, bI v1), (2, bI v2), (3, bI w5)]) (st' := []) l207_39 (fun _ => rfl) (bSb rfl (bSb rfl (bSb rfl (bSb rfl bSn)))) ?_
    refine b_s (pc' := 41) (lv1 := [(0, .ref 76), (1, bI v1), (2, bI v2), (3, bI w5)]) (st' := [bI v2]) l207_40 (fun _ => rfl) ?_
    refine b_tsw l207_41 h2 (by decide) (by decide) (by decide) ?_
    refine b_pc (pc' := bTg [(0, 76), (1, 83), (2, 90), (3, 97), (4, 152)] 159 v2) rfl ?_
    refine b_tg (fun c18 => ?_) (fun c18 => ?_)
    · refine b_s (pc' := 77) (lv1 := [(0, .ref 76), (1, bI v1), (2, bI v2), (3, bI w5)]) (st' := [.ref 76]) l207_76 (fun _ => rfl) ?_
      refine b_gp (q' := 81) (j := 5) l207_77 (by rfl) (by decide) (by decide) rfl hk3 rfl rfl (b_pc (pc' := 80) rfl ?_)
      refine b_s (pc' := 81) (lv1 := [(0, .ref 76), (1, bI v1), (2, bI v2), (3, bI w5)]) (st' := [bI w5, .ref 81]) l207_80 (fun _ => rfl) ?_
      refine b_g fun g6 => ?_
      refine b_ial l207_81 (by rfl) g6 (b_pc (pc' := 82) rfl ?_)
      exact b_reti l207_82 rfl (bO_i hk3 (by rfl)) (hr _)
    · refine b_tg (fun c17 => ?_) (fun c17 => ?_)
      · refine b_s (pc' := 84) (lv1 := [(0, .ref 76), (1, bI v1), (2, bI v2), (3, bI w5)]) (st' := [.ref 76]) l207_83 (fun _ => rfl) ?_
        refine b_gp (q' := 82) (j := 6) l207_84 (by rfl) (by decide) (by decide) rfl hk3 rfl rfl (b_pc (pc' := 87) rfl ?_)
        refine b_s (pc' := 88) (lv1 := [(0, .ref 76), (1, bI v1), (2, bI v2), (3, bI w5)]) (st' := [bI w5, .ref 82]) l207_87 (fun _ => rfl) ?_
        refine b_g fun g7 => ?_
        refine b_ial l207_88 (by rfl) g7 (b_pc (pc' := 89) rfl ?_)
        exact b_reti l207_89 rfl (bO_i hk3 (by rfl)) (hr _)
      · refine b_tg (fun c16 => ?_) (fun c16 => ?_)
        · refine b_s (pc' := 91) (lv1 := [(0, .ref 76), (1, bI v1), (2, bI v2), (3, bI w5)]) (st' := [.ref 76]) l207_90 (fun _ => rfl) ?_
          refine b_gp (q' := 83) (j := 7) l207_91 (by rfl) (by decide) (by decide) rfl hk3 rfl rfl (b_pc (pc' := 94) rfl ?_)
          refine b_s (pc' := 95) (lv1 := [(0, .ref 76), (1, bI v1), (2, bI v2), (3, bI w5)]) (st' := [bI w5, .ref 83]) l207_94 (fun _ => rfl) ?_
          refine b_g fun g8 => ?_
          refine b_ial l207_95 (by rfl) g8 (b_pc (pc' := 96) rfl ?_)
          exact b_reti l207_96 rfl (bO_i hk3 (by rfl)) (hr _)
        · refine b_tg (fun c15 => ?_) (fun c15 => ?_)
          · refine b_s (pc' := 98) (lv1 := [(0, .ref 76), (1, bI v1), (2, bI v2), (3, bI w5)]) (st' := [bI 0]) l207_97 (fun _ => rfl) ?_
            refine b_w (pc' := 100) (lv1 := ax_st1 [(0, .ref 76), (1, bI v1), (2, bI v2), (3, bI w5)] 4 (bI 0)) (lv' := [(0, .ref 76), (1, bI v1), (4, bI 0)]) (st' := []) l207_98 (fun _ => rfl) (bSb rfl (bSb rfl (bSb rfl bSn))) ?_
            refine b_s (pc' := 101) (lv1 := [(0, .ref 76), (1, bI v1), (4, bI 0)]) (st' := [bI 0]) l207_100 (fun _ => rfl) ?_
            refine b_w (pc' := 103) (lv1 := ax_st1 [(0, .ref 76), (1, bI v1), (4, bI 0)] 5 (bI 0)) (lv' := [(0, .ref 76), (1, bI v1), (4, bI 0), (5, bI 0)]) (st' := []) l207_101 (fun _ => rfl) (bSb rfl (bSb rfl (bSb rfl (bSb rfl bSn)))) ?_
            refine bD.wk (lv' := [(0, .ref 76), (1, bI v1), (4, bI 0), (5, bI 0)]) (bSb rfl (bSb rfl (bSb rfl (bSb rfl bSn)))) ?_
            exact p_X11_about_103 hr h1 (by decide) (by decide)
          · refine b_tg (fun c14 => ?_) (fun c14 => ?_)
            · refine b_s (pc' := 153) (lv1 := [(0, .ref 76), (1, bI v1), (2, bI v2), (3, bI w5)]) (st' := [.ref 76]) l207_152 (fun _ => rfl) ?_
              refine b_gp (q' := 84) (j := 8) l207_153 (by rfl) (by decide) (by decide) rfl hk3 rfl rfl (b_pc (pc' := 156) rfl ?_)
              refine b_s (pc' := 157) (lv1 := [(0, .ref 76), (1, bI v1), (2, bI v2), (3, bI w5)]) (st' := [bI w5, .ref 84]) l207_156 (fun _ => rfl) ?_
              refine b_g fun g9 => ?_
              refine b_ial l207_157 (by rfl) g9 (b_pc (pc' := 158) rfl ?_)
              exact b_reti l207_158 rfl (bO_i hk3 (by rfl)) (hr _)
            · refine b_pc (pc' := 159) rfl ?_
              refine b_s (pc' := 160) (lv1 := [(0, .ref 76), (1, bI v1), (2, bI v2), (3, bI w5)]) (st' := [.ref 76]) l207_159 (fun _ => rfl) ?_
              refine b_cMv l207_160 rfl (b_rc (ci := 9) (by rfl) (by decide) (by decide +kernel)) (Nat.le_of_ble_eq_true rfl) (Nat.le_of_ble_eq_true rfl) rfl (r_X11_layOut ) fun w10 μ11 hw10 => bD.ok fun hk12 => b_pc (pc' := 163) rfl ?_
              refine b_s (pc' := 164) (lv1 := [(0, .ref 76), (1, bI v1), (2, bI v2), (3, bI w5)]) (st' := [.ref 76]) l207_163 (fun _ => rfl) ?_
              refine b_gp (q' := 101) (j := 25) l207_164 (by rfl) (by decide) (by decide) rfl hk12 rfl rfl (b_pc (pc' := 167) rfl ?_)
              refine b_s (pc' := 168) (lv1 := [(0, .ref 76), (1, bI v1), (2, bI v2), (3, bI w5)]) (st' := [bI v1, .ref 101]) l207_167 (fun _ => rfl) ?_
              refine b_g fun g13 => ?_
              refine b_ial l207_168 (by rfl) g13 (b_pc (pc' := 169) rfl ?_)
              exact b_reti l207_169 rfl (bO_i hk12 (by rfl)) (hr _)
  · refine b_s (pc' := 33) (lv1 := [(0, .ref 76), (1, bI v1), (2, bI v2)]) (st' := [bI 0]) l207_32 (fun _ => rfl) ?_
    exact b_reti l207_33 rfl (by decide) (hr _)
theorem p_X11_about_25 {L : Nat} {xs : Nat → Int32} {d : Nat} {μ : bM}  {κ : (Int × bM) → Option bX} (hr : ∀ r : Int × bM, κ r = (bMc) r)  {v1 : Int} (h1 : bR v1) {v2 : Int} (h2 : bR v2) : bD L xs (d + 5) 207 25 [(0, .ref 76), (1, bI v1), (2, bI v2)] [.ref 76] μ ((F_X11_about_25 v1 v2 μ).bind κ) := by
  unfold F_X11_about_25
  refine bD.ok fun hk => ?_
  refine b_s (pc' := 26) (lv1 := [(0, .ref 76), (1, bI v1), (2, bI v2)]) (st' := [bI 0, .ref 76]) l207_25 (fun _ => rfl) ?_
  refine bD.wk (lv' := [(0, .ref 76), (1, bI v1), (2, bI v2)]) (bSb rfl (bSb rfl (bSb rfl bSn))) ?_
  exact p_X11_about_26 hr h1 h2 (by decide)
theorem r_X11_about {L : Nat} {xs : Nat → Int32} {d : Nat} {μ : bM}  (v1 : Int) (h1 : bR v1) (v2 : Int) (h2 : bR v2) : bD L xs (d + 5) 207 0 [(0, .ref 76), (1, bI v1), (2, bI v2)] [] μ ((F_X11_about v1 v2 μ).bind (bMc)) := by
  have hr : ∀ r, (bMc) r = (bMc) r := fun _ => rfl
  unfold F_X11_about
  refine bD.ok fun hk => ?_
  refine b_s (pc' := 1) (lv1 := [(0, .ref 76), (1, bI v1), (2, bI v2)]) (st' := [.ref 76]) l207_0 (fun _ => rfl) ?_
  refine b_s (pc' := 2) (lv1 := [(0, .ref 76), (1, bI v1), (2, bI v2)]) (st' := [.ref 76, .ref 76]) l207_1 (fun _ => rfl) ?_
  refine b_s (pc' := 3) (lv1 := [(0, .ref 76), (1, bI v1), (2, bI v2)]) (st' := [bI v1, .ref 76, .ref 76]) l207_2 (fun _ => rfl) ?_
  refine b_cPz l207_3 rfl (b_rc (ci := 9) (by rfl) (by decide) (by decide +kernel)) (Nat.le_of_ble_eq_true rfl) (Nat.le_of_ble_eq_true rfl) rfl (r_X11_isEntry v1 h1) fun w1 hw1 => b_pc (pc' := 6) rfl ?_
  refine b_zeq (pt := 25) l207_6 (bZ_R hw1) (by decide) rfl (fun c2 => ?_) (fun c2 => b_pc (pc' := 9) rfl ?_)
  · refine bD.wk (lv' := [(0, .ref 76), (1, bI v1), (2, bI v2)]) (bSb rfl (bSb rfl (bSb rfl bSn))) ?_
    exact p_X11_about_25 hr h1 h2
  · refine b_s (pc' := 10) (lv1 := [(0, .ref 76), (1, bI v1), (2, bI v2)]) (st' := [bI v2, .ref 76]) l207_9 (fun _ => rfl) ?_
    refine b_i2l l207_10 h2 (b_pc (pc' := 11) rfl ?_)
    refine b_lconst (e := 0) l207_11 (by decide) (b_pc (pc' := 12) rfl ?_)
    refine b_s (pc' := 15) (lv1 := [(0, .ref 76), (1, bI v1), (2, bI v2)]) (st' := [bLg 5, bLg 0, bLg v2, .ref 76]) l207_12 (fun _ => rfl) ?_
    refine b_cPz l207_15 rfl (fun _ => trivial) (Nat.le_of_ble_eq_true rfl) (Nat.le_of_ble_eq_true rfl) rfl (r_X11_in v2 (bR_L h2) 0 (by decide) 5 (by decide)) fun w3 hw3 => b_pc (pc' := 18) rfl ?_
    refine b_zeq (pt := 25) l207_18 (bZ_R hw3) (by decide) rfl (fun c4 => ?_) (fun c4 => b_pc (pc' := 21) rfl ?_)
    · refine bD.wk (lv' := [(0, .ref 76), (1, bI v1), (2, bI v2)]) (bSb rfl (bSb rfl (bSb rfl bSn))) ?_
      exact p_X11_about_25 hr h1 h2
    · refine b_s (pc' := 22) (lv1 := [(0, .ref 76), (1, bI v1), (2, bI v2)]) (st' := [bI 1, .ref 76]) l207_21 (fun _ => rfl) ?_
      refine b_s (pc' := 26) (lv1 := [(0, .ref 76), (1, bI v1), (2, bI v2)]) (st' := [bI 1, .ref 76]) l207_22 (fun _ => rfl) ?_
      refine bD.wk (lv' := [(0, .ref 76), (1, bI v1), (2, bI v2)]) (bSb rfl (bSb rfl (bSb rfl bSn))) ?_
      exact p_X11_about_26 hr h1 h2 (by decide)
/-! ETModel.child -/
theorem l208_0 : (ax_dt (ax_T 208)).lookup 0 = some (.aload_n 0, 1, 0, 0, 0) := by decide +kernel
theorem l208_1 : (ax_dt (ax_T 208)).lookup 1 = some (.aload_n 0, 1, 0, 0, 0) := by decide +kernel
theorem l208_2 : (ax_dt (ax_T 208)).lookup 2 = some (.iload_n 1, 1, 0, 0, 0) := by decide +kernel
theorem l208_3 : (ax_dt (ax_T 208)).lookup 3 = some (.invokevirtual 152, 3, 141, 1, 0) := by decide +kernel
theorem l208_6 : (ax_dt (ax_T 208)).lookup 6 = some (.invokevirtual 127, 3, 134, 1, 0) := by decide +kernel
theorem l208_9 : (ax_dt (ax_T 208)).lookup 9 = some (.ifCond .ne 5, 3, 0, 0, 0) := by decide +kernel
theorem l208_12 : (ax_dt (ax_T 208)).lookup 12 = some (.iconst 0, 1, 0, 0, 0) := by decide +kernel
theorem l208_13 : (ax_dt (ax_T 208)).lookup 13 = some (.ireturn, 1, 0, 0, 0) := by decide +kernel
theorem l208_14 : (ax_dt (ax_T 208)).lookup 14 = some (.iload_n 2, 1, 0, 0, 0) := by decide +kernel
theorem l208_15 : (ax_dt (ax_T 208)).lookup 15 = some (.istore_n 3, 1, 0, 0, 0) := by decide +kernel
theorem l208_16 : (ax_dt (ax_T 208)).lookup 16 = some (.iconst 0, 1, 0, 0, 0) := by decide +kernel
theorem l208_17 : (ax_dt (ax_T 208)).lookup 17 = some (.istore 4, 2, 0, 0, 0) := by decide +kernel
theorem l208_19 : (ax_dt (ax_T 208)).lookup 19 = some (.iload 4, 2, 0, 0, 0) := by decide +kernel
theorem l208_21 : (ax_dt (ax_T 208)).lookup 21 = some (.aload_n 0, 1, 0, 0, 0) := by decide +kernel
theorem l208_22 : (ax_dt (ax_T 208)).lookup 22 = some (.getfield 13, 3, 9, 4, 0) := by decide +kernel
theorem l208_25 : (ax_dt (ax_T 208)).lookup 25 = some (.aload_n 0, 1, 0, 0, 0) := by decide +kernel
theorem l208_26 : (ax_dt (ax_T 208)).lookup 26 = some (.getfield 137, 3, 9, 3, 0) := by decide +kernel
theorem l208_29 : (ax_dt (ax_T 208)).lookup 29 = some (.iaload, 1, 0, 0, 0) := by decide +kernel
theorem l208_30 : (ax_dt (ax_T 208)).lookup 30 = some (.if_icmp .ge 38, 3, 0, 0, 0) := by decide +kernel
theorem l208_33 : (ax_dt (ax_T 208)).lookup 33 = some (.iload_n 3, 1, 0, 0, 0) := by decide +kernel
theorem l208_34 : (ax_dt (ax_T 208)).lookup 34 = some (.ifCond .lt 34, 3, 0, 0, 0) := by decide +kernel
theorem l208_37 : (ax_dt (ax_T 208)).lookup 37 = some (.aload_n 0, 1, 0, 0, 0) := by decide +kernel
theorem l208_38 : (ax_dt (ax_T 208)).lookup 38 = some (.getfield 26, 3, 9, 8, 0) := by decide +kernel
theorem l208_41 : (ax_dt (ax_T 208)).lookup 41 = some (.aload_n 0, 1, 0, 0, 0) := by decide +kernel
theorem l208_42 : (ax_dt (ax_T 208)).lookup 42 = some (.iload 4, 2, 0, 0, 0) := by decide +kernel
theorem l208_44 : (ax_dt (ax_T 208)).lookup 44 = some (.invokevirtual 140, 3, 140, 1, 0) := by decide +kernel
theorem l208_47 : (ax_dt (ax_T 208)).lookup 47 = some (.iaload, 1, 0, 0, 0) := by decide +kernel
theorem l208_48 : (ax_dt (ax_T 208)).lookup 48 = some (.iload_n 1, 1, 0, 0, 0) := by decide +kernel
theorem l208_49 : (ax_dt (ax_T 208)).lookup 49 = some (.if_icmp .ne 13, 3, 0, 0, 0) := by decide +kernel
theorem l208_52 : (ax_dt (ax_T 208)).lookup 52 = some (.iload_n 3, 1, 0, 0, 0) := by decide +kernel
theorem l208_53 : (ax_dt (ax_T 208)).lookup 53 = some (.ifCond .ne 6, 3, 0, 0, 0) := by decide +kernel
theorem l208_56 : (ax_dt (ax_T 208)).lookup 56 = some (.iload 4, 2, 0, 0, 0) := by decide +kernel
theorem l208_58 : (ax_dt (ax_T 208)).lookup 58 = some (.ireturn, 1, 0, 0, 0) := by decide +kernel
theorem l208_59 : (ax_dt (ax_T 208)).lookup 59 = some (.iinc 3 (-1), 3, 0, 0, 0) := by decide +kernel
theorem l208_62 : (ax_dt (ax_T 208)).lookup 62 = some (.iinc 4 1, 3, 0, 0, 0) := by decide +kernel
theorem l208_65 : (ax_dt (ax_T 208)).lookup 65 = some (.goto (-46), 3, 0, 0, 0) := by decide +kernel
theorem l208_68 : (ax_dt (ax_T 208)).lookup 68 = some (.iconst (-1), 1, 0, 0, 0) := by decide +kernel
theorem l208_69 : (ax_dt (ax_T 208)).lookup 69 = some (.ireturn, 1, 0, 0, 0) := by decide +kernel
noncomputable def F_X11_child_19 (v1 : Int) (μ : bM) (v3 : Int) (v4 : Int) : Option ((Int × Int) ⊕ (Int × bM)) := bG (0 ≤ (μ 76 3) ∧ (μ 76 3) < 2) (if (μ 78 (μ 76 3).toNat) ≤ v4 then some (.inr ((-1), μ)) else if v3 < 0 then some (.inr ((-1), μ)) else (F_X11_at v4 μ).bind fun w3 => bG (0 ≤ w3 ∧ w3 < 800) (if ¬ (μ 82 w3.toNat) = v1 then bG (bR (v4 + 1)) (some (.inl (v3, (v4 + 1)))) else if ¬ v3 = 0 then bG (bR (v3 + (-1))) (bG (bR (v4 + 1)) (some (.inl ((v3 + (-1)), (v4 + 1))))) else some (.inr (v4, μ))))
noncomputable def F_X11_child (v1 : Int) (v2 : Int) (μ : bM) : Option (Int × bM) := (F_X11_isEntry v1 μ).bind fun w1 => bMm (F_X11_goes w1 μ) (fun w2 μ3 => if ¬ w2 = 0 then bLoop (fun z => F_X11_child_19 v1 μ3 z.1 z.2) (v2, 0) else some (0, μ3))
theorem q_X11_child_19 {L : Nat} {xs : Nat → Int32} {d : Nat} {μ : bM} {v1 : Int} {κ : ((Int × Int) ⊕ (Int × bM)) → Option bX} (hr : ∀ r : Int × bM, κ (.inr r) = (bMc) r) (H19 : ∀ (v3 : Int) (v4 : Int), bR v3 → bR v4 → bD L xs (d + 2) 208 19 [(0, .ref 76), (1, bI v1), (3, bI v3), (4, bI v4)] [] μ (κ (.inl (v3, v4))))  (h1 : bR v1) {v3 : Int} (h3 : bR v3) {v4 : Int} (h4 : bR v4) : bD L xs (d + 2) 208 19 [(0, .ref 76), (1, bI v1), (3, bI v3), (4, bI v4)] [] μ ((F_X11_child_19 v1 μ v3 v4).bind κ) := by
  unfold F_X11_child_19
  refine bD.ok fun hk => ?_
  refine b_s (pc' := 21) (lv1 := [(0, .ref 76), (1, bI v1), (3, bI v3), (4, bI v4)]) (st' := [bI v4]) l208_19 (fun _ => rfl) ?_
  refine b_s (pc' := 22) (lv1 := [(0, .ref 76), (1, bI v1), (3, bI v3), (4, bI v4)]) (st' := [.ref 76, bI v4]) l208_21 (fun _ => rfl) ?_
  refine b_gp (q' := 78) (j := 2) l208_22 (by rfl) (by decide) (by decide) rfl hk rfl rfl (b_pc (pc' := 25) rfl ?_)
  refine b_s (pc' := 26) (lv1 := [(0, .ref 76), (1, bI v1), (3, bI v3), (4, bI v4)]) (st' := [.ref 76, .ref 78, bI v4]) l208_25 (fun _ => rfl) ?_
  refine b_gi l208_26 (by rfl) (by decide) (by decide) rfl (b_pc (pc' := 29) rfl ?_)
  refine b_g fun g10 => ?_
  refine b_ial l208_29 (by rfl) g10 (b_pc (pc' := 30) rfl ?_)
  refine b_ige (pt := 68) l208_30 h4 (bO_i hk (by rfl)) (by decide) rfl (fun c1 => ?_) (fun c1 => b_pc (pc' := 33) rfl ?_)
  · refine b_s (pc' := 69) (lv1 := [(0, .ref 76), (1, bI v1), (3, bI v3), (4, bI v4)]) (st' := [bI (-1)]) l208_68 (fun _ => rfl) ?_
    exact b_reti l208_69 rfl (by decide) (hr _)
  · refine b_s (pc' := 34) (lv1 := [(0, .ref 76), (1, bI v1), (3, bI v3), (4, bI v4)]) (st' := [bI v3]) l208_33 (fun _ => rfl) ?_
    refine b_zlt (pt := 68) l208_34 h3 (by decide) rfl (fun c2 => ?_) (fun c2 => b_pc (pc' := 37) rfl ?_)
    · refine b_s (pc' := 69) (lv1 := [(0, .ref 76), (1, bI v1), (3, bI v3), (4, bI v4)]) (st' := [bI (-1)]) l208_68 (fun _ => rfl) ?_
      exact b_reti l208_69 rfl (by decide) (hr _)
    · refine b_s (pc' := 38) (lv1 := [(0, .ref 76), (1, bI v1), (3, bI v3), (4, bI v4)]) (st' := [.ref 76]) l208_37 (fun _ => rfl) ?_
      refine b_gp (q' := 82) (j := 6) l208_38 (by rfl) (by decide) (by decide) rfl hk rfl rfl (b_pc (pc' := 41) rfl ?_)
      refine b_s (pc' := 42) (lv1 := [(0, .ref 76), (1, bI v1), (3, bI v3), (4, bI v4)]) (st' := [.ref 76, .ref 82]) l208_41 (fun _ => rfl) ?_
      refine b_s (pc' := 44) (lv1 := [(0, .ref 76), (1, bI v1), (3, bI v3), (4, bI v4)]) (st' := [bI v4, .ref 76, .ref 82]) l208_42 (fun _ => rfl) ?_
      refine b_cPi l208_44 rfl (b_rc (ci := 9) (by rfl) (by decide) (by decide +kernel)) (Nat.le_of_ble_eq_true rfl) (Nat.le_of_ble_eq_true rfl) rfl (r_X11_at v4 h4) fun w3 hw3 => b_pc (pc' := 47) rfl ?_
      refine b_g fun g9 => ?_
      refine b_ial l208_47 (by rfl) g9 (b_pc (pc' := 48) rfl ?_)
      refine b_s (pc' := 49) (lv1 := [(0, .ref 76), (1, bI v1), (3, bI v3), (4, bI v4)]) (st' := [bI v1, bI (μ 82 w3.toNat)]) l208_48 (fun _ => rfl) ?_
      refine b_ine (pt := 62) l208_49 (bO_i hk (by rfl)) h1 (by decide) rfl (fun c4 => ?_) (fun c4 => b_pc (pc' := 52) rfl ?_)
      · refine b_inc (lv' := [(0, .ref 76), (1, bI v1), (3, bI v3), (4, bI (v4 + 1))]) l208_62 rfl (by decide +kernel) (bSb rfl (bSb rfl (bSb rfl (bSb rfl bSn)))) fun g5 => (b_pc (pc' := 65) rfl ?_)
        refine b_s (pc' := 19) (lv1 := [(0, .ref 76), (1, bI v1), (3, bI v3), (4, bI (v4 + 1))]) (st' := []) l208_65 (fun _ => rfl) ?_
        refine bD.wk (lv' := [(0, .ref 76), (1, bI v1), (3, bI v3), (4, bI (v4 + 1))]) (bSb rfl (bSb rfl (bSb rfl (bSb rfl bSn)))) ?_
        exact H19 v3 (v4 + 1) h3 g5
      · refine b_s (pc' := 53) (lv1 := [(0, .ref 76), (1, bI v1), (3, bI v3), (4, bI v4)]) (st' := [bI v3]) l208_52 (fun _ => rfl) ?_
        refine b_zne (pt := 59) l208_53 h3 (by decide) rfl (fun c6 => ?_) (fun c6 => b_pc (pc' := 56) rfl ?_)
        · refine b_inc (lv' := [(0, .ref 76), (1, bI v1), (3, bI (v3 + (-1))), (4, bI v4)]) l208_59 rfl (by decide +kernel) (bSb rfl (bSb rfl (bSb rfl (bSb rfl bSn)))) fun g7 => (b_pc (pc' := 62) rfl ?_)
          refine b_inc (lv' := [(0, .ref 76), (1, bI v1), (3, bI (v3 + (-1))), (4, bI (v4 + 1))]) l208_62 rfl (by decide +kernel) (bSb rfl (bSb rfl (bSb rfl (bSb rfl bSn)))) fun g8 => (b_pc (pc' := 65) rfl ?_)
          refine b_s (pc' := 19) (lv1 := [(0, .ref 76), (1, bI v1), (3, bI (v3 + (-1))), (4, bI (v4 + 1))]) (st' := []) l208_65 (fun _ => rfl) ?_
          refine bD.wk (lv' := [(0, .ref 76), (1, bI v1), (3, bI (v3 + (-1))), (4, bI (v4 + 1))]) (bSb rfl (bSb rfl (bSb rfl (bSb rfl bSn)))) ?_
          exact H19 (v3 + (-1)) (v4 + 1) g7 g8
        · refine b_s (pc' := 58) (lv1 := [(0, .ref 76), (1, bI v1), (3, bI v3), (4, bI v4)]) (st' := [bI v4]) l208_56 (fun _ => rfl) ?_
          exact b_reti l208_58 rfl h4 (hr _)
theorem p_X11_child_19 {L : Nat} {xs : Nat → Int32} {d : Nat} {μ : bM}  {κ : (Int × bM) → Option bX} (hr : ∀ r : Int × bM, κ r = (bMc) r)  {v1 : Int} (h1 : bR v1) {v3 : Int} (h3 : bR v3) {v4 : Int} (h4 : bR v4) : bD L xs (d + 2) 208 19 [(0, .ref 76), (1, bI v1), (3, bI v3), (4, bI v4)] [] μ ((bLoop (fun z => F_X11_child_19 v1 μ z.1 z.2) (v3, v4)).bind κ) :=
  b_loop (fun z => [(0, .ref 76), (1, bI v1), (3, bI z.1), (4, bI z.2)]) (fun z => μ) (fun z => bR z.1 ∧ bR z.2) (fun κ' hκ HH z hz => q_X11_child_19 (κ := κ') (fun r => (hκ _).trans (hr r)) (fun a3 a4 b3 b4 => HH (a3, a4) ⟨b3, b4⟩)  h1 hz.1 hz.2) (v3, v4) ⟨h3, h4⟩
theorem r_X11_child {L : Nat} {xs : Nat → Int32} {d : Nat} {μ : bM}  (v1 : Int) (h1 : bR v1) (v2 : Int) (h2 : bR v2) : bD L xs (d + 2) 208 0 [(0, .ref 76), (1, bI v1), (2, bI v2)] [] μ ((F_X11_child v1 v2 μ).bind (bMc)) := by
  have hr : ∀ r, (bMc) r = (bMc) r := fun _ => rfl
  unfold F_X11_child
  refine bD.ok fun hk => ?_
  refine b_s (pc' := 1) (lv1 := [(0, .ref 76), (1, bI v1), (2, bI v2)]) (st' := [.ref 76]) l208_0 (fun _ => rfl) ?_
  refine b_s (pc' := 2) (lv1 := [(0, .ref 76), (1, bI v1), (2, bI v2)]) (st' := [.ref 76, .ref 76]) l208_1 (fun _ => rfl) ?_
  refine b_s (pc' := 3) (lv1 := [(0, .ref 76), (1, bI v1), (2, bI v2)]) (st' := [bI v1, .ref 76, .ref 76]) l208_2 (fun _ => rfl) ?_
  refine b_cPz l208_3 rfl (b_rc (ci := 9) (by rfl) (by decide) (by decide +kernel)) (Nat.le_of_ble_eq_true rfl) (Nat.le_of_ble_eq_true rfl) rfl (r_X11_isEntry v1 h1) fun w1 hw1 => b_pc (pc' := 6) rfl ?_
  refine b_cMz l208_6 rfl (b_rc (ci := 9) (by rfl) (by decide) (by decide +kernel)) (Nat.le_of_ble_eq_true rfl) (Nat.le_of_ble_eq_true rfl) rfl (r_X11_goes w1 (bZ_R hw1)) fun w2 μ3 hw2 => bD.ok fun hk4 => b_pc (pc' := 9) rfl ?_
  refine b_zne (pt := 14) l208_9 (bZ_R hw2) (by decide) rfl (fun c5 => ?_) (fun c5 => b_pc (pc' := 12) rfl ?_)
  · refine b_s (pc' := 15) (lv1 := [(0, .ref 76), (1, bI v1), (2, bI v2)]) (st' := [bI v2]) l208_14 (fun _ => rfl) ?_
    refine b_w (pc' := 16) (lv1 := ax_st1 [(0, .ref 76), (1, bI v1), (2, bI v2)] 3 (bI v2)) (lv' := [(0, .ref 76), (1, bI v1), (3, bI v2)]) (st' := []) l208_15 (fun _ => rfl) (bSb rfl (bSb rfl (bSb rfl bSn))) ?_
    refine b_s (pc' := 17) (lv1 := [(0, .ref 76), (1, bI v1), (3, bI v2)]) (st' := [bI 0]) l208_16 (fun _ => rfl) ?_
    refine b_w (pc' := 19) (lv1 := ax_st1 [(0, .ref 76), (1, bI v1), (3, bI v2)] 4 (bI 0)) (lv' := [(0, .ref 76), (1, bI v1), (3, bI v2), (4, bI 0)]) (st' := []) l208_17 (fun _ => rfl) (bSb rfl (bSb rfl (bSb rfl (bSb rfl bSn)))) ?_
    refine bD.wk (lv' := [(0, .ref 76), (1, bI v1), (3, bI v2), (4, bI 0)]) (bSb rfl (bSb rfl (bSb rfl (bSb rfl bSn)))) ?_
    exact p_X11_child_19 hr h1 h2 (by decide)
  · refine b_s (pc' := 13) (lv1 := [(0, .ref 76), (1, bI v1), (2, bI v2)]) (st' := [bI 0]) l208_12 (fun _ => rfl) ?_
    exact b_reti l208_13 rfl (by decide) (hr _)
/-! ETModel.root -/
theorem l209_0 : (ax_dt (ax_T 209)).lookup 0 = some (.aload_n 0, 1, 0, 0, 0) := by decide +kernel
theorem l209_1 : (ax_dt (ax_T 209)).lookup 1 = some (.iload_n 1, 1, 0, 0, 0) := by decide +kernel
theorem l209_2 : (ax_dt (ax_T 209)).lookup 2 = some (.i2l, 1, 0, 0, 0) := by decide +kernel
theorem l209_3 : (ax_dt (ax_T 209)).lookup 3 = some (.lconst 0, 1, 0, 0, 0) := by decide +kernel
theorem l209_4 : (ax_dt (ax_T 209)).lookup 4 = some (.aload_n 0, 1, 0, 0, 0) := by decide +kernel
theorem l209_5 : (ax_dt (ax_T 209)).lookup 5 = some (.getfield 17, 3, 9, 5, 0) := by decide +kernel
theorem l209_8 : (ax_dt (ax_T 209)).lookup 8 = some (.aload_n 0, 1, 0, 0, 0) := by decide +kernel
theorem l209_9 : (ax_dt (ax_T 209)).lookup 9 = some (.getfield 137, 3, 9, 3, 0) := by decide +kernel
theorem l209_12 : (ax_dt (ax_T 209)).lookup 12 = some (.iaload, 1, 0, 0, 0) := by decide +kernel
theorem l209_13 : (ax_dt (ax_T 209)).lookup 13 = some (.iconst 1, 1, 0, 0, 0) := by decide +kernel
theorem l209_14 : (ax_dt (ax_T 209)).lookup 14 = some (.isub, 1, 0, 0, 0) := by decide +kernel
theorem l209_15 : (ax_dt (ax_T 209)).lookup 15 = some (.i2l, 1, 0, 0, 0) := by decide +kernel
theorem l209_16 : (ax_dt (ax_T 209)).lookup 16 = some (.invokestatic 131, 3, 133, 3, 0) := by decide +kernel
theorem l209_19 : (ax_dt (ax_T 209)).lookup 19 = some (.invokevirtual 127, 3, 134, 1, 0) := by decide +kernel
theorem l209_22 : (ax_dt (ax_T 209)).lookup 22 = some (.ifCond .eq 20, 3, 0, 0, 0) := by decide +kernel
theorem l209_25 : (ax_dt (ax_T 209)).lookup 25 = some (.aload_n 0, 1, 0, 0, 0) := by decide +kernel
theorem l209_26 : (ax_dt (ax_T 209)).lookup 26 = some (.getfield 20, 3, 9, 6, 0) := by decide +kernel
theorem l209_29 : (ax_dt (ax_T 209)).lookup 29 = some (.bipush 6, 2, 0, 0, 0) := by decide +kernel
theorem l209_31 : (ax_dt (ax_T 209)).lookup 31 = some (.aload_n 0, 1, 0, 0, 0) := by decide +kernel
theorem l209_32 : (ax_dt (ax_T 209)).lookup 32 = some (.getfield 137, 3, 9, 3, 0) := by decide +kernel
theorem l209_35 : (ax_dt (ax_T 209)).lookup 35 = some (.imul, 1, 0, 0, 0) := by decide +kernel
theorem l209_36 : (ax_dt (ax_T 209)).lookup 36 = some (.iload_n 1, 1, 0, 0, 0) := by decide +kernel
theorem l209_37 : (ax_dt (ax_T 209)).lookup 37 = some (.iadd, 1, 0, 0, 0) := by decide +kernel
theorem l209_38 : (ax_dt (ax_T 209)).lookup 38 = some (.iaload, 1, 0, 0, 0) := by decide +kernel
theorem l209_39 : (ax_dt (ax_T 209)).lookup 39 = some (.goto 4, 3, 0, 0, 0) := by decide +kernel
theorem l209_42 : (ax_dt (ax_T 209)).lookup 42 = some (.iconst 0, 1, 0, 0, 0) := by decide +kernel
theorem l209_43 : (ax_dt (ax_T 209)).lookup 43 = some (.ireturn, 1, 0, 0, 0) := by decide +kernel
noncomputable def F_X11_root (v1 : Int) (μ : bM) : Option (Int × bM) := bG (0 ≤ (μ 76 3) ∧ (μ 76 3) < 2) (bG (bR ((μ 79 (μ 76 3).toNat) - 1)) ((F_X11_in v1 0 ((μ 79 (μ 76 3).toNat) - 1) μ).bind fun w2 => bMm (F_X11_goes w2 μ) (fun w3 μ4 => if w3 = 0 then some (0, μ4) else bG (bR (6 * (μ4 76 3))) (bG (bR ((6 * (μ4 76 3)) + v1)) (bG (0 ≤ ((6 * (μ4 76 3)) + v1) ∧ ((6 * (μ4 76 3)) + v1) < 12) (some ((μ4 80 ((6 * (μ4 76 3)) + v1).toNat), μ4)))))))
theorem r_X11_root {L : Nat} {xs : Nat → Int32} {d : Nat} {μ : bM}  (v1 : Int) (h1 : bR v1) : bD L xs (d + 1) 209 0 [(0, .ref 76), (1, bI v1)] [] μ ((F_X11_root v1 μ).bind (bMc)) := by
  have hr : ∀ r, (bMc) r = (bMc) r := fun _ => rfl
  unfold F_X11_root
  refine bD.ok fun hk => ?_
  refine b_s (pc' := 1) (lv1 := [(0, .ref 76), (1, bI v1)]) (st' := [.ref 76]) l209_0 (fun _ => rfl) ?_
  refine b_s (pc' := 2) (lv1 := [(0, .ref 76), (1, bI v1)]) (st' := [bI v1, .ref 76]) l209_1 (fun _ => rfl) ?_
  refine b_i2l l209_2 h1 (b_pc (pc' := 3) rfl ?_)
  refine b_lconst (e := 0) l209_3 (by decide) (b_pc (pc' := 4) rfl ?_)
  refine b_s (pc' := 5) (lv1 := [(0, .ref 76), (1, bI v1)]) (st' := [.ref 76, bLg 0, bLg v1, .ref 76]) l209_4 (fun _ => rfl) ?_
  refine b_gp (q' := 79) (j := 3) l209_5 (by rfl) (by decide) (by decide) rfl hk rfl rfl (b_pc (pc' := 8) rfl ?_)
  refine b_s (pc' := 9) (lv1 := [(0, .ref 76), (1, bI v1)]) (st' := [.ref 76, .ref 79, bLg 0, bLg v1, .ref 76]) l209_8 (fun _ => rfl) ?_
  refine b_gi l209_9 (by rfl) (by decide) (by decide) rfl (b_pc (pc' := 12) rfl ?_)
  refine b_g fun g10 => ?_
  refine b_ial l209_12 (by rfl) g10 (b_pc (pc' := 13) rfl ?_)
  refine b_s (pc' := 14) (lv1 := [(0, .ref 76), (1, bI v1)]) (st' := [bI 1, bI (μ 79 (μ 76 3).toNat), bLg 0, bLg v1, .ref 76]) l209_13 (fun _ => rfl) ?_
  refine b_isub l209_14 fun g1 => (b_pc (pc' := 15) rfl ?_)
  refine b_i2l l209_15 g1 (b_pc (pc' := 16) rfl ?_)
  refine b_cPz l209_16 rfl (fun _ => trivial) (Nat.le_of_ble_eq_true rfl) (Nat.le_of_ble_eq_true rfl) rfl (r_X11_in v1 (bR_L h1) 0 (by decide) ((μ 79 (μ 76 3).toNat) - 1) (bR_L g1)) fun w2 hw2 => b_pc (pc' := 19) rfl ?_
  refine b_cMz l209_19 rfl (b_rc (ci := 9) (by rfl) (by decide) (by decide +kernel)) (Nat.le_of_ble_eq_true rfl) (Nat.le_of_ble_eq_true rfl) rfl (r_X11_goes w2 (bZ_R hw2)) fun w3 μ4 hw3 => bD.ok fun hk5 => b_pc (pc' := 22) rfl ?_
  refine b_zeq (pt := 42) l209_22 (bZ_R hw3) (by decide) rfl (fun c6 => ?_) (fun c6 => b_pc (pc' := 25) rfl ?_)
  · refine b_s (pc' := 43) (lv1 := [(0, .ref 76), (1, bI v1)]) (st' := [bI 0]) l209_42 (fun _ => rfl) ?_
    exact b_reti l209_43 rfl (by decide) (hr _)
  · refine b_s (pc' := 26) (lv1 := [(0, .ref 76), (1, bI v1)]) (st' := [.ref 76]) l209_25 (fun _ => rfl) ?_
    refine b_gp (q' := 80) (j := 4) l209_26 (by rfl) (by decide) (by decide) rfl hk5 rfl rfl (b_pc (pc' := 29) rfl ?_)
    refine b_bipush l209_29 (by decide) (b_pc (pc' := 31) rfl ?_)
    refine b_s (pc' := 32) (lv1 := [(0, .ref 76), (1, bI v1)]) (st' := [.ref 76, bI 6, .ref 80]) l209_31 (fun _ => rfl) ?_
    refine b_gi l209_32 (by rfl) (by decide) (by decide) rfl (b_pc (pc' := 35) rfl ?_)
    refine b_imul l209_35 fun g7 => (b_pc (pc' := 36) rfl ?_)
    refine b_s (pc' := 37) (lv1 := [(0, .ref 76), (1, bI v1)]) (st' := [bI v1, bI (6 * (μ4 76 3)), .ref 80]) l209_36 (fun _ => rfl) ?_
    refine b_iadd l209_37 fun g8 => (b_pc (pc' := 38) rfl ?_)
    refine b_g fun g9 => ?_
    refine b_ial l209_38 (by rfl) g9 (b_pc (pc' := 39) rfl ?_)
    refine b_s (pc' := 43) (lv1 := [(0, .ref 76), (1, bI v1)]) (st' := [bI (μ4 80 ((6 * (μ4 76 3)) + v1).toNat)]) l209_39 (fun _ => rfl) ?_
    exact b_reti l209_43 rfl (bO_i hk5 (by rfl)) (hr _)
/-! ETModel.isAttribute -/
theorem l210_0 : (ax_dt (ax_T 210)).lookup 0 = some (.aload_n 0, 1, 0, 0, 0) := by decide +kernel
theorem l210_1 : (ax_dt (ax_T 210)).lookup 1 = some (.iload_n 1, 1, 0, 0, 0) := by decide +kernel
theorem l210_2 : (ax_dt (ax_T 210)).lookup 2 = some (.invokevirtual 152, 3, 141, 1, 0) := by decide +kernel
theorem l210_5 : (ax_dt (ax_T 210)).lookup 5 = some (.ifCond .eq 29, 3, 0, 0, 0) := by decide +kernel
theorem l210_8 : (ax_dt (ax_T 210)).lookup 8 = some (.iload_n 2, 1, 0, 0, 0) := by decide +kernel
theorem l210_9 : (ax_dt (ax_T 210)).lookup 9 = some (.i2l, 1, 0, 0, 0) := by decide +kernel
theorem l210_10 : (ax_dt (ax_T 210)).lookup 10 = some (.lconst 0, 1, 0, 0, 0) := by decide +kernel
theorem l210_11 : (ax_dt (ax_T 210)).lookup 11 = some (.aload_n 0, 1, 0, 0, 0) := by decide +kernel
theorem l210_12 : (ax_dt (ax_T 210)).lookup 12 = some (.getfield 32, 3, 9, 10, 0) := by decide +kernel
theorem l210_15 : (ax_dt (ax_T 210)).lookup 15 = some (.aload_n 0, 1, 0, 0, 0) := by decide +kernel
theorem l210_16 : (ax_dt (ax_T 210)).lookup 16 = some (.iload_n 1, 1, 0, 0, 0) := by decide +kernel
theorem l210_17 : (ax_dt (ax_T 210)).lookup 17 = some (.invokevirtual 140, 3, 140, 1, 0) := by decide +kernel
theorem l210_20 : (ax_dt (ax_T 210)).lookup 20 = some (.iaload, 1, 0, 0, 0) := by decide +kernel
theorem l210_21 : (ax_dt (ax_T 210)).lookup 21 = some (.iconst 1, 1, 0, 0, 0) := by decide +kernel
theorem l210_22 : (ax_dt (ax_T 210)).lookup 22 = some (.isub, 1, 0, 0, 0) := by decide +kernel
theorem l210_23 : (ax_dt (ax_T 210)).lookup 23 = some (.i2l, 1, 0, 0, 0) := by decide +kernel
theorem l210_24 : (ax_dt (ax_T 210)).lookup 24 = some (.invokestatic 131, 3, 133, 3, 0) := by decide +kernel
theorem l210_27 : (ax_dt (ax_T 210)).lookup 27 = some (.ifCond .eq 7, 3, 0, 0, 0) := by decide +kernel
theorem l210_30 : (ax_dt (ax_T 210)).lookup 30 = some (.iconst 1, 1, 0, 0, 0) := by decide +kernel
theorem l210_31 : (ax_dt (ax_T 210)).lookup 31 = some (.goto 4, 3, 0, 0, 0) := by decide +kernel
theorem l210_34 : (ax_dt (ax_T 210)).lookup 34 = some (.iconst 0, 1, 0, 0, 0) := by decide +kernel
theorem l210_35 : (ax_dt (ax_T 210)).lookup 35 = some (.ireturn, 1, 0, 0, 0) := by decide +kernel
noncomputable def F_X11_isAttribute (v1 : Int) (v2 : Int) (μ : bM) : Option (Int) := (F_X11_isEntry v1 μ).bind fun w1 => if w1 = 0 then some (0) else (F_X11_at v1 μ).bind fun w3 => bG (0 ≤ w3 ∧ w3 < 800) (bG (bR ((μ 84 w3.toNat) - 1)) ((F_X11_in v2 0 ((μ 84 w3.toNat) - 1) μ).bind fun w5 => if w5 = 0 then some (0) else some (1)))
theorem r_X11_isAttribute {L : Nat} {xs : Nat → Int32} {d : Nat} {μ : bM}  (v1 : Int) (h1 : bR v1) (v2 : Int) (h2 : bR v2) : bD L xs (d + 2) 210 0 [(0, .ref 76), (1, bI v1), (2, bI v2)] [] μ ((F_X11_isAttribute v1 v2 μ).bind (bPc μ)) := by
  have hr : ∀ r, (bPc μ) r = (bPc μ) r := fun _ => rfl
  unfold F_X11_isAttribute
  refine bD.ok fun hk => ?_
  refine b_s (pc' := 1) (lv1 := [(0, .ref 76), (1, bI v1), (2, bI v2)]) (st' := [.ref 76]) l210_0 (fun _ => rfl) ?_
  refine b_s (pc' := 2) (lv1 := [(0, .ref 76), (1, bI v1), (2, bI v2)]) (st' := [bI v1, .ref 76]) l210_1 (fun _ => rfl) ?_
  refine b_cPz l210_2 rfl (b_rc (ci := 9) (by rfl) (by decide) (by decide +kernel)) (Nat.le_of_ble_eq_true rfl) (Nat.le_of_ble_eq_true rfl) rfl (r_X11_isEntry v1 h1) fun w1 hw1 => b_pc (pc' := 5) rfl ?_
  refine b_zeq (pt := 34) l210_5 (bZ_R hw1) (by decide) rfl (fun c2 => ?_) (fun c2 => b_pc (pc' := 8) rfl ?_)
  · refine b_s (pc' := 35) (lv1 := [(0, .ref 76), (1, bI v1), (2, bI v2)]) (st' := [bI 0]) l210_34 (fun _ => rfl) ?_
    exact b_retz l210_35 rfl (by decide) (hr _)
  · refine b_s (pc' := 9) (lv1 := [(0, .ref 76), (1, bI v1), (2, bI v2)]) (st' := [bI v2]) l210_8 (fun _ => rfl) ?_
    refine b_i2l l210_9 h2 (b_pc (pc' := 10) rfl ?_)
    refine b_lconst (e := 0) l210_10 (by decide) (b_pc (pc' := 11) rfl ?_)
    refine b_s (pc' := 12) (lv1 := [(0, .ref 76), (1, bI v1), (2, bI v2)]) (st' := [.ref 76, bLg 0, bLg v2]) l210_11 (fun _ => rfl) ?_
    refine b_gp (q' := 84) (j := 8) l210_12 (by rfl) (by decide) (by decide) rfl hk rfl rfl (b_pc (pc' := 15) rfl ?_)
    refine b_s (pc' := 16) (lv1 := [(0, .ref 76), (1, bI v1), (2, bI v2)]) (st' := [.ref 76, .ref 84, bLg 0, bLg v2]) l210_15 (fun _ => rfl) ?_
    refine b_s (pc' := 17) (lv1 := [(0, .ref 76), (1, bI v1), (2, bI v2)]) (st' := [bI v1, .ref 76, .ref 84, bLg 0, bLg v2]) l210_16 (fun _ => rfl) ?_
    refine b_cPi l210_17 rfl (b_rc (ci := 9) (by rfl) (by decide) (by decide +kernel)) (Nat.le_of_ble_eq_true rfl) (Nat.le_of_ble_eq_true rfl) rfl (r_X11_at v1 h1) fun w3 hw3 => b_pc (pc' := 20) rfl ?_
    refine b_g fun g7 => ?_
    refine b_ial l210_20 (by rfl) g7 (b_pc (pc' := 21) rfl ?_)
    refine b_s (pc' := 22) (lv1 := [(0, .ref 76), (1, bI v1), (2, bI v2)]) (st' := [bI 1, bI (μ 84 w3.toNat), bLg 0, bLg v2]) l210_21 (fun _ => rfl) ?_
    refine b_isub l210_22 fun g4 => (b_pc (pc' := 23) rfl ?_)
    refine b_i2l l210_23 g4 (b_pc (pc' := 24) rfl ?_)
    refine b_cPz l210_24 rfl (fun _ => trivial) (Nat.le_of_ble_eq_true rfl) (Nat.le_of_ble_eq_true rfl) rfl (r_X11_in v2 (bR_L h2) 0 (by decide) ((μ 84 w3.toNat) - 1) (bR_L g4)) fun w5 hw5 => b_pc (pc' := 27) rfl ?_
    refine b_zeq (pt := 34) l210_27 (bZ_R hw5) (by decide) rfl (fun c6 => ?_) (fun c6 => b_pc (pc' := 30) rfl ?_)
    · refine b_s (pc' := 35) (lv1 := [(0, .ref 76), (1, bI v1), (2, bI v2)]) (st' := [bI 0]) l210_34 (fun _ => rfl) ?_
      exact b_retz l210_35 rfl (by decide) (hr _)
    · refine b_s (pc' := 31) (lv1 := [(0, .ref 76), (1, bI v1), (2, bI v2)]) (st' := [bI 1]) l210_30 (fun _ => rfl) ?_
      refine b_s (pc' := 35) (lv1 := [(0, .ref 76), (1, bI v1), (2, bI v2)]) (st' := [bI 1]) l210_31 (fun _ => rfl) ?_
      exact b_retz l210_35 rfl (by decide) (hr _)
/-! ETModel.attribute -/
theorem l211_0 : (ax_dt (ax_T 211)).lookup 0 = some (.aload_n 0, 1, 0, 0, 0) := by decide +kernel
theorem l211_1 : (ax_dt (ax_T 211)).lookup 1 = some (.aload_n 0, 1, 0, 0, 0) := by decide +kernel
theorem l211_2 : (ax_dt (ax_T 211)).lookup 2 = some (.iload_n 1, 1, 0, 0, 0) := by decide +kernel
theorem l211_3 : (ax_dt (ax_T 211)).lookup 3 = some (.iload_n 2, 1, 0, 0, 0) := by decide +kernel
theorem l211_4 : (ax_dt (ax_T 211)).lookup 4 = some (.invokevirtual 414, 3, 210, 2, 0) := by decide +kernel
theorem l211_7 : (ax_dt (ax_T 211)).lookup 7 = some (.ifCond .eq 19, 3, 0, 0, 0) := by decide +kernel
theorem l211_10 : (ax_dt (ax_T 211)).lookup 10 = some (.iload_n 3, 1, 0, 0, 0) := by decide +kernel
theorem l211_11 : (ax_dt (ax_T 211)).lookup 11 = some (.i2l, 1, 0, 0, 0) := by decide +kernel
theorem l211_12 : (ax_dt (ax_T 211)).lookup 12 = some (.lconst 0, 1, 0, 0, 0) := by decide +kernel
theorem l211_13 : (ax_dt (ax_T 211)).lookup 13 = some (.ldc2_w 292, 3, 0, 0, 2) := by decide +kernel
theorem l211_16 : (ax_dt (ax_T 211)).lookup 16 = some (.invokestatic 131, 3, 133, 3, 0) := by decide +kernel
theorem l211_19 : (ax_dt (ax_T 211)).lookup 19 = some (.ifCond .eq 7, 3, 0, 0, 0) := by decide +kernel
theorem l211_22 : (ax_dt (ax_T 211)).lookup 22 = some (.iconst 1, 1, 0, 0, 0) := by decide +kernel
theorem l211_23 : (ax_dt (ax_T 211)).lookup 23 = some (.goto 4, 3, 0, 0, 0) := by decide +kernel
theorem l211_26 : (ax_dt (ax_T 211)).lookup 26 = some (.iconst 0, 1, 0, 0, 0) := by decide +kernel
theorem l211_27 : (ax_dt (ax_T 211)).lookup 27 = some (.invokevirtual 127, 3, 134, 1, 0) := by decide +kernel
theorem l211_30 : (ax_dt (ax_T 211)).lookup 30 = some (.ifCond .ne 5, 3, 0, 0, 0) := by decide +kernel
theorem l211_33 : (ax_dt (ax_T 211)).lookup 33 = some (.iconst 0, 1, 0, 0, 0) := by decide +kernel
theorem l211_34 : (ax_dt (ax_T 211)).lookup 34 = some (.ireturn, 1, 0, 0, 0) := by decide +kernel
theorem l211_35 : (ax_dt (ax_T 211)).lookup 35 = some (.bipush 8, 2, 0, 0, 0) := by decide +kernel
theorem l211_37 : (ax_dt (ax_T 211)).lookup 37 = some (.aload_n 0, 1, 0, 0, 0) := by decide +kernel
theorem l211_38 : (ax_dt (ax_T 211)).lookup 38 = some (.iload_n 1, 1, 0, 0, 0) := by decide +kernel
theorem l211_39 : (ax_dt (ax_T 211)).lookup 39 = some (.invokevirtual 140, 3, 140, 1, 0) := by decide +kernel
theorem l211_42 : (ax_dt (ax_T 211)).lookup 42 = some (.imul, 1, 0, 0, 0) := by decide +kernel
theorem l211_43 : (ax_dt (ax_T 211)).lookup 43 = some (.iload_n 2, 1, 0, 0, 0) := by decide +kernel
theorem l211_44 : (ax_dt (ax_T 211)).lookup 44 = some (.iadd, 1, 0, 0, 0) := by decide +kernel
theorem l211_45 : (ax_dt (ax_T 211)).lookup 45 = some (.istore 4, 2, 0, 0, 0) := by decide +kernel
theorem l211_47 : (ax_dt (ax_T 211)).lookup 47 = some (.iload_n 3, 1, 0, 0, 0) := by decide +kernel
theorem l211_48 : (ax_dt (ax_T 211)).lookup 48 = some (.ifCond .ne 13, 3, 0, 0, 0) := by decide +kernel
theorem l211_51 : (ax_dt (ax_T 211)).lookup 51 = some (.aload_n 0, 1, 0, 0, 0) := by decide +kernel
theorem l211_52 : (ax_dt (ax_T 211)).lookup 52 = some (.getfield 35, 3, 9, 11, 0) := by decide +kernel
theorem l211_55 : (ax_dt (ax_T 211)).lookup 55 = some (.iload 4, 2, 0, 0, 0) := by decide +kernel
theorem l211_57 : (ax_dt (ax_T 211)).lookup 57 = some (.iaload, 1, 0, 0, 0) := by decide +kernel
theorem l211_58 : (ax_dt (ax_T 211)).lookup 58 = some (.goto 25, 3, 0, 0, 0) := by decide +kernel
theorem l211_61 : (ax_dt (ax_T 211)).lookup 61 = some (.iload_n 3, 1, 0, 0, 0) := by decide +kernel
theorem l211_62 : (ax_dt (ax_T 211)).lookup 62 = some (.iconst 1, 1, 0, 0, 0) := by decide +kernel
theorem l211_63 : (ax_dt (ax_T 211)).lookup 63 = some (.if_icmp .ne 13, 3, 0, 0, 0) := by decide +kernel
theorem l211_66 : (ax_dt (ax_T 211)).lookup 66 = some (.aload_n 0, 1, 0, 0, 0) := by decide +kernel
theorem l211_67 : (ax_dt (ax_T 211)).lookup 67 = some (.getfield 38, 3, 9, 12, 0) := by decide +kernel
theorem l211_70 : (ax_dt (ax_T 211)).lookup 70 = some (.iload 4, 2, 0, 0, 0) := by decide +kernel
theorem l211_72 : (ax_dt (ax_T 211)).lookup 72 = some (.iaload, 1, 0, 0, 0) := by decide +kernel
theorem l211_73 : (ax_dt (ax_T 211)).lookup 73 = some (.goto 10, 3, 0, 0, 0) := by decide +kernel
theorem l211_76 : (ax_dt (ax_T 211)).lookup 76 = some (.aload_n 0, 1, 0, 0, 0) := by decide +kernel
theorem l211_77 : (ax_dt (ax_T 211)).lookup 77 = some (.getfield 48, 3, 9, 15, 0) := by decide +kernel
theorem l211_80 : (ax_dt (ax_T 211)).lookup 80 = some (.iload 4, 2, 0, 0, 0) := by decide +kernel
theorem l211_82 : (ax_dt (ax_T 211)).lookup 82 = some (.iaload, 1, 0, 0, 0) := by decide +kernel
theorem l211_83 : (ax_dt (ax_T 211)).lookup 83 = some (.ireturn, 1, 0, 0, 0) := by decide +kernel
noncomputable def F_X11_attribute_27 (v1 : Int) (v2 : Int) (v3 : Int) (y1 : Int) (μ : bM) : Option (Int × bM) := bMm (F_X11_goes y1 μ) (fun w1 μ2 => if ¬ w1 = 0 then (F_X11_at v1 μ2).bind fun w5 => bG (bR (8 * w5)) (bG (bR ((8 * w5) + v2)) (if ¬ v3 = 0 then if ¬ v3 = 1 then bG (0 ≤ ((8 * w5) + v2) ∧ ((8 * w5) + v2) < 6400) (some ((μ2 89 ((8 * w5) + v2).toNat), μ2)) else bG (0 ≤ ((8 * w5) + v2) ∧ ((8 * w5) + v2) < 6400) (some ((μ2 86 ((8 * w5) + v2).toNat), μ2)) else bG (0 ≤ ((8 * w5) + v2) ∧ ((8 * w5) + v2) < 6400) (some ((μ2 85 ((8 * w5) + v2).toNat), μ2)))) else some (0, μ2))
noncomputable def F_X11_attribute_26 (v1 : Int) (v2 : Int) (v3 : Int) (μ : bM) : Option (Int × bM) := F_X11_attribute_27 v1 v2 v3 0 μ
noncomputable def F_X11_attribute (v1 : Int) (v2 : Int) (v3 : Int) (μ : bM) : Option (Int × bM) := (F_X11_isAttribute v1 v2 μ).bind fun w1 => if w1 = 0 then F_X11_attribute_26 v1 v2 v3 μ else (F_X11_in v3 0 2 μ).bind fun w3 => if w3 = 0 then F_X11_attribute_26 v1 v2 v3 μ else F_X11_attribute_27 v1 v2 v3 1 μ
theorem p_X11_attribute_27 {L : Nat} {xs : Nat → Int32} {d : Nat} {μ : bM}  {κ : (Int × bM) → Option bX} (hr : ∀ r : Int × bM, κ r = (bMc) r)  {v1 : Int} (h1 : bR v1) {v2 : Int} (h2 : bR v2) {v3 : Int} (h3 : bR v3) {y1 : Int} (hy1 : bR y1) : bD L xs (d + 3) 211 27 [(0, .ref 76), (1, bI v1), (2, bI v2), (3, bI v3)] [bI y1, .ref 76] μ ((F_X11_attribute_27 v1 v2 v3 y1 μ).bind κ) := by
  unfold F_X11_attribute_27
  refine bD.ok fun hk => ?_
  refine b_cMz l211_27 rfl (b_rc (ci := 9) (by rfl) (by decide) (by decide +kernel)) (Nat.le_of_ble_eq_true rfl) (Nat.le_of_ble_eq_true rfl) rfl (r_X11_goes y1 hy1) fun w1 μ2 hw1 => bD.ok fun hk3 => b_pc (pc' := 30) rfl ?_
  refine b_zne (pt := 35) l211_30 (bZ_R hw1) (by decide) rfl (fun c4 => ?_) (fun c4 => b_pc (pc' := 33) rfl ?_)
  · refine b_bipush l211_35 (by decide) (b_pc (pc' := 37) rfl ?_)
    refine b_s (pc' := 38) (lv1 := [(0, .ref 76), (1, bI v1), (2, bI v2), (3, bI v3)]) (st' := [.ref 76, bI 8]) l211_37 (fun _ => rfl) ?_
    refine b_s (pc' := 39) (lv1 := [(0, .ref 76), (1, bI v1), (2, bI v2), (3, bI v3)]) (st' := [bI v1, .ref 76, bI 8]) l211_38 (fun _ => rfl) ?_
    refine b_cPi l211_39 rfl (b_rc (ci := 9) (by rfl) (by decide) (by decide +kernel)) (Nat.le_of_ble_eq_true rfl) (Nat.le_of_ble_eq_true rfl) rfl (r_X11_at v1 h1) fun w5 hw5 => b_pc (pc' := 42) rfl ?_
    refine b_imul l211_42 fun g6 => (b_pc (pc' := 43) rfl ?_)
    refine b_s (pc' := 44) (lv1 := [(0, .ref 76), (1, bI v1), (2, bI v2), (3, bI v3)]) (st' := [bI v2, bI (8 * w5)]) l211_43 (fun _ => rfl) ?_
    refine b_iadd l211_44 fun g7 => (b_pc (pc' := 45) rfl ?_)
    refine b_w (pc' := 47) (lv1 := ax_st1 [(0, .ref 76), (1, bI v1), (2, bI v2), (3, bI v3)] 4 (bI ((8 * w5) + v2))) (lv' := [(0, .ref 76), (3, bI v3), (4, bI ((8 * w5) + v2))]) (st' := []) l211_45 (fun _ => rfl) (bSb rfl (bSb rfl (bSb rfl bSn))) ?_
    refine b_s (pc' := 48) (lv1 := [(0, .ref 76), (3, bI v3), (4, bI ((8 * w5) + v2))]) (st' := [bI v3]) l211_47 (fun _ => rfl) ?_
    refine b_zne (pt := 61) l211_48 h3 (by decide) rfl (fun c8 => ?_) (fun c8 => b_pc (pc' := 51) rfl ?_)
    · refine b_s (pc' := 62) (lv1 := [(0, .ref 76), (3, bI v3), (4, bI ((8 * w5) + v2))]) (st' := [bI v3]) l211_61 (fun _ => rfl) ?_
      refine b_s (pc' := 63) (lv1 := [(0, .ref 76), (3, bI v3), (4, bI ((8 * w5) + v2))]) (st' := [bI 1, bI v3]) l211_62 (fun _ => rfl) ?_
      refine b_ine (pt := 76) l211_63 h3 (by decide) (by decide) rfl (fun c9 => ?_) (fun c9 => b_pc (pc' := 66) rfl ?_)
      · refine b_s (pc' := 77) (lv1 := [(0, .ref 76), (3, bI v3), (4, bI ((8 * w5) + v2))]) (st' := [.ref 76]) l211_76 (fun _ => rfl) ?_
        refine b_gp (q' := 89) (j := 13) l211_77 (by rfl) (by decide) (by decide) rfl hk3 rfl rfl (b_pc (pc' := 80) rfl ?_)
        refine b_s (pc' := 82) (lv1 := [(0, .ref 76), (3, bI v3), (4, bI ((8 * w5) + v2))]) (st' := [bI ((8 * w5) + v2), .ref 89]) l211_80 (fun _ => rfl) ?_
        refine b_g fun g10 => ?_
        refine b_ial l211_82 (by rfl) g10 (b_pc (pc' := 83) rfl ?_)
        exact b_reti l211_83 rfl (bO_i hk3 (by rfl)) (hr _)
      · refine b_s (pc' := 67) (lv1 := [(0, .ref 76), (3, bI v3), (4, bI ((8 * w5) + v2))]) (st' := [.ref 76]) l211_66 (fun _ => rfl) ?_
        refine b_gp (q' := 86) (j := 10) l211_67 (by rfl) (by decide) (by decide) rfl hk3 rfl rfl (b_pc (pc' := 70) rfl ?_)
        refine b_s (pc' := 72) (lv1 := [(0, .ref 76), (3, bI v3), (4, bI ((8 * w5) + v2))]) (st' := [bI ((8 * w5) + v2), .ref 86]) l211_70 (fun _ => rfl) ?_
        refine b_g fun g11 => ?_
        refine b_ial l211_72 (by rfl) g11 (b_pc (pc' := 73) rfl ?_)
        refine b_s (pc' := 83) (lv1 := [(0, .ref 76), (3, bI v3), (4, bI ((8 * w5) + v2))]) (st' := [bI (μ2 86 ((8 * w5) + v2).toNat)]) l211_73 (fun _ => rfl) ?_
        exact b_reti l211_83 rfl (bO_i hk3 (by rfl)) (hr _)
    · refine b_s (pc' := 52) (lv1 := [(0, .ref 76), (3, bI v3), (4, bI ((8 * w5) + v2))]) (st' := [.ref 76]) l211_51 (fun _ => rfl) ?_
      refine b_gp (q' := 85) (j := 9) l211_52 (by rfl) (by decide) (by decide) rfl hk3 rfl rfl (b_pc (pc' := 55) rfl ?_)
      refine b_s (pc' := 57) (lv1 := [(0, .ref 76), (3, bI v3), (4, bI ((8 * w5) + v2))]) (st' := [bI ((8 * w5) + v2), .ref 85]) l211_55 (fun _ => rfl) ?_
      refine b_g fun g12 => ?_
      refine b_ial l211_57 (by rfl) g12 (b_pc (pc' := 58) rfl ?_)
      refine b_s (pc' := 83) (lv1 := [(0, .ref 76), (3, bI v3), (4, bI ((8 * w5) + v2))]) (st' := [bI (μ2 85 ((8 * w5) + v2).toNat)]) l211_58 (fun _ => rfl) ?_
      exact b_reti l211_83 rfl (bO_i hk3 (by rfl)) (hr _)
  · refine b_s (pc' := 34) (lv1 := [(0, .ref 76), (1, bI v1), (2, bI v2), (3, bI v3)]) (st' := [bI 0]) l211_33 (fun _ => rfl) ?_
    exact b_reti l211_34 rfl (by decide) (hr _)
theorem p_X11_attribute_26 {L : Nat} {xs : Nat → Int32} {d : Nat} {μ : bM}  {κ : (Int × bM) → Option bX} (hr : ∀ r : Int × bM, κ r = (bMc) r)  {v1 : Int} (h1 : bR v1) {v2 : Int} (h2 : bR v2) {v3 : Int} (h3 : bR v3) : bD L xs (d + 3) 211 26 [(0, .ref 76), (1, bI v1), (2, bI v2), (3, bI v3)] [.ref 76] μ ((F_X11_attribute_26 v1 v2 v3 μ).bind κ) := by
  unfold F_X11_attribute_26
  refine bD.ok fun hk => ?_
  refine b_s (pc' := 27) (lv1 := [(0, .ref 76), (1, bI v1), (2, bI v2), (3, bI v3)]) (st' := [bI 0, .ref 76]) l211_26 (fun _ => rfl) ?_
  refine bD.wk (lv' := [(0, .ref 76), (1, bI v1), (2, bI v2), (3, bI v3)]) (bSb rfl (bSb rfl (bSb rfl (bSb rfl bSn)))) ?_
  exact p_X11_attribute_27 hr h1 h2 h3 (by decide)
theorem r_X11_attribute {L : Nat} {xs : Nat → Int32} {d : Nat} {μ : bM}  (v1 : Int) (h1 : bR v1) (v2 : Int) (h2 : bR v2) (v3 : Int) (h3 : bR v3) : bD L xs (d + 3) 211 0 [(0, .ref 76), (1, bI v1), (2, bI v2), (3, bI v3)] [] μ ((F_X11_attribute v1 v2 v3 μ).bind (bMc)) := by
  have hr : ∀ r, (bMc) r = (bMc) r := fun _ => rfl
  unfold F_X11_attribute
  refine bD.ok fun hk => ?_
  refine b_s (pc' := 1) (lv1 := [(0, .ref 76), (1, bI v1), (2, bI v2), (3, bI v3)]) (st' := [.ref 76]) l211_0 (fun _ => rfl) ?_
  refine b_s (pc' := 2) (lv1 := [(0, .ref 76), (1, bI v1), (2, bI v2), (3, bI v3)]) (st' := [.ref 76, .ref 76]) l211_1 (fun _ => rfl) ?_
  refine b_s (pc' := 3) (lv1 := [(0, .ref 76), (1, bI v1), (2, bI v2), (3, bI v3)]) (st' := [bI v1, .ref 76, .ref 76]) l211_2 (fun _ => rfl) ?_
  refine b_s (pc' := 4) (lv1 := [(0, .ref 76), (1, bI v1), (2, bI v2), (3, bI v3)]) (st' := [bI v2, bI v1, .ref 76, .ref 76]) l211_3 (fun _ => rfl) ?_
  refine b_cPz l211_4 rfl (b_rc (ci := 9) (by rfl) (by decide) (by decide +kernel)) (Nat.le_of_ble_eq_true rfl) (Nat.le_of_ble_eq_true rfl) rfl (r_X11_isAttribute v1 h1 v2 h2) fun w1 hw1 => b_pc (pc' := 7) rfl ?_
  refine b_zeq (pt := 26) l211_7 (bZ_R hw1) (by decide) rfl (fun c2 => ?_) (fun c2 => b_pc (pc' := 10) rfl ?_)
  · refine bD.wk (lv' := [(0, .ref 76), (1, bI v1), (2, bI v2), (3, bI v3)]) (bSb rfl (bSb rfl (bSb rfl (bSb rfl bSn)))) ?_
    exact p_X11_attribute_26 hr h1 h2 h3
  · refine b_s (pc' := 11) (lv1 := [(0, .ref 76), (1, bI v1), (2, bI v2), (3, bI v3)]) (st' := [bI v3, .ref 76]) l211_10 (fun _ => rfl) ?_
    refine b_i2l l211_11 h3 (b_pc (pc' := 12) rfl ?_)
    refine b_lconst (e := 0) l211_12 (by decide) (b_pc (pc' := 13) rfl ?_)
    refine b_s (pc' := 16) (lv1 := [(0, .ref 76), (1, bI v1), (2, bI v2), (3, bI v3)]) (st' := [bLg 2, bLg 0, bLg v3, .ref 76]) l211_13 (fun _ => rfl) ?_
    refine b_cPz l211_16 rfl (fun _ => trivial) (Nat.le_of_ble_eq_true rfl) (Nat.le_of_ble_eq_true rfl) rfl (r_X11_in v3 (bR_L h3) 0 (by decide) 2 (by decide)) fun w3 hw3 => b_pc (pc' := 19) rfl ?_
    refine b_zeq (pt := 26) l211_19 (bZ_R hw3) (by decide) rfl (fun c4 => ?_) (fun c4 => b_pc (pc' := 22) rfl ?_)
    · refine bD.wk (lv' := [(0, .ref 76), (1, bI v1), (2, bI v2), (3, bI v3)]) (bSb rfl (bSb rfl (bSb rfl (bSb rfl bSn)))) ?_
      exact p_X11_attribute_26 hr h1 h2 h3
    · refine b_s (pc' := 23) (lv1 := [(0, .ref 76), (1, bI v1), (2, bI v2), (3, bI v3)]) (st' := [bI 1, .ref 76]) l211_22 (fun _ => rfl) ?_
      refine b_s (pc' := 27) (lv1 := [(0, .ref 76), (1, bI v1), (2, bI v2), (3, bI v3)]) (st' := [bI 1, .ref 76]) l211_23 (fun _ => rfl) ?_
      refine bD.wk (lv' := [(0, .ref 76), (1, bI v1), (2, bI v2), (3, bI v3)]) (bSb rfl (bSb rfl (bSb rfl (bSb rfl bSn)))) ?_
      exact p_X11_attribute_27 hr h1 h2 h3 (by decide)
/-! ETModel.value -/
theorem l212_0 : (ax_dt (ax_T 212)).lookup 0 = some (.aload_n 0, 1, 0, 0, 0) := by decide +kernel
theorem l212_1 : (ax_dt (ax_T 212)).lookup 1 = some (.aload_n 0, 1, 0, 0, 0) := by decide +kernel
theorem l212_2 : (ax_dt (ax_T 212)).lookup 2 = some (.iload_n 1, 1, 0, 0, 0) := by decide +kernel
theorem l212_3 : (ax_dt (ax_T 212)).lookup 3 = some (.iload_n 2, 1, 0, 0, 0) := by decide +kernel
theorem l212_4 : (ax_dt (ax_T 212)).lookup 4 = some (.invokevirtual 414, 3, 210, 2, 0) := by decide +kernel
theorem l212_7 : (ax_dt (ax_T 212)).lookup 7 = some (.invokevirtual 127, 3, 134, 1, 0) := by decide +kernel
theorem l212_10 : (ax_dt (ax_T 212)).lookup 10 = some (.ifCond .ne 5, 3, 0, 0, 0) := by decide +kernel
theorem l212_13 : (ax_dt (ax_T 212)).lookup 13 = some (.lconst 0, 1, 0, 0, 0) := by decide +kernel
theorem l212_14 : (ax_dt (ax_T 212)).lookup 14 = some (.lreturn, 1, 0, 0, 0) := by decide +kernel
theorem l212_15 : (ax_dt (ax_T 212)).lookup 15 = some (.bipush 8, 2, 0, 0, 0) := by decide +kernel
theorem l212_17 : (ax_dt (ax_T 212)).lookup 17 = some (.aload_n 0, 1, 0, 0, 0) := by decide +kernel
theorem l212_18 : (ax_dt (ax_T 212)).lookup 18 = some (.iload_n 1, 1, 0, 0, 0) := by decide +kernel
theorem l212_19 : (ax_dt (ax_T 212)).lookup 19 = some (.invokevirtual 140, 3, 140, 1, 0) := by decide +kernel
theorem l212_22 : (ax_dt (ax_T 212)).lookup 22 = some (.imul, 1, 0, 0, 0) := by decide +kernel
theorem l212_23 : (ax_dt (ax_T 212)).lookup 23 = some (.iload_n 2, 1, 0, 0, 0) := by decide +kernel
theorem l212_24 : (ax_dt (ax_T 212)).lookup 24 = some (.iadd, 1, 0, 0, 0) := by decide +kernel
theorem l212_25 : (ax_dt (ax_T 212)).lookup 25 = some (.istore_n 3, 1, 0, 0, 0) := by decide +kernel
theorem l212_26 : (ax_dt (ax_T 212)).lookup 26 = some (.aload_n 0, 1, 0, 0, 0) := by decide +kernel
theorem l212_27 : (ax_dt (ax_T 212)).lookup 27 = some (.getfield 38, 3, 9, 12, 0) := by decide +kernel
theorem l212_30 : (ax_dt (ax_T 212)).lookup 30 = some (.iload_n 3, 1, 0, 0, 0) := by decide +kernel
theorem l212_31 : (ax_dt (ax_T 212)).lookup 31 = some (.iaload, 1, 0, 0, 0) := by decide +kernel
theorem l212_32 : (ax_dt (ax_T 212)).lookup 32 = some (.invokestatic 163, 3, 147, 1, 0) := by decide +kernel
theorem l212_35 : (ax_dt (ax_T 212)).lookup 35 = some (.ifCond .ne 14, 3, 0, 0, 0) := by decide +kernel
theorem l212_38 : (ax_dt (ax_T 212)).lookup 38 = some (.aload_n 0, 1, 0, 0, 0) := by decide +kernel
theorem l212_39 : (ax_dt (ax_T 212)).lookup 39 = some (.getfield 38, 3, 9, 12, 0) := by decide +kernel
theorem l212_42 : (ax_dt (ax_T 212)).lookup 42 = some (.iload_n 3, 1, 0, 0, 0) := by decide +kernel
theorem l212_43 : (ax_dt (ax_T 212)).lookup 43 = some (.iaload, 1, 0, 0, 0) := by decide +kernel
theorem l212_44 : (ax_dt (ax_T 212)).lookup 44 = some (.bipush 10, 2, 0, 0, 0) := by decide +kernel
theorem l212_46 : (ax_dt (ax_T 212)).lookup 46 = some (.if_icmp .ne 7, 3, 0, 0, 0) := by decide +kernel
theorem l212_49 : (ax_dt (ax_T 212)).lookup 49 = some (.lconst 0, 1, 0, 0, 0) := by decide +kernel
theorem l212_50 : (ax_dt (ax_T 212)).lookup 50 = some (.goto 9, 3, 0, 0, 0) := by decide +kernel
theorem l212_53 : (ax_dt (ax_T 212)).lookup 53 = some (.aload_n 0, 1, 0, 0, 0) := by decide +kernel
theorem l212_54 : (ax_dt (ax_T 212)).lookup 54 = some (.getfield 41, 3, 9, 13, 0) := by decide +kernel
theorem l212_57 : (ax_dt (ax_T 212)).lookup 57 = some (.iload_n 3, 1, 0, 0, 0) := by decide +kernel
theorem l212_58 : (ax_dt (ax_T 212)).lookup 58 = some (.laload, 1, 0, 0, 0) := by decide +kernel
theorem l212_59 : (ax_dt (ax_T 212)).lookup 59 = some (.lreturn, 1, 0, 0, 0) := by decide +kernel
noncomputable def F_X11_value (v1 : Int) (v2 : Int) (μ : bM) : Option (Int × bM) := (F_X11_isAttribute v1 v2 μ).bind fun w1 => bMm (F_X11_goes w1 μ) (fun w2 μ3 => if ¬ w2 = 0 then (F_X11_at v1 μ3).bind fun w6 => bG (bR (8 * w6)) (bG (bR ((8 * w6) + v2)) (bG (0 ≤ ((8 * w6) + v2) ∧ ((8 * w6) + v2) < 6400) ((F_X11_isText (μ3 86 ((8 * w6) + v2).toNat) μ3).bind fun w9 => if ¬ w9 = 0 then some (0, μ3) else bG (0 ≤ ((8 * w6) + v2) ∧ ((8 * w6) + v2) < 6400) (if ¬ (μ3 86 ((8 * w6) + v2).toNat) = 10 then bG (0 ≤ ((8 * w6) + v2) ∧ ((8 * w6) + v2) < 6400) (some ((μ3 87 ((8 * w6) + v2).toNat), μ3)) else some (0, μ3))))) else some (0, μ3))
theorem r_X11_value {L : Nat} {xs : Nat → Int32} {d : Nat} {μ : bM}  (v1 : Int) (h1 : bR v1) (v2 : Int) (h2 : bR v2) : bD L xs (d + 3) 212 0 [(0, .ref 76), (1, bI v1), (2, bI v2)] [] μ ((F_X11_value v1 v2 μ).bind (bMc)) := by
  have hr : ∀ r, (bMc) r = (bMc) r := fun _ => rfl
  unfold F_X11_value
  refine bD.ok fun hk => ?_
  refine b_s (pc' := 1) (lv1 := [(0, .ref 76), (1, bI v1), (2, bI v2)]) (st' := [.ref 76]) l212_0 (fun _ => rfl) ?_
  refine b_s (pc' := 2) (lv1 := [(0, .ref 76), (1, bI v1), (2, bI v2)]) (st' := [.ref 76, .ref 76]) l212_1 (fun _ => rfl) ?_
  refine b_s (pc' := 3) (lv1 := [(0, .ref 76), (1, bI v1), (2, bI v2)]) (st' := [bI v1, .ref 76, .ref 76]) l212_2 (fun _ => rfl) ?_
  refine b_s (pc' := 4) (lv1 := [(0, .ref 76), (1, bI v1), (2, bI v2)]) (st' := [bI v2, bI v1, .ref 76, .ref 76]) l212_3 (fun _ => rfl) ?_
  refine b_cPz l212_4 rfl (b_rc (ci := 9) (by rfl) (by decide) (by decide +kernel)) (Nat.le_of_ble_eq_true rfl) (Nat.le_of_ble_eq_true rfl) rfl (r_X11_isAttribute v1 h1 v2 h2) fun w1 hw1 => b_pc (pc' := 7) rfl ?_
  refine b_cMz l212_7 rfl (b_rc (ci := 9) (by rfl) (by decide) (by decide +kernel)) (Nat.le_of_ble_eq_true rfl) (Nat.le_of_ble_eq_true rfl) rfl (r_X11_goes w1 (bZ_R hw1)) fun w2 μ3 hw2 => bD.ok fun hk4 => b_pc (pc' := 10) rfl ?_
  refine b_zne (pt := 15) l212_10 (bZ_R hw2) (by decide) rfl (fun c5 => ?_) (fun c5 => b_pc (pc' := 13) rfl ?_)
  · refine b_bipush l212_15 (by decide) (b_pc (pc' := 17) rfl ?_)
    refine b_s (pc' := 18) (lv1 := [(0, .ref 76), (1, bI v1), (2, bI v2)]) (st' := [.ref 76, bI 8]) l212_17 (fun _ => rfl) ?_
    refine b_s (pc' := 19) (lv1 := [(0, .ref 76), (1, bI v1), (2, bI v2)]) (st' := [bI v1, .ref 76, bI 8]) l212_18 (fun _ => rfl) ?_
    refine b_cPi l212_19 rfl (b_rc (ci := 9) (by rfl) (by decide) (by decide +kernel)) (Nat.le_of_ble_eq_true rfl) (Nat.le_of_ble_eq_true rfl) rfl (r_X11_at v1 h1) fun w6 hw6 => b_pc (pc' := 22) rfl ?_
    refine b_imul l212_22 fun g7 => (b_pc (pc' := 23) rfl ?_)
    refine b_s (pc' := 24) (lv1 := [(0, .ref 76), (1, bI v1), (2, bI v2)]) (st' := [bI v2, bI (8 * w6)]) l212_23 (fun _ => rfl) ?_
    refine b_iadd l212_24 fun g8 => (b_pc (pc' := 25) rfl ?_)
    refine b_w (pc' := 26) (lv1 := ax_st1 [(0, .ref 76), (1, bI v1), (2, bI v2)] 3 (bI ((8 * w6) + v2))) (lv' := [(0, .ref 76), (3, bI ((8 * w6) + v2))]) (st' := []) l212_25 (fun _ => rfl) (bSb rfl (bSb rfl bSn)) ?_
    refine b_s (pc' := 27) (lv1 := [(0, .ref 76), (3, bI ((8 * w6) + v2))]) (st' := [.ref 76]) l212_26 (fun _ => rfl) ?_
    refine b_gp (q' := 86) (j := 10) l212_27 (by rfl) (by decide) (by decide) rfl hk4 rfl rfl (b_pc (pc' := 30) rfl ?_)
    refine b_s (pc' := 31) (lv1 := [(0, .ref 76), (3, bI ((8 * w6) + v2))]) (st' := [bI ((8 * w6) + v2), .ref 86]) l212_30 (fun _ => rfl) ?_
    refine b_g fun g14 => ?_
    refine b_ial l212_31 (by rfl) g14 (b_pc (pc' := 32) rfl ?_)
    refine b_cPz l212_32 rfl (fun _ => trivial) (Nat.le_of_ble_eq_true rfl) (Nat.le_of_ble_eq_true rfl) rfl (r_X11_isText (μ3 86 ((8 * w6) + v2).toNat) (bO_i hk4 (by rfl))) fun w9 hw9 => b_pc (pc' := 35) rfl ?_
    refine b_zne (pt := 49) l212_35 (bZ_R hw9) (by decide) rfl (fun c10 => ?_) (fun c10 => b_pc (pc' := 38) rfl ?_)
    · refine b_lconst (e := 0) l212_49 (by decide) (b_pc (pc' := 50) rfl ?_)
      refine b_s (pc' := 59) (lv1 := [(0, .ref 76), (3, bI ((8 * w6) + v2))]) (st' := [bLg 0]) l212_50 (fun _ => rfl) ?_
      exact b_retl l212_59 rfl (by decide) (hr _)
    · refine b_s (pc' := 39) (lv1 := [(0, .ref 76), (3, bI ((8 * w6) + v2))]) (st' := [.ref 76]) l212_38 (fun _ => rfl) ?_
      refine b_gp (q' := 86) (j := 10) l212_39 (by rfl) (by decide) (by decide) rfl hk4 rfl rfl (b_pc (pc' := 42) rfl ?_)
      refine b_s (pc' := 43) (lv1 := [(0, .ref 76), (3, bI ((8 * w6) + v2))]) (st' := [bI ((8 * w6) + v2), .ref 86]) l212_42 (fun _ => rfl) ?_
      refine b_g fun g13 => ?_
      refine b_ial l212_43 (by rfl) g13 (b_pc (pc' := 44) rfl ?_)
      refine b_bipush l212_44 (by decide) (b_pc (pc' := 46) rfl ?_)
      refine b_ine (pt := 53) l212_46 (bO_i hk4 (by rfl)) (by decide) (by decide) rfl (fun c11 => ?_) (fun c11 => b_pc (pc' := 49) rfl ?_)
      · refine b_s (pc' := 54) (lv1 := [(0, .ref 76), (3, bI ((8 * w6) + v2))]) (st' := [.ref 76]) l212_53 (fun _ => rfl) ?_
        refine b_gp (q' := 87) (j := 11) l212_54 (by rfl) (by decide) (by decide) rfl hk4 rfl rfl (b_pc (pc' := 57) rfl ?_)
        refine b_s (pc' := 58) (lv1 := [(0, .ref 76), (3, bI ((8 * w6) + v2))]) (st' := [bI ((8 * w6) + v2), .ref 87]) l212_57 (fun _ => rfl) ?_
        refine b_g fun g12 => ?_
        refine b_lal l212_58 (by rfl) g12 (b_pc (pc' := 59) rfl ?_)
        exact b_retl l212_59 rfl (bO_l hk4 (by rfl)) (hr _)
      · refine b_lconst (e := 0) l212_49 (by decide) (b_pc (pc' := 50) rfl ?_)
        refine b_s (pc' := 59) (lv1 := [(0, .ref 76), (3, bI ((8 * w6) + v2))]) (st' := [bLg 0]) l212_50 (fun _ => rfl) ?_
        exact b_retl l212_59 rfl (by decide) (hr _)
  · refine b_lconst (e := 0) l212_13 (by decide) (b_pc (pc' := 14) rfl ?_)
    exact b_retl l212_14 rfl (by decide) (hr _)
/-! ETModel.letter -/
theorem l213_0 : (ax_dt (ax_T 213)).lookup 0 = some (.aload_n 0, 1, 0, 0, 0) := by decide +kernel
theorem l213_1 : (ax_dt (ax_T 213)).lookup 1 = some (.aload_n 0, 1, 0, 0, 0) := by decide +kernel
theorem l213_2 : (ax_dt (ax_T 213)).lookup 2 = some (.iload_n 1, 1, 0, 0, 0) := by decide +kernel
theorem l213_3 : (ax_dt (ax_T 213)).lookup 3 = some (.iload_n 2, 1, 0, 0, 0) := by decide +kernel
theorem l213_4 : (ax_dt (ax_T 213)).lookup 4 = some (.invokevirtual 414, 3, 210, 2, 0) := by decide +kernel
theorem l213_7 : (ax_dt (ax_T 213)).lookup 7 = some (.ifCond .eq 34, 3, 0, 0, 0) := by decide +kernel
theorem l213_10 : (ax_dt (ax_T 213)).lookup 10 = some (.iload_n 3, 1, 0, 0, 0) := by decide +kernel
theorem l213_11 : (ax_dt (ax_T 213)).lookup 11 = some (.i2l, 1, 0, 0, 0) := by decide +kernel
theorem l213_12 : (ax_dt (ax_T 213)).lookup 12 = some (.lconst 0, 1, 0, 0, 0) := by decide +kernel
theorem l213_13 : (ax_dt (ax_T 213)).lookup 13 = some (.aload_n 0, 1, 0, 0, 0) := by decide +kernel
theorem l213_14 : (ax_dt (ax_T 213)).lookup 14 = some (.getfield 48, 3, 9, 15, 0) := by decide +kernel
theorem l213_17 : (ax_dt (ax_T 213)).lookup 17 = some (.bipush 8, 2, 0, 0, 0) := by decide +kernel
theorem l213_19 : (ax_dt (ax_T 213)).lookup 19 = some (.aload_n 0, 1, 0, 0, 0) := by decide +kernel
theorem l213_20 : (ax_dt (ax_T 213)).lookup 20 = some (.iload_n 1, 1, 0, 0, 0) := by decide +kernel
theorem l213_21 : (ax_dt (ax_T 213)).lookup 21 = some (.invokevirtual 140, 3, 140, 1, 0) := by decide +kernel
theorem l213_24 : (ax_dt (ax_T 213)).lookup 24 = some (.imul, 1, 0, 0, 0) := by decide +kernel
theorem l213_25 : (ax_dt (ax_T 213)).lookup 25 = some (.iload_n 2, 1, 0, 0, 0) := by decide +kernel
theorem l213_26 : (ax_dt (ax_T 213)).lookup 26 = some (.iadd, 1, 0, 0, 0) := by decide +kernel
theorem l213_27 : (ax_dt (ax_T 213)).lookup 27 = some (.iaload, 1, 0, 0, 0) := by decide +kernel
theorem l213_28 : (ax_dt (ax_T 213)).lookup 28 = some (.iconst 1, 1, 0, 0, 0) := by decide +kernel
theorem l213_29 : (ax_dt (ax_T 213)).lookup 29 = some (.isub, 1, 0, 0, 0) := by decide +kernel
theorem l213_30 : (ax_dt (ax_T 213)).lookup 30 = some (.i2l, 1, 0, 0, 0) := by decide +kernel
theorem l213_31 : (ax_dt (ax_T 213)).lookup 31 = some (.invokestatic 131, 3, 133, 3, 0) := by decide +kernel
theorem l213_34 : (ax_dt (ax_T 213)).lookup 34 = some (.ifCond .eq 7, 3, 0, 0, 0) := by decide +kernel
theorem l213_37 : (ax_dt (ax_T 213)).lookup 37 = some (.iconst 1, 1, 0, 0, 0) := by decide +kernel
theorem l213_38 : (ax_dt (ax_T 213)).lookup 38 = some (.goto 4, 3, 0, 0, 0) := by decide +kernel
theorem l213_41 : (ax_dt (ax_T 213)).lookup 41 = some (.iconst 0, 1, 0, 0, 0) := by decide +kernel
theorem l213_42 : (ax_dt (ax_T 213)).lookup 42 = some (.invokevirtual 127, 3, 134, 1, 0) := by decide +kernel
theorem l213_45 : (ax_dt (ax_T 213)).lookup 45 = some (.ifCond .ne 5, 3, 0, 0, 0) := by decide +kernel
theorem l213_48 : (ax_dt (ax_T 213)).lookup 48 = some (.iconst 0, 1, 0, 0, 0) := by decide +kernel
theorem l213_49 : (ax_dt (ax_T 213)).lookup 49 = some (.ireturn, 1, 0, 0, 0) := by decide +kernel
theorem l213_50 : (ax_dt (ax_T 213)).lookup 50 = some (.aload_n 0, 1, 0, 0, 0) := by decide +kernel
theorem l213_51 : (ax_dt (ax_T 213)).lookup 51 = some (.getfield 58, 3, 9, 18, 0) := by decide +kernel
theorem l213_54 : (ax_dt (ax_T 213)).lookup 54 = some (.aload_n 0, 1, 0, 0, 0) := by decide +kernel
theorem l213_55 : (ax_dt (ax_T 213)).lookup 55 = some (.getfield 45, 3, 9, 14, 0) := by decide +kernel
theorem l213_58 : (ax_dt (ax_T 213)).lookup 58 = some (.bipush 8, 2, 0, 0, 0) := by decide +kernel
theorem l213_60 : (ax_dt (ax_T 213)).lookup 60 = some (.aload_n 0, 1, 0, 0, 0) := by decide +kernel
theorem l213_61 : (ax_dt (ax_T 213)).lookup 61 = some (.iload_n 1, 1, 0, 0, 0) := by decide +kernel
theorem l213_62 : (ax_dt (ax_T 213)).lookup 62 = some (.invokevirtual 140, 3, 140, 1, 0) := by decide +kernel
theorem l213_65 : (ax_dt (ax_T 213)).lookup 65 = some (.imul, 1, 0, 0, 0) := by decide +kernel
theorem l213_66 : (ax_dt (ax_T 213)).lookup 66 = some (.iload_n 2, 1, 0, 0, 0) := by decide +kernel
theorem l213_67 : (ax_dt (ax_T 213)).lookup 67 = some (.iadd, 1, 0, 0, 0) := by decide +kernel
theorem l213_68 : (ax_dt (ax_T 213)).lookup 68 = some (.iaload, 1, 0, 0, 0) := by decide +kernel
theorem l213_69 : (ax_dt (ax_T 213)).lookup 69 = some (.iload_n 3, 1, 0, 0, 0) := by decide +kernel
theorem l213_70 : (ax_dt (ax_T 213)).lookup 70 = some (.iadd, 1, 0, 0, 0) := by decide +kernel
theorem l213_71 : (ax_dt (ax_T 213)).lookup 71 = some (.baload, 1, 0, 0, 0) := by decide +kernel
theorem l213_72 : (ax_dt (ax_T 213)).lookup 72 = some (.sipush 255, 3, 0, 0, 0) := by decide +kernel
theorem l213_75 : (ax_dt (ax_T 213)).lookup 75 = some (.iand, 1, 0, 0, 0) := by decide +kernel
theorem l213_76 : (ax_dt (ax_T 213)).lookup 76 = some (.ireturn, 1, 0, 0, 0) := by decide +kernel
noncomputable def F_X11_letter_42 (v1 : Int) (v2 : Int) (v3 : Int) (y1 : Int) (μ : bM) : Option (Int × bM) := bMm (F_X11_goes y1 μ) (fun w1 μ2 => if ¬ w1 = 0 then (F_X11_at v1 μ2).bind fun w5 => bG (bR (8 * w5)) (bG (bR ((8 * w5) + v2)) (bG (0 ≤ ((8 * w5) + v2) ∧ ((8 * w5) + v2) < 6400) (bG (bR ((μ2 88 ((8 * w5) + v2).toNat) + v3)) (bG (0 ≤ ((μ2 88 ((8 * w5) + v2).toNat) + v3) ∧ ((μ2 88 ((8 * w5) + v2).toNat) + v3) < 180000) (some ((bAnd (μ2 92 ((μ2 88 ((8 * w5) + v2).toNat) + v3).toNat) 255), μ2)))))) else some (0, μ2))
noncomputable def F_X11_letter_41 (v1 : Int) (v2 : Int) (v3 : Int) (μ : bM) : Option (Int × bM) := F_X11_letter_42 v1 v2 v3 0 μ
noncomputable def F_X11_letter (v1 : Int) (v2 : Int) (v3 : Int) (μ : bM) : Option (Int × bM) := (F_X11_isAttribute v1 v2 μ).bind fun w1 => if w1 = 0 then F_X11_letter_41 v1 v2 v3 μ else (F_X11_at v1 μ).bind fun w3 => bG (bR (8 * w3)) (bG (bR ((8 * w3) + v2)) (bG (0 ≤ ((8 * w3) + v2) ∧ ((8 * w3) + v2) < 6400) (bG (bR ((μ 89 ((8 * w3) + v2).toNat) - 1)) ((F_X11_in v3 0 ((μ 89 ((8 * w3) + v2).toNat) - 1) μ).bind fun w7 => if w7 = 0 then F_X11_letter_41 v1 v2 v3 μ else F_X11_letter_42 v1 v2 v3 1 μ))))
theorem p_X11_letter_42 {L : Nat} {xs : Nat → Int32} {d : Nat} {μ : bM}  {κ : (Int × bM) → Option bX} (hr : ∀ r : Int × bM, κ r = (bMc) r)  {v1 : Int} (h1 : bR v1) {v2 : Int} (h2 : bR v2) {v3 : Int} (h3 : bR v3) {y1 : Int} (hy1 : bR y1) : bD L xs (d + 3) 213 42 [(0, .ref 76), (1, bI v1), (2, bI v2), (3, bI v3)] [bI y1, .ref 76] μ ((F_X11_letter_42 v1 v2 v3 y1 μ).bind κ) := by
  unfold F_X11_letter_42
  refine bD.ok fun hk => ?_
  refine b_cMz l213_42 rfl (b_rc (ci := 9) (by rfl) (by decide) (by decide +kernel)) (Nat.le_of_ble_eq_true rfl) (Nat.le_of_ble_eq_true rfl) rfl (r_X11_goes y1 hy1) fun w1 μ2 hw1 => bD.ok fun hk3 => b_pc (pc' := 45) rfl ?_
  refine b_zne (pt := 50) l213_45 (bZ_R hw1) (by decide) rfl (fun c4 => ?_) (fun c4 => b_pc (pc' := 48) rfl ?_)
  · refine b_s (pc' := 51) (lv1 := [(0, .ref 76), (1, bI v1), (2, bI v2), (3, bI v3)]) (st' := [.ref 76]) l213_50 (fun _ => rfl) ?_
    refine b_gp (q' := 92) (j := 16) l213_51 (by rfl) (by decide) (by decide) rfl hk3 rfl rfl (b_pc (pc' := 54) rfl ?_)
    refine b_s (pc' := 55) (lv1 := [(0, .ref 76), (1, bI v1), (2, bI v2), (3, bI v3)]) (st' := [.ref 76, .ref 92]) l213_54 (fun _ => rfl) ?_
    refine b_gp (q' := 88) (j := 12) l213_55 (by rfl) (by decide) (by decide) rfl hk3 rfl rfl (b_pc (pc' := 58) rfl ?_)
    refine b_bipush l213_58 (by decide) (b_pc (pc' := 60) rfl ?_)
    refine b_s (pc' := 61) (lv1 := [(0, .ref 76), (1, bI v1), (2, bI v2), (3, bI v3)]) (st' := [.ref 76, bI 8, .ref 88, .ref 92]) l213_60 (fun _ => rfl) ?_
    refine b_s (pc' := 62) (lv1 := [(0, .ref 76), (1, bI v1), (2, bI v2), (3, bI v3)]) (st' := [bI v1, .ref 76, bI 8, .ref 88, .ref 92]) l213_61 (fun _ => rfl) ?_
    refine b_cPi l213_62 rfl (b_rc (ci := 9) (by rfl) (by decide) (by decide +kernel)) (Nat.le_of_ble_eq_true rfl) (Nat.le_of_ble_eq_true rfl) rfl (r_X11_at v1 h1) fun w5 hw5 => b_pc (pc' := 65) rfl ?_
    refine b_imul l213_65 fun g6 => (b_pc (pc' := 66) rfl ?_)
    refine b_s (pc' := 67) (lv1 := [(0, .ref 76), (1, bI v1), (2, bI v2), (3, bI v3)]) (st' := [bI v2, bI (8 * w5), .ref 88, .ref 92]) l213_66 (fun _ => rfl) ?_
    refine b_iadd l213_67 fun g7 => (b_pc (pc' := 68) rfl ?_)
    refine b_g fun g10 => ?_
    refine b_ial l213_68 (by rfl) g10 (b_pc (pc' := 69) rfl ?_)
    refine b_s (pc' := 70) (lv1 := [(0, .ref 76), (1, bI v1), (2, bI v2), (3, bI v3)]) (st' := [bI v3, bI (μ2 88 ((8 * w5) + v2).toNat), .ref 92]) l213_69 (fun _ => rfl) ?_
    refine b_iadd l213_70 fun g8 => (b_pc (pc' := 71) rfl ?_)
    refine b_g fun g9 => ?_
    refine b_bal l213_71 (by rfl) g9 (b_pc (pc' := 72) rfl ?_)
    refine b_sipush l213_72 (by decide) (b_pc (pc' := 75) rfl ?_)
    refine b_iand l213_75 (b_pc (pc' := 76) rfl ?_)
    exact b_reti l213_76 rfl (bi_rg _) (hr _)
  · refine b_s (pc' := 49) (lv1 := [(0, .ref 76), (1, bI v1), (2, bI v2), (3, bI v3)]) (st' := [bI 0]) l213_48 (fun _ => rfl) ?_
    exact b_reti l213_49 rfl (by decide) (hr _)
theorem p_X11_letter_41 {L : Nat} {xs : Nat → Int32} {d : Nat} {μ : bM}  {κ : (Int × bM) → Option bX} (hr : ∀ r : Int × bM, κ r = (bMc) r)  {v1 : Int} (h1 : bR v1) {v2 : Int} (h2 : bR v2) {v3 : Int} (h3 : bR v3) : bD L xs (d + 3) 213 41 [(0, .ref 76), (1, bI v1), (2, bI v2), (3, bI v3)] [.ref 76] μ ((F_X11_letter_41 v1 v2 v3 μ).bind κ) := by
  unfold F_X11_letter_41
  refine bD.ok fun hk => ?_
  refine b_s (pc' := 42) (lv1 := [(0, .ref 76), (1, bI v1), (2, bI v2), (3, bI v3)]) (st' := [bI 0, .ref 76]) l213_41 (fun _ => rfl) ?_
  refine bD.wk (lv' := [(0, .ref 76), (1, bI v1), (2, bI v2), (3, bI v3)]) (bSb rfl (bSb rfl (bSb rfl (bSb rfl bSn)))) ?_
  exact p_X11_letter_42 hr h1 h2 h3 (by decide)
theorem r_X11_letter {L : Nat} {xs : Nat → Int32} {d : Nat} {μ : bM}  (v1 : Int) (h1 : bR v1) (v2 : Int) (h2 : bR v2) (v3 : Int) (h3 : bR v3) : bD L xs (d + 3) 213 0 [(0, .ref 76), (1, bI v1), (2, bI v2), (3, bI v3)] [] μ ((F_X11_letter v1 v2 v3 μ).bind (bMc)) := by
  have hr : ∀ r, (bMc) r = (bMc) r := fun _ => rfl
  unfold F_X11_letter
  refine bD.ok fun hk => ?_
  refine b_s (pc' := 1) (lv1 := [(0, .ref 76), (1, bI v1), (2, bI v2), (3, bI v3)]) (st' := [.ref 76]) l213_0 (fun _ => rfl) ?_
  refine b_s (pc' := 2) (lv1 := [(0, .ref 76), (1, bI v1), (2, bI v2), (3, bI v3)]) (st' := [.ref 76, .ref 76]) l213_1 (fun _ => rfl) ?_
  refine b_s (pc' := 3) (lv1 := [(0, .ref 76), (1, bI v1), (2, bI v2), (3, bI v3)]) (st' := [bI v1, .ref 76, .ref 76]) l213_2 (fun _ => rfl) ?_
  refine b_s (pc' := 4) (lv1 := [(0, .ref 76), (1, bI v1), (2, bI v2), (3, bI v3)]) (st' := [bI v2, bI v1, .ref 76, .ref 76]) l213_3 (fun _ => rfl) ?_
  refine b_cPz l213_4 rfl (b_rc (ci := 9) (by rfl) (by decide) (by decide +kernel)) (Nat.le_of_ble_eq_true rfl) (Nat.le_of_ble_eq_true rfl) rfl (r_X11_isAttribute v1 h1 v2 h2) fun w1 hw1 => b_pc (pc' := 7) rfl ?_
  refine b_zeq (pt := 41) l213_7 (bZ_R hw1) (by decide) rfl (fun c2 => ?_) (fun c2 => b_pc (pc' := 10) rfl ?_)
  · refine bD.wk (lv' := [(0, .ref 76), (1, bI v1), (2, bI v2), (3, bI v3)]) (bSb rfl (bSb rfl (bSb rfl (bSb rfl bSn)))) ?_
    exact p_X11_letter_41 hr h1 h2 h3
  · refine b_s (pc' := 11) (lv1 := [(0, .ref 76), (1, bI v1), (2, bI v2), (3, bI v3)]) (st' := [bI v3, .ref 76]) l213_10 (fun _ => rfl) ?_
    refine b_i2l l213_11 h3 (b_pc (pc' := 12) rfl ?_)
    refine b_lconst (e := 0) l213_12 (by decide) (b_pc (pc' := 13) rfl ?_)
    refine b_s (pc' := 14) (lv1 := [(0, .ref 76), (1, bI v1), (2, bI v2), (3, bI v3)]) (st' := [.ref 76, bLg 0, bLg v3, .ref 76]) l213_13 (fun _ => rfl) ?_
    refine b_gp (q' := 89) (j := 13) l213_14 (by rfl) (by decide) (by decide) rfl hk rfl rfl (b_pc (pc' := 17) rfl ?_)
    refine b_bipush l213_17 (by decide) (b_pc (pc' := 19) rfl ?_)
    refine b_s (pc' := 20) (lv1 := [(0, .ref 76), (1, bI v1), (2, bI v2), (3, bI v3)]) (st' := [.ref 76, bI 8, .ref 89, bLg 0, bLg v3, .ref 76]) l213_19 (fun _ => rfl) ?_
    refine b_s (pc' := 21) (lv1 := [(0, .ref 76), (1, bI v1), (2, bI v2), (3, bI v3)]) (st' := [bI v1, .ref 76, bI 8, .ref 89, bLg 0, bLg v3, .ref 76]) l213_20 (fun _ => rfl) ?_
    refine b_cPi l213_21 rfl (b_rc (ci := 9) (by rfl) (by decide) (by decide +kernel)) (Nat.le_of_ble_eq_true rfl) (Nat.le_of_ble_eq_true rfl) rfl (r_X11_at v1 h1) fun w3 hw3 => b_pc (pc' := 24) rfl ?_
    refine b_imul l213_24 fun g4 => (b_pc (pc' := 25) rfl ?_)
    refine b_s (pc' := 26) (lv1 := [(0, .ref 76), (1, bI v1), (2, bI v2), (3, bI v3)]) (st' := [bI v2, bI (8 * w3), .ref 89, bLg 0, bLg v3, .ref 76]) l213_25 (fun _ => rfl) ?_
    refine b_iadd l213_26 fun g5 => (b_pc (pc' := 27) rfl ?_)
    refine b_g fun g9 => ?_
    refine b_ial l213_27 (by rfl) g9 (b_pc (pc' := 28) rfl ?_)
    refine b_s (pc' := 29) (lv1 := [(0, .ref 76), (1, bI v1), (2, bI v2), (3, bI v3)]) (st' := [bI 1, bI (μ 89 ((8 * w3) + v2).toNat), bLg 0, bLg v3, .ref 76]) l213_28 (fun _ => rfl) ?_
    refine b_isub l213_29 fun g6 => (b_pc (pc' := 30) rfl ?_)
    refine b_i2l l213_30 g6 (b_pc (pc' := 31) rfl ?_)
    refine b_cPz l213_31 rfl (fun _ => trivial) (Nat.le_of_ble_eq_true rfl) (Nat.le_of_ble_eq_true rfl) rfl (r_X11_in v3 (bR_L h3) 0 (by decide) ((μ 89 ((8 * w3) + v2).toNat) - 1) (bR_L g6)) fun w7 hw7 => b_pc (pc' := 34) rfl ?_
    refine b_zeq (pt := 41) l213_34 (bZ_R hw7) (by decide) rfl (fun c8 => ?_) (fun c8 => b_pc (pc' := 37) rfl ?_)
    · refine bD.wk (lv' := [(0, .ref 76), (1, bI v1), (2, bI v2), (3, bI v3)]) (bSb rfl (bSb rfl (bSb rfl (bSb rfl bSn)))) ?_
      exact p_X11_letter_41 hr h1 h2 h3
    · refine b_s (pc' := 38) (lv1 := [(0, .ref 76), (1, bI v1), (2, bI v2), (3, bI v3)]) (st' := [bI 1, .ref 76]) l213_37 (fun _ => rfl) ?_
      refine b_s (pc' := 42) (lv1 := [(0, .ref 76), (1, bI v1), (2, bI v2), (3, bI v3)]) (st' := [bI 1, .ref 76]) l213_38 (fun _ => rfl) ?_
      refine bD.wk (lv' := [(0, .ref 76), (1, bI v1), (2, bI v2), (3, bI v3)]) (bSb rfl (bSb rfl (bSb rfl (bSb rfl bSn)))) ?_
      exact p_X11_letter_42 hr h1 h2 h3 (by decide)
/-! ETModel.isNamed -/
theorem l214_0 : (ax_dt (ax_T 214)).lookup 0 = some (.aload_n 0, 1, 0, 0, 0) := by decide +kernel
theorem l214_1 : (ax_dt (ax_T 214)).lookup 1 = some (.iload_n 1, 1, 0, 0, 0) := by decide +kernel
theorem l214_2 : (ax_dt (ax_T 214)).lookup 2 = some (.invokevirtual 140, 3, 140, 1, 0) := by decide +kernel
theorem l214_5 : (ax_dt (ax_T 214)).lookup 5 = some (.istore_n 3, 1, 0, 0, 0) := by decide +kernel
theorem l214_6 : (ax_dt (ax_T 214)).lookup 6 = some (.bipush 8, 2, 0, 0, 0) := by decide +kernel
theorem l214_8 : (ax_dt (ax_T 214)).lookup 8 = some (.iload_n 3, 1, 0, 0, 0) := by decide +kernel
theorem l214_9 : (ax_dt (ax_T 214)).lookup 9 = some (.imul, 1, 0, 0, 0) := by decide +kernel
theorem l214_10 : (ax_dt (ax_T 214)).lookup 10 = some (.istore 4, 2, 0, 0, 0) := by decide +kernel
theorem l214_12 : (ax_dt (ax_T 214)).lookup 12 = some (.iload 4, 2, 0, 0, 0) := by decide +kernel
theorem l214_14 : (ax_dt (ax_T 214)).lookup 14 = some (.bipush 8, 2, 0, 0, 0) := by decide +kernel
theorem l214_16 : (ax_dt (ax_T 214)).lookup 16 = some (.iload_n 3, 1, 0, 0, 0) := by decide +kernel
theorem l214_17 : (ax_dt (ax_T 214)).lookup 17 = some (.imul, 1, 0, 0, 0) := by decide +kernel
theorem l214_18 : (ax_dt (ax_T 214)).lookup 18 = some (.aload_n 0, 1, 0, 0, 0) := by decide +kernel
theorem l214_19 : (ax_dt (ax_T 214)).lookup 19 = some (.getfield 32, 3, 9, 10, 0) := by decide +kernel
theorem l214_22 : (ax_dt (ax_T 214)).lookup 22 = some (.iload_n 3, 1, 0, 0, 0) := by decide +kernel
theorem l214_23 : (ax_dt (ax_T 214)).lookup 23 = some (.iaload, 1, 0, 0, 0) := by decide +kernel
theorem l214_24 : (ax_dt (ax_T 214)).lookup 24 = some (.iadd, 1, 0, 0, 0) := by decide +kernel
theorem l214_25 : (ax_dt (ax_T 214)).lookup 25 = some (.if_icmp .ge 106, 3, 0, 0, 0) := by decide +kernel
theorem l214_28 : (ax_dt (ax_T 214)).lookup 28 = some (.aload_n 0, 1, 0, 0, 0) := by decide +kernel
theorem l214_29 : (ax_dt (ax_T 214)).lookup 29 = some (.getfield 35, 3, 9, 11, 0) := by decide +kernel
theorem l214_32 : (ax_dt (ax_T 214)).lookup 32 = some (.iload 4, 2, 0, 0, 0) := by decide +kernel
theorem l214_34 : (ax_dt (ax_T 214)).lookup 34 = some (.iaload, 1, 0, 0, 0) := by decide +kernel
theorem l214_35 : (ax_dt (ax_T 214)).lookup 35 = some (.iconst 3, 1, 0, 0, 0) := by decide +kernel
theorem l214_36 : (ax_dt (ax_T 214)).lookup 36 = some (.if_icmp .ne 89, 3, 0, 0, 0) := by decide +kernel
theorem l214_39 : (ax_dt (ax_T 214)).lookup 39 = some (.aload_n 0, 1, 0, 0, 0) := by decide +kernel
theorem l214_40 : (ax_dt (ax_T 214)).lookup 40 = some (.getfield 38, 3, 9, 12, 0) := by decide +kernel
theorem l214_43 : (ax_dt (ax_T 214)).lookup 43 = some (.iload 4, 2, 0, 0, 0) := by decide +kernel
theorem l214_45 : (ax_dt (ax_T 214)).lookup 45 = some (.iaload, 1, 0, 0, 0) := by decide +kernel
theorem l214_46 : (ax_dt (ax_T 214)).lookup 46 = some (.invokestatic 163, 3, 147, 1, 0) := by decide +kernel
theorem l214_49 : (ax_dt (ax_T 214)).lookup 49 = some (.ifCond .eq 76, 3, 0, 0, 0) := by decide +kernel
theorem l214_52 : (ax_dt (ax_T 214)).lookup 52 = some (.aload_n 0, 1, 0, 0, 0) := by decide +kernel
theorem l214_53 : (ax_dt (ax_T 214)).lookup 53 = some (.getfield 48, 3, 9, 15, 0) := by decide +kernel
theorem l214_56 : (ax_dt (ax_T 214)).lookup 56 = some (.iload 4, 2, 0, 0, 0) := by decide +kernel
theorem l214_58 : (ax_dt (ax_T 214)).lookup 58 = some (.iaload, 1, 0, 0, 0) := by decide +kernel
theorem l214_59 : (ax_dt (ax_T 214)).lookup 59 = some (.iload_n 2, 1, 0, 0, 0) := by decide +kernel
theorem l214_60 : (ax_dt (ax_T 214)).lookup 60 = some (.if_icmp .ne 7, 3, 0, 0, 0) := by decide +kernel
theorem l214_63 : (ax_dt (ax_T 214)).lookup 63 = some (.iconst 1, 1, 0, 0, 0) := by decide +kernel
theorem l214_64 : (ax_dt (ax_T 214)).lookup 64 = some (.goto 4, 3, 0, 0, 0) := by decide +kernel
theorem l214_67 : (ax_dt (ax_T 214)).lookup 67 = some (.iconst 0, 1, 0, 0, 0) := by decide +kernel
theorem l214_68 : (ax_dt (ax_T 214)).lookup 68 = some (.istore 5, 2, 0, 0, 0) := by decide +kernel
theorem l214_70 : (ax_dt (ax_T 214)).lookup 70 = some (.iconst 0, 1, 0, 0, 0) := by decide +kernel
theorem l214_71 : (ax_dt (ax_T 214)).lookup 71 = some (.istore 6, 2, 0, 0, 0) := by decide +kernel
theorem l214_73 : (ax_dt (ax_T 214)).lookup 73 = some (.iload 6, 2, 0, 0, 0) := by decide +kernel
theorem l214_75 : (ax_dt (ax_T 214)).lookup 75 = some (.iload_n 2, 1, 0, 0, 0) := by decide +kernel
theorem l214_76 : (ax_dt (ax_T 214)).lookup 76 = some (.if_icmp .ge 46, 3, 0, 0, 0) := by decide +kernel
theorem l214_79 : (ax_dt (ax_T 214)).lookup 79 = some (.iload 5, 2, 0, 0, 0) := by decide +kernel
theorem l214_81 : (ax_dt (ax_T 214)).lookup 81 = some (.ifCond .eq 41, 3, 0, 0, 0) := by decide +kernel
theorem l214_84 : (ax_dt (ax_T 214)).lookup 84 = some (.aload_n 0, 1, 0, 0, 0) := by decide +kernel
theorem l214_85 : (ax_dt (ax_T 214)).lookup 85 = some (.getfield 58, 3, 9, 18, 0) := by decide +kernel
theorem l214_88 : (ax_dt (ax_T 214)).lookup 88 = some (.aload_n 0, 1, 0, 0, 0) := by decide +kernel
theorem l214_89 : (ax_dt (ax_T 214)).lookup 89 = some (.getfield 45, 3, 9, 14, 0) := by decide +kernel
theorem l214_92 : (ax_dt (ax_T 214)).lookup 92 = some (.iload 4, 2, 0, 0, 0) := by decide +kernel
theorem l214_94 : (ax_dt (ax_T 214)).lookup 94 = some (.iaload, 1, 0, 0, 0) := by decide +kernel
theorem l214_95 : (ax_dt (ax_T 214)).lookup 95 = some (.iload 6, 2, 0, 0, 0) := by decide +kernel
theorem l214_97 : (ax_dt (ax_T 214)).lookup 97 = some (.iadd, 1, 0, 0, 0) := by decide +kernel
theorem l214_98 : (ax_dt (ax_T 214)).lookup 98 = some (.baload, 1, 0, 0, 0) := by decide +kernel
theorem l214_99 : (ax_dt (ax_T 214)).lookup 99 = some (.aload_n 0, 1, 0, 0, 0) := by decide +kernel
theorem l214_100 : (ax_dt (ax_T 214)).lookup 100 = some (.getfield 7, 3, 9, 1, 0) := by decide +kernel
theorem l214_103 : (ax_dt (ax_T 214)).lookup 103 = some (.iload 6, 2, 0, 0, 0) := by decide +kernel
theorem l214_105 : (ax_dt (ax_T 214)).lookup 105 = some (.baload, 1, 0, 0, 0) := by decide +kernel
theorem l214_106 : (ax_dt (ax_T 214)).lookup 106 = some (.if_icmp .ne 7, 3, 0, 0, 0) := by decide +kernel
theorem l214_109 : (ax_dt (ax_T 214)).lookup 109 = some (.iconst 1, 1, 0, 0, 0) := by decide +kernel
theorem l214_110 : (ax_dt (ax_T 214)).lookup 110 = some (.goto 4, 3, 0, 0, 0) := by decide +kernel
theorem l214_113 : (ax_dt (ax_T 214)).lookup 113 = some (.iconst 0, 1, 0, 0, 0) := by decide +kernel
theorem l214_114 : (ax_dt (ax_T 214)).lookup 114 = some (.istore 5, 2, 0, 0, 0) := by decide +kernel
theorem l214_116 : (ax_dt (ax_T 214)).lookup 116 = some (.iinc 6 1, 3, 0, 0, 0) := by decide +kernel
theorem l214_119 : (ax_dt (ax_T 214)).lookup 119 = some (.goto (-46), 3, 0, 0, 0) := by decide +kernel
theorem l214_122 : (ax_dt (ax_T 214)).lookup 122 = some (.iload 5, 2, 0, 0, 0) := by decide +kernel
theorem l214_124 : (ax_dt (ax_T 214)).lookup 124 = some (.ireturn, 1, 0, 0, 0) := by decide +kernel
theorem l214_125 : (ax_dt (ax_T 214)).lookup 125 = some (.iinc 4 1, 3, 0, 0, 0) := by decide +kernel
theorem l214_128 : (ax_dt (ax_T 214)).lookup 128 = some (.goto (-116), 3, 0, 0, 0) := by decide +kernel
theorem l214_131 : (ax_dt (ax_T 214)).lookup 131 = some (.iconst 0, 1, 0, 0, 0) := by decide +kernel
theorem l214_132 : (ax_dt (ax_T 214)).lookup 132 = some (.ireturn, 1, 0, 0, 0) := by decide +kernel
noncomputable def F_X11_isNamed_73 (v2 : Int) (v4 : Int) (μ : bM) (v5 : Int) (v6 : Int) : Option ((Int × Int) ⊕ (Int)) := if v2 ≤ v6 then bG (0 ≤ v5 ∧ v5 ≤ 1) (some (.inr (v5))) else if v5 = 0 then bG (0 ≤ v5 ∧ v5 ≤ 1) (some (.inr (v5))) else bG (0 ≤ v4 ∧ v4 < 6400) (bG (bR ((μ 88 v4.toNat) + v6)) (bG (0 ≤ ((μ 88 v4.toNat) + v6) ∧ ((μ 88 v4.toNat) + v6) < 180000) (bG (0 ≤ v6 ∧ v6 < 12000) (if ¬ (μ 92 ((μ 88 v4.toNat) + v6).toNat) = (μ 77 v6.toNat) then bG (bR (v6 + 1)) (some (.inl (0, (v6 + 1)))) else bG (bR (v6 + 1)) (some (.inl (1, (v6 + 1))))))))
noncomputable def F_X11_isNamed_52 (v2 : Int) (v4 : Int) (μ : bM) : Option (Int) := bG (0 ≤ v4 ∧ v4 < 6400) (if ¬ (μ 89 v4.toNat) = v2 then bLoop (fun z => F_X11_isNamed_73 v2 v4 μ z.1 z.2) (0, 0) else bLoop (fun z => F_X11_isNamed_73 v2 v4 μ z.1 z.2) (1, 0))
noncomputable def F_X11_isNamed_12 (v2 : Int) (v3 : Int) (μ : bM) (v4 : Int) : Option ((Int) ⊕ (Int)) := bG (bR (8 * v3)) (bG (0 ≤ v3 ∧ v3 < 800) (bG (bR ((8 * v3) + (μ 84 v3.toNat))) (if ((8 * v3) + (μ 84 v3.toNat)) ≤ v4 then some (.inr (0)) else bG (0 ≤ v4 ∧ v4 < 6400) (if ¬ (μ 85 v4.toNat) = 3 then bG (bR (v4 + 1)) (some (.inl (v4 + 1))) else bG (0 ≤ v4 ∧ v4 < 6400) ((F_X11_isText (μ 86 v4.toNat) μ).bind fun w6 => if w6 = 0 then bG (bR (v4 + 1)) (some (.inl (v4 + 1))) else bUp (F_X11_isNamed_52 v2 v4 μ))))))
noncomputable def F_X11_isNamed (v1 : Int) (v2 : Int) (μ : bM) : Option (Int) := (F_X11_at v1 μ).bind fun w1 => bG (bR (8 * w1)) (bLoop (fun z => F_X11_isNamed_12 v2 w1 μ z) (8 * w1))
theorem q_X11_isNamed_73 {L : Nat} {xs : Nat → Int32} {d : Nat} {μ : bM} {v2 : Int} {v4 : Int} {κ : ((Int × Int) ⊕ (Int)) → Option bX} (hr : ∀ r : Int, κ (.inr r) = (bPc μ) r) (H73 : ∀ (v5 : Int) (v6 : Int), bR v5 → bR v6 → bD L xs (d + 1) 214 73 [(0, .ref 76), (2, bI v2), (4, bI v4), (5, bI v5), (6, bI v6)] [] μ (κ (.inl (v5, v6))))  (h2 : bR v2) (h4 : bR v4) {v5 : Int} (h5 : bR v5) {v6 : Int} (h6 : bR v6) : bD L xs (d + 1) 214 73 [(0, .ref 76), (2, bI v2), (4, bI v4), (5, bI v5), (6, bI v6)] [] μ ((F_X11_isNamed_73 v2 v4 μ v5 v6).bind κ) := by
  unfold F_X11_isNamed_73
  refine bD.ok fun hk => ?_
  refine b_s (pc' := 75) (lv1 := [(0, .ref 76), (2, bI v2), (4, bI v4), (5, bI v5), (6, bI v6)]) (st' := [bI v6]) l214_73 (fun _ => rfl) ?_
  refine b_s (pc' := 76) (lv1 := [(0, .ref 76), (2, bI v2), (4, bI v4), (5, bI v5), (6, bI v6)]) (st' := [bI v2, bI v6]) l214_75 (fun _ => rfl) ?_
  refine b_ige (pt := 122) l214_76 h6 h2 (by decide) rfl (fun c1 => ?_) (fun c1 => b_pc (pc' := 79) rfl ?_)
  · refine b_s (pc' := 124) (lv1 := [(0, .ref 76), (2, bI v2), (4, bI v4), (5, bI v5), (6, bI v6)]) (st' := [bI v5]) l214_122 (fun _ => rfl) ?_
    refine b_g fun g2 => ?_
    exact b_retz l214_124 rfl g2 (hr _)
  · refine b_s (pc' := 81) (lv1 := [(0, .ref 76), (2, bI v2), (4, bI v4), (5, bI v5), (6, bI v6)]) (st' := [bI v5]) l214_79 (fun _ => rfl) ?_
    refine b_zeq (pt := 122) l214_81 h5 (by decide) rfl (fun c3 => ?_) (fun c3 => b_pc (pc' := 84) rfl ?_)
    · refine b_s (pc' := 124) (lv1 := [(0, .ref 76), (2, bI v2), (4, bI v4), (5, bI v5), (6, bI v6)]) (st' := [bI v5]) l214_122 (fun _ => rfl) ?_
      refine b_g fun g4 => ?_
      exact b_retz l214_124 rfl g4 (hr _)
    · refine b_s (pc' := 85) (lv1 := [(0, .ref 76), (2, bI v2), (4, bI v4), (5, bI v5), (6, bI v6)]) (st' := [.ref 76]) l214_84 (fun _ => rfl) ?_
      refine b_gp (q' := 92) (j := 16) l214_85 (by rfl) (by decide) (by decide) rfl hk rfl rfl (b_pc (pc' := 88) rfl ?_)
      refine b_s (pc' := 89) (lv1 := [(0, .ref 76), (2, bI v2), (4, bI v4), (5, bI v5), (6, bI v6)]) (st' := [.ref 76, .ref 92]) l214_88 (fun _ => rfl) ?_
      refine b_gp (q' := 88) (j := 12) l214_89 (by rfl) (by decide) (by decide) rfl hk rfl rfl (b_pc (pc' := 92) rfl ?_)
      refine b_s (pc' := 94) (lv1 := [(0, .ref 76), (2, bI v2), (4, bI v4), (5, bI v5), (6, bI v6)]) (st' := [bI v4, .ref 88, .ref 92]) l214_92 (fun _ => rfl) ?_
      refine b_g fun g11 => ?_
      refine b_ial l214_94 (by rfl) g11 (b_pc (pc' := 95) rfl ?_)
      refine b_s (pc' := 97) (lv1 := [(0, .ref 76), (2, bI v2), (4, bI v4), (5, bI v5), (6, bI v6)]) (st' := [bI v6, bI (μ 88 v4.toNat), .ref 92]) l214_95 (fun _ => rfl) ?_
      refine b_iadd l214_97 fun g5 => (b_pc (pc' := 98) rfl ?_)
      refine b_g fun g10 => ?_
      refine b_bal l214_98 (by rfl) g10 (b_pc (pc' := 99) rfl ?_)
      refine b_s (pc' := 100) (lv1 := [(0, .ref 76), (2, bI v2), (4, bI v4), (5, bI v5), (6, bI v6)]) (st' := [.ref 76, bI (μ 92 ((μ 88 v4.toNat) + v6).toNat)]) l214_99 (fun _ => rfl) ?_
      refine b_gp (q' := 77) (j := 1) l214_100 (by rfl) (by decide) (by decide) rfl hk rfl rfl (b_pc (pc' := 103) rfl ?_)
      refine b_s (pc' := 105) (lv1 := [(0, .ref 76), (2, bI v2), (4, bI v4), (5, bI v5), (6, bI v6)]) (st' := [bI v6, .ref 77, bI (μ 92 ((μ 88 v4.toNat) + v6).toNat)]) l214_103 (fun _ => rfl) ?_
      refine b_g fun g9 => ?_
      refine b_bal l214_105 (by rfl) g9 (b_pc (pc' := 106) rfl ?_)
      refine b_ine (pt := 113) l214_106 (bO_br hk (by rfl)) (bO_br hk (by rfl)) (by decide) rfl (fun c6 => ?_) (fun c6 => b_pc (pc' := 109) rfl ?_)
      · refine b_s (pc' := 114) (lv1 := [(0, .ref 76), (2, bI v2), (4, bI v4), (5, bI v5), (6, bI v6)]) (st' := [bI 0]) l214_113 (fun _ => rfl) ?_
        refine b_w (pc' := 116) (lv1 := ax_st1 [(0, .ref 76), (2, bI v2), (4, bI v4), (5, bI v5), (6, bI v6)] 5 (bI 0)) (lv' := [(0, .ref 76), (2, bI v2), (4, bI v4), (5, bI 0), (6, bI v6)]) (st' := []) l214_114 (fun _ => rfl) (bSb rfl (bSb rfl (bSb rfl (bSb rfl (bSb rfl bSn))))) ?_
        refine b_inc (lv' := [(0, .ref 76), (2, bI v2), (4, bI v4), (5, bI 0), (6, bI (v6 + 1))]) l214_116 rfl (by decide +kernel) (bSb rfl (bSb rfl (bSb rfl (bSb rfl (bSb rfl bSn))))) fun g7 => (b_pc (pc' := 119) rfl ?_)
        refine b_s (pc' := 73) (lv1 := [(0, .ref 76), (2, bI v2), (4, bI v4), (5, bI 0), (6, bI (v6 + 1))]) (st' := []) l214_119 (fun _ => rfl) ?_
        refine bD.wk (lv' := [(0, .ref 76), (2, bI v2), (4, bI v4), (5, bI 0), (6, bI (v6 + 1))]) (bSb rfl (bSb rfl (bSb rfl (bSb rfl (bSb rfl bSn))))) ?_
        exact H73 0 (v6 + 1) (by decide) g7
      · refine b_s (pc' := 110) (lv1 := [(0, .ref 76), (2, bI v2), (4, bI v4), (5, bI v5), (6, bI v6)]) (st' := [bI 1]) l214_109 (fun _ => rfl) ?_
        refine b_s (pc' := 114) (lv1 := [(0, .ref 76), (2, bI v2), (4, bI v4), (5, bI v5), (6, bI v6)]) (st' := [bI 1]) l214_110 (fun _ => rfl) ?_
        refine b_w (pc' := 116) (lv1 := ax_st1 [(0, .ref 76), (2, bI v2), (4, bI v4), (5, bI v5), (6, bI v6)] 5 (bI 1)) (lv' := [(0, .ref 76), (2, bI v2), (4, bI v4), (5, bI 1), (6, bI v6)]) (st' := []) l214_114 (fun _ => rfl) (bSb rfl (bSb rfl (bSb rfl (bSb rfl (bSb rfl bSn))))) ?_
        refine b_inc (lv' := [(0, .ref 76), (2, bI v2), (4, bI v4), (5, bI 1), (6, bI (v6 + 1))]) l214_116 rfl (by decide +kernel) (bSb rfl (bSb rfl (bSb rfl (bSb rfl (bSb rfl bSn))))) fun g8 => (b_pc (pc' := 119) rfl ?_)
        refine b_s (pc' := 73) (lv1 := [(0, .ref 76), (2, bI v2), (4, bI v4), (5, bI 1), (6, bI (v6 + 1))]) (st' := []) l214_119 (fun _ => rfl) ?_
        refine bD.wk (lv' := [(0, .ref 76), (2, bI v2), (4, bI v4), (5, bI 1), (6, bI (v6 + 1))]) (bSb rfl (bSb rfl (bSb rfl (bSb rfl (bSb rfl bSn))))) ?_
        exact H73 1 (v6 + 1) (by decide) g8
theorem p_X11_isNamed_73 {L : Nat} {xs : Nat → Int32} {d : Nat} {μ : bM}  {κ : (Int) → Option bX} (hr : ∀ r : Int, κ r = (bPc μ) r)  {v2 : Int} (h2 : bR v2) {v4 : Int} (h4 : bR v4) {v5 : Int} (h5 : bR v5) {v6 : Int} (h6 : bR v6) : bD L xs (d + 1) 214 73 [(0, .ref 76), (2, bI v2), (4, bI v4), (5, bI v5), (6, bI v6)] [] μ ((bLoop (fun z => F_X11_isNamed_73 v2 v4 μ z.1 z.2) (v5, v6)).bind κ) :=
  b_loop (fun z => [(0, .ref 76), (2, bI v2), (4, bI v4), (5, bI z.1), (6, bI z.2)]) (fun z => μ) (fun z => bR z.1 ∧ bR z.2) (fun κ' hκ HH z hz => q_X11_isNamed_73 (κ := κ') (fun r => (hκ _).trans (hr r)) (fun a5 a6 b5 b6 => HH (a5, a6) ⟨b5, b6⟩)  h2 h4 hz.1 hz.2) (v5, v6) ⟨h5, h6⟩
theorem p_X11_isNamed_52 {L : Nat} {xs : Nat → Int32} {d : Nat} {μ : bM}  {κ : (Int) → Option bX} (hr : ∀ r : Int, κ r = (bPc μ) r)  {v2 : Int} (h2 : bR v2) {v4 : Int} (h4 : bR v4) : bD L xs (d + 1) 214 52 [(0, .ref 76), (2, bI v2), (4, bI v4)] [] μ ((F_X11_isNamed_52 v2 v4 μ).bind κ) := by
  unfold F_X11_isNamed_52
  refine bD.ok fun hk => ?_
  refine b_s (pc' := 53) (lv1 := [(0, .ref 76), (2, bI v2), (4, bI v4)]) (st' := [.ref 76]) l214_52 (fun _ => rfl) ?_
  refine b_gp (q' := 89) (j := 13) l214_53 (by rfl) (by decide) (by decide) rfl hk rfl rfl (b_pc (pc' := 56) rfl ?_)
  refine b_s (pc' := 58) (lv1 := [(0, .ref 76), (2, bI v2), (4, bI v4)]) (st' := [bI v4, .ref 89]) l214_56 (fun _ => rfl) ?_
  refine b_g fun g2 => ?_
  refine b_ial l214_58 (by rfl) g2 (b_pc (pc' := 59) rfl ?_)
  refine b_s (pc' := 60) (lv1 := [(0, .ref 76), (2, bI v2), (4, bI v4)]) (st' := [bI v2, bI (μ 89 v4.toNat)]) l214_59 (fun _ => rfl) ?_
  refine b_ine (pt := 67) l214_60 (bO_i hk (by rfl)) h2 (by decide) rfl (fun c1 => ?_) (fun c1 => b_pc (pc' := 63) rfl ?_)
  · refine b_s (pc' := 68) (lv1 := [(0, .ref 76), (2, bI v2), (4, bI v4)]) (st' := [bI 0]) l214_67 (fun _ => rfl) ?_
    refine b_w (pc' := 70) (lv1 := ax_st1 [(0, .ref 76), (2, bI v2), (4, bI v4)] 5 (bI 0)) (lv' := [(0, .ref 76), (2, bI v2), (4, bI v4), (5, bI 0)]) (st' := []) l214_68 (fun _ => rfl) (bSb rfl (bSb rfl (bSb rfl (bSb rfl bSn)))) ?_
    refine b_s (pc' := 71) (lv1 := [(0, .ref 76), (2, bI v2), (4, bI v4), (5, bI 0)]) (st' := [bI 0]) l214_70 (fun _ => rfl) ?_
    refine b_w (pc' := 73) (lv1 := ax_st1 [(0, .ref 76), (2, bI v2), (4, bI v4), (5, bI 0)] 6 (bI 0)) (lv' := [(0, .ref 76), (2, bI v2), (4, bI v4), (5, bI 0), (6, bI 0)]) (st' := []) l214_71 (fun _ => rfl) (bSb rfl (bSb rfl (bSb rfl (bSb rfl (bSb rfl bSn))))) ?_
    refine bD.wk (lv' := [(0, .ref 76), (2, bI v2), (4, bI v4), (5, bI 0), (6, bI 0)]) (bSb rfl (bSb rfl (bSb rfl (bSb rfl (bSb rfl bSn))))) ?_
    exact p_X11_isNamed_73 hr h2 h4 (by decide) (by decide)
  · refine b_s (pc' := 64) (lv1 := [(0, .ref 76), (2, bI v2), (4, bI v4)]) (st' := [bI 1]) l214_63 (fun _ => rfl) ?_
    refine b_s (pc' := 68) (lv1 := [(0, .ref 76), (2, bI v2), (4, bI v4)]) (st' := [bI 1]) l214_64 (fun _ => rfl) ?_
    refine b_w (pc' := 70) (lv1 := ax_st1 [(0, .ref 76), (2, bI v2), (4, bI v4)] 5 (bI 1)) (lv' := [(0, .ref 76), (2, bI v2), (4, bI v4), (5, bI 1)]) (st' := []) l214_68 (fun _ => rfl) (bSb rfl (bSb rfl (bSb rfl (bSb rfl bSn)))) ?_
    refine b_s (pc' := 71) (lv1 := [(0, .ref 76), (2, bI v2), (4, bI v4), (5, bI 1)]) (st' := [bI 0]) l214_70 (fun _ => rfl) ?_
    refine b_w (pc' := 73) (lv1 := ax_st1 [(0, .ref 76), (2, bI v2), (4, bI v4), (5, bI 1)] 6 (bI 0)) (lv' := [(0, .ref 76), (2, bI v2), (4, bI v4), (5, bI 1), (6, bI 0)]) (st' := []) l214_71 (fun _ => rfl) (bSb rfl (bSb rfl (bSb rfl (bSb rfl (bSb rfl bSn))))) ?_
    refine bD.wk (lv' := [(0, .ref 76), (2, bI v2), (4, bI v4), (5, bI 1), (6, bI 0)]) (bSb rfl (bSb rfl (bSb rfl (bSb rfl (bSb rfl bSn))))) ?_
    exact p_X11_isNamed_73 hr h2 h4 (by decide) (by decide)
theorem q_X11_isNamed_12 {L : Nat} {xs : Nat → Int32} {d : Nat} {μ : bM} {v2 : Int} {v3 : Int} {κ : ((Int) ⊕ (Int)) → Option bX} (hr : ∀ r : Int, κ (.inr r) = (bPc μ) r) (H12 : ∀ (v4 : Int), bR v4 → bD L xs (d + 1) 214 12 [(0, .ref 76), (2, bI v2), (3, bI v3), (4, bI v4)] [] μ (κ (.inl v4)))  (h2 : bR v2) (h3 : bR v3) {v4 : Int} (h4 : bR v4) : bD L xs (d + 1) 214 12 [(0, .ref 76), (2, bI v2), (3, bI v3), (4, bI v4)] [] μ ((F_X11_isNamed_12 v2 v3 μ v4).bind κ) := by
  unfold F_X11_isNamed_12
  refine bD.ok fun hk => ?_
  refine b_s (pc' := 14) (lv1 := [(0, .ref 76), (2, bI v2), (3, bI v3), (4, bI v4)]) (st' := [bI v4]) l214_12 (fun _ => rfl) ?_
  refine b_bipush l214_14 (by decide) (b_pc (pc' := 16) rfl ?_)
  refine b_s (pc' := 17) (lv1 := [(0, .ref 76), (2, bI v2), (3, bI v3), (4, bI v4)]) (st' := [bI v3, bI 8, bI v4]) l214_16 (fun _ => rfl) ?_
  refine b_imul l214_17 fun g1 => (b_pc (pc' := 18) rfl ?_)
  refine b_s (pc' := 19) (lv1 := [(0, .ref 76), (2, bI v2), (3, bI v3), (4, bI v4)]) (st' := [.ref 76, bI (8 * v3), bI v4]) l214_18 (fun _ => rfl) ?_
  refine b_gp (q' := 84) (j := 8) l214_19 (by rfl) (by decide) (by decide) rfl hk rfl rfl (b_pc (pc' := 22) rfl ?_)
  refine b_s (pc' := 23) (lv1 := [(0, .ref 76), (2, bI v2), (3, bI v3), (4, bI v4)]) (st' := [bI v3, .ref 84, bI (8 * v3), bI v4]) l214_22 (fun _ => rfl) ?_
  refine b_g fun g11 => ?_
  refine b_ial l214_23 (by rfl) g11 (b_pc (pc' := 24) rfl ?_)
  refine b_iadd l214_24 fun g2 => (b_pc (pc' := 25) rfl ?_)
  refine b_ige (pt := 131) l214_25 h4 g2 (by decide) rfl (fun c3 => ?_) (fun c3 => b_pc (pc' := 28) rfl ?_)
  · refine b_s (pc' := 132) (lv1 := [(0, .ref 76), (2, bI v2), (3, bI v3), (4, bI v4)]) (st' := [bI 0]) l214_131 (fun _ => rfl) ?_
    exact b_retz l214_132 rfl (by decide) (hr _)
  · refine b_s (pc' := 29) (lv1 := [(0, .ref 76), (2, bI v2), (3, bI v3), (4, bI v4)]) (st' := [.ref 76]) l214_28 (fun _ => rfl) ?_
    refine b_gp (q' := 85) (j := 9) l214_29 (by rfl) (by decide) (by decide) rfl hk rfl rfl (b_pc (pc' := 32) rfl ?_)
    refine b_s (pc' := 34) (lv1 := [(0, .ref 76), (2, bI v2), (3, bI v3), (4, bI v4)]) (st' := [bI v4, .ref 85]) l214_32 (fun _ => rfl) ?_
    refine b_g fun g10 => ?_
    refine b_ial l214_34 (by rfl) g10 (b_pc (pc' := 35) rfl ?_)
    refine b_s (pc' := 36) (lv1 := [(0, .ref 76), (2, bI v2), (3, bI v3), (4, bI v4)]) (st' := [bI 3, bI (μ 85 v4.toNat)]) l214_35 (fun _ => rfl) ?_
    refine b_ine (pt := 125) l214_36 (bO_i hk (by rfl)) (by decide) (by decide) rfl (fun c4 => ?_) (fun c4 => b_pc (pc' := 39) rfl ?_)
    · refine b_inc (lv' := [(0, .ref 76), (2, bI v2), (3, bI v3), (4, bI (v4 + 1))]) l214_125 rfl (by decide +kernel) (bSb rfl (bSb rfl (bSb rfl (bSb rfl bSn)))) fun g5 => (b_pc (pc' := 128) rfl ?_)
      refine b_s (pc' := 12) (lv1 := [(0, .ref 76), (2, bI v2), (3, bI v3), (4, bI (v4 + 1))]) (st' := []) l214_128 (fun _ => rfl) ?_
      refine bD.wk (lv' := [(0, .ref 76), (2, bI v2), (3, bI v3), (4, bI (v4 + 1))]) (bSb rfl (bSb rfl (bSb rfl (bSb rfl bSn)))) ?_
      exact H12 (v4 + 1) g5
    · refine b_s (pc' := 40) (lv1 := [(0, .ref 76), (2, bI v2), (3, bI v3), (4, bI v4)]) (st' := [.ref 76]) l214_39 (fun _ => rfl) ?_
      refine b_gp (q' := 86) (j := 10) l214_40 (by rfl) (by decide) (by decide) rfl hk rfl rfl (b_pc (pc' := 43) rfl ?_)
      refine b_s (pc' := 45) (lv1 := [(0, .ref 76), (2, bI v2), (3, bI v3), (4, bI v4)]) (st' := [bI v4, .ref 86]) l214_43 (fun _ => rfl) ?_
      refine b_g fun g9 => ?_
      refine b_ial l214_45 (by rfl) g9 (b_pc (pc' := 46) rfl ?_)
      refine b_cPz l214_46 rfl (fun _ => trivial) (Nat.le_of_ble_eq_true rfl) (Nat.le_of_ble_eq_true rfl) rfl (r_X11_isText (μ 86 v4.toNat) (bO_i hk (by rfl))) fun w6 hw6 => b_pc (pc' := 49) rfl ?_
      refine b_zeq (pt := 125) l214_49 (bZ_R hw6) (by decide) rfl (fun c7 => ?_) (fun c7 => b_pc (pc' := 52) rfl ?_)
      · refine b_inc (lv' := [(0, .ref 76), (2, bI v2), (3, bI v3), (4, bI (v4 + 1))]) l214_125 rfl (by decide +kernel) (bSb rfl (bSb rfl (bSb rfl (bSb rfl bSn)))) fun g8 => (b_pc (pc' := 128) rfl ?_)
        refine b_s (pc' := 12) (lv1 := [(0, .ref 76), (2, bI v2), (3, bI v3), (4, bI (v4 + 1))]) (st' := []) l214_128 (fun _ => rfl) ?_
        refine bD.wk (lv' := [(0, .ref 76), (2, bI v2), (3, bI v3), (4, bI (v4 + 1))]) (bSb rfl (bSb rfl (bSb rfl (bSb rfl bSn)))) ?_
        exact H12 (v4 + 1) g8
      · refine b_up (fun _ => rfl) ?_
        refine bD.wk (lv' := [(0, .ref 76), (2, bI v2), (4, bI v4)]) (bSb rfl (bSb rfl (bSb rfl bSn))) ?_
        exact p_X11_isNamed_52 hr h2 h4
theorem p_X11_isNamed_12 {L : Nat} {xs : Nat → Int32} {d : Nat} {μ : bM}  {κ : (Int) → Option bX} (hr : ∀ r : Int, κ r = (bPc μ) r)  {v2 : Int} (h2 : bR v2) {v3 : Int} (h3 : bR v3) {v4 : Int} (h4 : bR v4) : bD L xs (d + 1) 214 12 [(0, .ref 76), (2, bI v2), (3, bI v3), (4, bI v4)] [] μ ((bLoop (fun z => F_X11_isNamed_12 v2 v3 μ z) v4).bind κ) :=
  b_loop (fun z => [(0, .ref 76), (2, bI v2), (3, bI v3), (4, bI z)]) (fun z => μ) (fun z => bR z) (fun κ' hκ HH z hz => q_X11_isNamed_12 (κ := κ') (fun r => (hκ _).trans (hr r)) (fun a4 b4 => HH a4 b4)  h2 h3 hz) v4 h4
theorem r_X11_isNamed {L : Nat} {xs : Nat → Int32} {d : Nat} {μ : bM}  (v1 : Int) (h1 : bR v1) (v2 : Int) (h2 : bR v2) : bD L xs (d + 1) 214 0 [(0, .ref 76), (1, bI v1), (2, bI v2)] [] μ ((F_X11_isNamed v1 v2 μ).bind (bPc μ)) := by
  have hr : ∀ r, (bPc μ) r = (bPc μ) r := fun _ => rfl
  unfold F_X11_isNamed
  refine bD.ok fun hk => ?_
  refine b_s (pc' := 1) (lv1 := [(0, .ref 76), (1, bI v1), (2, bI v2)]) (st' := [.ref 76]) l214_0 (fun _ => rfl) ?_
  refine b_s (pc' := 2) (lv1 := [(0, .ref 76), (1, bI v1), (2, bI v2)]) (st' := [bI v1, .ref 76]) l214_1 (fun _ => rfl) ?_
  refine b_cPi l214_2 rfl (b_rc (ci := 9) (by rfl) (by decide) (by decide +kernel)) (Nat.le_of_ble_eq_true rfl) (Nat.le_of_ble_eq_true rfl) rfl (r_X11_at v1 h1) fun w1 hw1 => b_pc (pc' := 5) rfl ?_
  refine b_w (pc' := 6) (lv1 := ax_st1 [(0, .ref 76), (1, bI v1), (2, bI v2)] 3 (bI w1)) (lv' := [(0, .ref 76), (2, bI v2), (3, bI w1)]) (st' := []) l214_5 (fun _ => rfl) (bSb rfl (bSb rfl (bSb rfl bSn))) ?_
  refine b_bipush l214_6 (by decide) (b_pc (pc' := 8) rfl ?_)
  refine b_s (pc' := 9) (lv1 := [(0, .ref 76), (2, bI v2), (3, bI w1)]) (st' := [bI w1, bI 8]) l214_8 (fun _ => rfl) ?_
  refine b_imul l214_9 fun g2 => (b_pc (pc' := 10) rfl ?_)
  refine b_w (pc' := 12) (lv1 := ax_st1 [(0, .ref 76), (2, bI v2), (3, bI w1)] 4 (bI (8 * w1))) (lv' := [(0, .ref 76), (2, bI v2), (3, bI w1), (4, bI (8 * w1))]) (st' := []) l214_10 (fun _ => rfl) (bSb rfl (bSb rfl (bSb rfl (bSb rfl bSn)))) ?_
  refine bD.wk (lv' := [(0, .ref 76), (2, bI v2), (3, bI w1), (4, bI (8 * w1))]) (bSb rfl (bSb rfl (bSb rfl (bSb rfl bSn)))) ?_
  exact p_X11_isNamed_12 hr h2 hw1 g2
/-! ETModel.find -/
theorem l215_0 : (ax_dt (ax_T 215)).lookup 0 = some (.aload_n 0, 1, 0, 0, 0) := by decide +kernel
theorem l215_1 : (ax_dt (ax_T 215)).lookup 1 = some (.iload_n 1, 1, 0, 0, 0) := by decide +kernel
theorem l215_2 : (ax_dt (ax_T 215)).lookup 2 = some (.iconst (-1), 1, 0, 0, 0) := by decide +kernel
theorem l215_3 : (ax_dt (ax_T 215)).lookup 3 = some (.if_icmp .eq 11, 3, 0, 0, 0) := by decide +kernel
theorem l215_6 : (ax_dt (ax_T 215)).lookup 6 = some (.aload_n 0, 1, 0, 0, 0) := by decide +kernel
theorem l215_7 : (ax_dt (ax_T 215)).lookup 7 = some (.iload_n 1, 1, 0, 0, 0) := by decide +kernel
theorem l215_8 : (ax_dt (ax_T 215)).lookup 8 = some (.invokevirtual 152, 3, 141, 1, 0) := by decide +kernel
theorem l215_11 : (ax_dt (ax_T 215)).lookup 11 = some (.ifCond .eq 7, 3, 0, 0, 0) := by decide +kernel
theorem l215_14 : (ax_dt (ax_T 215)).lookup 14 = some (.iconst 1, 1, 0, 0, 0) := by decide +kernel
theorem l215_15 : (ax_dt (ax_T 215)).lookup 15 = some (.goto 4, 3, 0, 0, 0) := by decide +kernel
theorem l215_18 : (ax_dt (ax_T 215)).lookup 18 = some (.iconst 0, 1, 0, 0, 0) := by decide +kernel
theorem l215_19 : (ax_dt (ax_T 215)).lookup 19 = some (.invokevirtual 127, 3, 134, 1, 0) := by decide +kernel
theorem l215_22 : (ax_dt (ax_T 215)).lookup 22 = some (.ifCond .ne 5, 3, 0, 0, 0) := by decide +kernel
theorem l215_25 : (ax_dt (ax_T 215)).lookup 25 = some (.iconst 0, 1, 0, 0, 0) := by decide +kernel
theorem l215_26 : (ax_dt (ax_T 215)).lookup 26 = some (.ireturn, 1, 0, 0, 0) := by decide +kernel
theorem l215_27 : (ax_dt (ax_T 215)).lookup 27 = some (.aload_n 0, 1, 0, 0, 0) := by decide +kernel
theorem l215_28 : (ax_dt (ax_T 215)).lookup 28 = some (.getfield 124, 3, 9, 2, 0) := by decide +kernel
theorem l215_31 : (ax_dt (ax_T 215)).lookup 31 = some (.istore_n 2, 1, 0, 0, 0) := by decide +kernel
theorem l215_32 : (ax_dt (ax_T 215)).lookup 32 = some (.aload_n 0, 1, 0, 0, 0) := by decide +kernel
theorem l215_33 : (ax_dt (ax_T 215)).lookup 33 = some (.iconst 0, 1, 0, 0, 0) := by decide +kernel
theorem l215_34 : (ax_dt (ax_T 215)).lookup 34 = some (.putfield 124, 3, 9, 2, 0) := by decide +kernel
theorem l215_37 : (ax_dt (ax_T 215)).lookup 37 = some (.iconst 0, 1, 0, 0, 0) := by decide +kernel
theorem l215_38 : (ax_dt (ax_T 215)).lookup 38 = some (.istore_n 3, 1, 0, 0, 0) := by decide +kernel
theorem l215_39 : (ax_dt (ax_T 215)).lookup 39 = some (.iload_n 3, 1, 0, 0, 0) := by decide +kernel
theorem l215_40 : (ax_dt (ax_T 215)).lookup 40 = some (.aload_n 0, 1, 0, 0, 0) := by decide +kernel
theorem l215_41 : (ax_dt (ax_T 215)).lookup 41 = some (.getfield 13, 3, 9, 4, 0) := by decide +kernel
theorem l215_44 : (ax_dt (ax_T 215)).lookup 44 = some (.aload_n 0, 1, 0, 0, 0) := by decide +kernel
theorem l215_45 : (ax_dt (ax_T 215)).lookup 45 = some (.getfield 137, 3, 9, 3, 0) := by decide +kernel
theorem l215_48 : (ax_dt (ax_T 215)).lookup 48 = some (.iaload, 1, 0, 0, 0) := by decide +kernel
theorem l215_49 : (ax_dt (ax_T 215)).lookup 49 = some (.if_icmp .ge 34, 3, 0, 0, 0) := by decide +kernel
theorem l215_52 : (ax_dt (ax_T 215)).lookup 52 = some (.aload_n 0, 1, 0, 0, 0) := by decide +kernel
theorem l215_53 : (ax_dt (ax_T 215)).lookup 53 = some (.getfield 26, 3, 9, 8, 0) := by decide +kernel
theorem l215_56 : (ax_dt (ax_T 215)).lookup 56 = some (.aload_n 0, 1, 0, 0, 0) := by decide +kernel
theorem l215_57 : (ax_dt (ax_T 215)).lookup 57 = some (.iload_n 3, 1, 0, 0, 0) := by decide +kernel
theorem l215_58 : (ax_dt (ax_T 215)).lookup 58 = some (.invokevirtual 140, 3, 140, 1, 0) := by decide +kernel
theorem l215_61 : (ax_dt (ax_T 215)).lookup 61 = some (.iaload, 1, 0, 0, 0) := by decide +kernel
theorem l215_62 : (ax_dt (ax_T 215)).lookup 62 = some (.iload_n 1, 1, 0, 0, 0) := by decide +kernel
theorem l215_63 : (ax_dt (ax_T 215)).lookup 63 = some (.if_icmp .ne 14, 3, 0, 0, 0) := by decide +kernel
theorem l215_66 : (ax_dt (ax_T 215)).lookup 66 = some (.aload_n 0, 1, 0, 0, 0) := by decide +kernel
theorem l215_67 : (ax_dt (ax_T 215)).lookup 67 = some (.iload_n 3, 1, 0, 0, 0) := by decide +kernel
theorem l215_68 : (ax_dt (ax_T 215)).lookup 68 = some (.iload_n 2, 1, 0, 0, 0) := by decide +kernel
theorem l215_69 : (ax_dt (ax_T 215)).lookup 69 = some (.invokevirtual 417, 3, 214, 2, 0) := by decide +kernel
theorem l215_72 : (ax_dt (ax_T 215)).lookup 72 = some (.ifCond .eq 5, 3, 0, 0, 0) := by decide +kernel
theorem l215_75 : (ax_dt (ax_T 215)).lookup 75 = some (.iload_n 3, 1, 0, 0, 0) := by decide +kernel
theorem l215_76 : (ax_dt (ax_T 215)).lookup 76 = some (.ireturn, 1, 0, 0, 0) := by decide +kernel
theorem l215_77 : (ax_dt (ax_T 215)).lookup 77 = some (.iinc 3 1, 3, 0, 0, 0) := by decide +kernel
theorem l215_80 : (ax_dt (ax_T 215)).lookup 80 = some (.goto (-41), 3, 0, 0, 0) := by decide +kernel
theorem l215_83 : (ax_dt (ax_T 215)).lookup 83 = some (.iconst (-1), 1, 0, 0, 0) := by decide +kernel
theorem l215_84 : (ax_dt (ax_T 215)).lookup 84 = some (.ireturn, 1, 0, 0, 0) := by decide +kernel
noncomputable def F_X11_find_39 (v1 : Int) (v2 : Int) (μ : bM) (v3 : Int) : Option ((Int) ⊕ (Int × bM)) := bG (0 ≤ (μ 76 3) ∧ (μ 76 3) < 2) (if (μ 78 (μ 76 3).toNat) ≤ v3 then some (.inr ((-1), μ)) else (F_X11_at v3 μ).bind fun w2 => bG (0 ≤ w2 ∧ w2 < 800) (if ¬ (μ 82 w2.toNat) = v1 then bG (bR (v3 + 1)) (some (.inl (v3 + 1))) else (F_X11_isNamed v3 v2 μ).bind fun w5 => if w5 = 0 then bG (bR (v3 + 1)) (some (.inl (v3 + 1))) else some (.inr (v3, μ))))
noncomputable def F_X11_find_19 (v1 : Int) (y1 : Int) (μ : bM) : Option (Int × bM) := bMm (F_X11_goes y1 μ) (fun w1 μ2 => if ¬ w1 = 0 then bLoop (fun z => F_X11_find_39 v1 (μ2 76 2) (bset μ2 76 2 0) z) 0 else some (0, μ2))
noncomputable def F_X11_find_14 (v1 : Int) (μ : bM) : Option (Int × bM) := F_X11_find_19 v1 1 μ
noncomputable def F_X11_find (v1 : Int) (μ : bM) : Option (Int × bM) := if v1 = (-1) then F_X11_find_14 v1 μ else (F_X11_isEntry v1 μ).bind fun w2 => if w2 = 0 then F_X11_find_19 v1 0 μ else F_X11_find_14 v1 μ
theorem q_X11_find_39 {L : Nat} {xs : Nat → Int32} {d : Nat} {μ : bM} {v1 : Int} {v2 : Int} {κ : ((Int) ⊕ (Int × bM)) → Option bX} (hr : ∀ r : Int × bM, κ (.inr r) = (bMc) r) (H39 : ∀ (v3 : Int), bR v3 → bD L xs (d + 2) 215 39 [(0, .ref 76), (1, bI v1), (2, bI v2), (3, bI v3)] [] μ (κ (.inl v3)))  (h1 : bR v1) (h2 : bR v2) {v3 : Int} (h3 : bR v3) : bD L xs (d + 2) 215 39 [(0, .ref 76), (1, bI v1), (2, bI v2), (3, bI v3)] [] μ ((F_X11_find_39 v1 v2 μ v3).bind κ) := by
  unfold F_X11_find_39
  refine bD.ok fun hk => ?_
  refine b_s (pc' := 40) (lv1 := [(0, .ref 76), (1, bI v1), (2, bI v2), (3, bI v3)]) (st' := [bI v3]) l215_39 (fun _ => rfl) ?_
  refine b_s (pc' := 41) (lv1 := [(0, .ref 76), (1, bI v1), (2, bI v2), (3, bI v3)]) (st' := [.ref 76, bI v3]) l215_40 (fun _ => rfl) ?_
  refine b_gp (q' := 78) (j := 2) l215_41 (by rfl) (by decide) (by decide) rfl hk rfl rfl (b_pc (pc' := 44) rfl ?_)
  refine b_s (pc' := 45) (lv1 := [(0, .ref 76), (1, bI v1), (2, bI v2), (3, bI v3)]) (st' := [.ref 76, .ref 78, bI v3]) l215_44 (fun _ => rfl) ?_
  refine b_gi l215_45 (by rfl) (by decide) (by decide) rfl (b_pc (pc' := 48) rfl ?_)
  refine b_g fun g9 => ?_
  refine b_ial l215_48 (by rfl) g9 (b_pc (pc' := 49) rfl ?_)
  refine b_ige (pt := 83) l215_49 h3 (bO_i hk (by rfl)) (by decide) rfl (fun c1 => ?_) (fun c1 => b_pc (pc' := 52) rfl ?_)
  · refine b_s (pc' := 84) (lv1 := [(0, .ref 76), (1, bI v1), (2, bI v2), (3, bI v3)]) (st' := [bI (-1)]) l215_83 (fun _ => rfl) ?_
    exact b_reti l215_84 rfl (by decide) (hr _)
  · refine b_s (pc' := 53) (lv1 := [(0, .ref 76), (1, bI v1), (2, bI v2), (3, bI v3)]) (st' := [.ref 76]) l215_52 (fun _ => rfl) ?_
    refine b_gp (q' := 82) (j := 6) l215_53 (by rfl) (by decide) (by decide) rfl hk rfl rfl (b_pc (pc' := 56) rfl ?_)
    refine b_s (pc' := 57) (lv1 := [(0, .ref 76), (1, bI v1), (2, bI v2), (3, bI v3)]) (st' := [.ref 76, .ref 82]) l215_56 (fun _ => rfl) ?_
    refine b_s (pc' := 58) (lv1 := [(0, .ref 76), (1, bI v1), (2, bI v2), (3, bI v3)]) (st' := [bI v3, .ref 76, .ref 82]) l215_57 (fun _ => rfl) ?_
    refine b_cPi l215_58 rfl (b_rc (ci := 9) (by rfl) (by decide) (by decide +kernel)) (Nat.le_of_ble_eq_true rfl) (Nat.le_of_ble_eq_true rfl) rfl (r_X11_at v3 h3) fun w2 hw2 => b_pc (pc' := 61) rfl ?_
    refine b_g fun g8 => ?_
    refine b_ial l215_61 (by rfl) g8 (b_pc (pc' := 62) rfl ?_)
    refine b_s (pc' := 63) (lv1 := [(0, .ref 76), (1, bI v1), (2, bI v2), (3, bI v3)]) (st' := [bI v1, bI (μ 82 w2.toNat)]) l215_62 (fun _ => rfl) ?_
    refine b_ine (pt := 77) l215_63 (bO_i hk (by rfl)) h1 (by decide) rfl (fun c3 => ?_) (fun c3 => b_pc (pc' := 66) rfl ?_)
    · refine b_inc (lv' := [(0, .ref 76), (1, bI v1), (2, bI v2), (3, bI (v3 + 1))]) l215_77 rfl (by decide +kernel) (bSb rfl (bSb rfl (bSb rfl (bSb rfl bSn)))) fun g4 => (b_pc (pc' := 80) rfl ?_)
      refine b_s (pc' := 39) (lv1 := [(0, .ref 76), (1, bI v1), (2, bI v2), (3, bI (v3 + 1))]) (st' := []) l215_80 (fun _ => rfl) ?_
      refine bD.wk (lv' := [(0, .ref 76), (1, bI v1), (2, bI v2), (3, bI (v3 + 1))]) (bSb rfl (bSb rfl (bSb rfl (bSb rfl bSn)))) ?_
      exact H39 (v3 + 1) g4
    · refine b_s (pc' := 67) (lv1 := [(0, .ref 76), (1, bI v1), (2, bI v2), (3, bI v3)]) (st' := [.ref 76]) l215_66 (fun _ => rfl) ?_
      refine b_s (pc' := 68) (lv1 := [(0, .ref 76), (1, bI v1), (2, bI v2), (3, bI v3)]) (st' := [bI v3, .ref 76]) l215_67 (fun _ => rfl) ?_
      refine b_s (pc' := 69) (lv1 := [(0, .ref 76), (1, bI v1), (2, bI v2), (3, bI v3)]) (st' := [bI v2, bI v3, .ref 76]) l215_68 (fun _ => rfl) ?_
      refine b_cPz l215_69 rfl (b_rc (ci := 9) (by rfl) (by decide) (by decide +kernel)) (Nat.le_of_ble_eq_true rfl) (Nat.le_of_ble_eq_true rfl) rfl (r_X11_isNamed v3 h3 v2 h2) fun w5 hw5 => b_pc (pc' := 72) rfl ?_
      refine b_zeq (pt := 77) l215_72 (bZ_R hw5) (by decide) rfl (fun c6 => ?_) (fun c6 => b_pc (pc' := 75) rfl ?_)
      · refine b_inc (lv' := [(0, .ref 76), (1, bI v1), (2, bI v2), (3, bI (v3 + 1))]) l215_77 rfl (by decide +kernel) (bSb rfl (bSb rfl (bSb rfl (bSb rfl bSn)))) fun g7 => (b_pc (pc' := 80) rfl ?_)
        refine b_s (pc' := 39) (lv1 := [(0, .ref 76), (1, bI v1), (2, bI v2), (3, bI (v3 + 1))]) (st' := []) l215_80 (fun _ => rfl) ?_
        refine bD.wk (lv' := [(0, .ref 76), (1, bI v1), (2, bI v2), (3, bI (v3 + 1))]) (bSb rfl (bSb rfl (bSb rfl (bSb rfl bSn)))) ?_
        exact H39 (v3 + 1) g7
      · refine b_s (pc' := 76) (lv1 := [(0, .ref 76), (1, bI v1), (2, bI v2), (3, bI v3)]) (st' := [bI v3]) l215_75 (fun _ => rfl) ?_
        exact b_reti l215_76 rfl h3 (hr _)
theorem p_X11_find_39 {L : Nat} {xs : Nat → Int32} {d : Nat} {μ : bM}  {κ : (Int × bM) → Option bX} (hr : ∀ r : Int × bM, κ r = (bMc) r)  {v1 : Int} (h1 : bR v1) {v2 : Int} (h2 : bR v2) {v3 : Int} (h3 : bR v3) : bD L xs (d + 2) 215 39 [(0, .ref 76), (1, bI v1), (2, bI v2), (3, bI v3)] [] μ ((bLoop (fun z => F_X11_find_39 v1 v2 μ z) v3).bind κ) :=
  b_loop (fun z => [(0, .ref 76), (1, bI v1), (2, bI v2), (3, bI z)]) (fun z => μ) (fun z => bR z) (fun κ' hκ HH z hz => q_X11_find_39 (κ := κ') (fun r => (hκ _).trans (hr r)) (fun a3 b3 => HH a3 b3)  h1 h2 hz) v3 h3
theorem p_X11_find_19 {L : Nat} {xs : Nat → Int32} {d : Nat} {μ : bM}  {κ : (Int × bM) → Option bX} (hr : ∀ r : Int × bM, κ r = (bMc) r)  {v1 : Int} (h1 : bR v1) {y1 : Int} (hy1 : bR y1) : bD L xs (d + 2) 215 19 [(0, .ref 76), (1, bI v1)] [bI y1, .ref 76] μ ((F_X11_find_19 v1 y1 μ).bind κ) := by
  unfold F_X11_find_19
  refine bD.ok fun hk => ?_
  refine b_cMz l215_19 rfl (b_rc (ci := 9) (by rfl) (by decide) (by decide +kernel)) (Nat.le_of_ble_eq_true rfl) (Nat.le_of_ble_eq_true rfl) rfl (r_X11_goes y1 hy1) fun w1 μ2 hw1 => bD.ok fun hk3 => b_pc (pc' := 22) rfl ?_
  refine b_zne (pt := 27) l215_22 (bZ_R hw1) (by decide) rfl (fun c4 => ?_) (fun c4 => b_pc (pc' := 25) rfl ?_)
  · refine b_s (pc' := 28) (lv1 := [(0, .ref 76), (1, bI v1)]) (st' := [.ref 76]) l215_27 (fun _ => rfl) ?_
    refine b_gi l215_28 (by rfl) (by decide) (by decide) rfl (b_pc (pc' := 31) rfl ?_)
    refine b_w (pc' := 32) (lv1 := ax_st1 [(0, .ref 76), (1, bI v1)] 2 (bI (μ2 76 2))) (lv' := [(0, .ref 76), (1, bI v1), (2, bI (μ2 76 2))]) (st' := []) l215_31 (fun _ => rfl) (bSb rfl (bSb rfl (bSb rfl bSn))) ?_
    refine b_s (pc' := 33) (lv1 := [(0, .ref 76), (1, bI v1), (2, bI (μ2 76 2))]) (st' := [.ref 76]) l215_32 (fun _ => rfl) ?_
    refine b_s (pc' := 34) (lv1 := [(0, .ref 76), (1, bI v1), (2, bI (μ2 76 2))]) (st' := [bI 0, .ref 76]) l215_33 (fun _ => rfl) ?_
    refine b_pi l215_34 (by rfl) (by decide) (by decide) rfl rfl (by decide) (bD.ok fun hk5 => b_pc (pc' := 37) rfl ?_)
    refine b_s (pc' := 38) (lv1 := [(0, .ref 76), (1, bI v1), (2, bI (μ2 76 2))]) (st' := [bI 0]) l215_37 (fun _ => rfl) ?_
    refine b_w (pc' := 39) (lv1 := ax_st1 [(0, .ref 76), (1, bI v1), (2, bI (μ2 76 2))] 3 (bI 0)) (lv' := [(0, .ref 76), (1, bI v1), (2, bI (μ2 76 2)), (3, bI 0)]) (st' := []) l215_38 (fun _ => rfl) (bSb rfl (bSb rfl (bSb rfl (bSb rfl bSn)))) ?_
    refine bD.wk (lv' := [(0, .ref 76), (1, bI v1), (2, bI (μ2 76 2)), (3, bI 0)]) (bSb rfl (bSb rfl (bSb rfl (bSb rfl bSn)))) ?_
    exact p_X11_find_39 hr h1 (bO_f hk3 (ci := 9) (by rfl) rfl) (by decide)
  · refine b_s (pc' := 26) (lv1 := [(0, .ref 76), (1, bI v1)]) (st' := [bI 0]) l215_25 (fun _ => rfl) ?_
    exact b_reti l215_26 rfl (by decide) (hr _)
theorem p_X11_find_14 {L : Nat} {xs : Nat → Int32} {d : Nat} {μ : bM}  {κ : (Int × bM) → Option bX} (hr : ∀ r : Int × bM, κ r = (bMc) r)  {v1 : Int} (h1 : bR v1) : bD L xs (d + 2) 215 14 [(0, .ref 76), (1, bI v1)] [.ref 76] μ ((F_X11_find_14 v1 μ).bind κ) := by
  unfold F_X11_find_14
  refine bD.ok fun hk => ?_
  refine b_s (pc' := 15) (lv1 := [(0, .ref 76), (1, bI v1)]) (st' := [bI 1, .ref 76]) l215_14 (fun _ => rfl) ?_
  refine b_s (pc' := 19) (lv1 := [(0, .ref 76), (1, bI v1)]) (st' := [bI 1, .ref 76]) l215_15 (fun _ => rfl) ?_
  refine bD.wk (lv' := [(0, .ref 76), (1, bI v1)]) (bSb rfl (bSb rfl bSn)) ?_
  exact p_X11_find_19 hr h1 (by decide)
theorem r_X11_find {L : Nat} {xs : Nat → Int32} {d : Nat} {μ : bM}  (v1 : Int) (h1 : bR v1) : bD L xs (d + 2) 215 0 [(0, .ref 76), (1, bI v1)] [] μ ((F_X11_find v1 μ).bind (bMc)) := by
  have hr : ∀ r, (bMc) r = (bMc) r := fun _ => rfl
  unfold F_X11_find
  refine bD.ok fun hk => ?_
  refine b_s (pc' := 1) (lv1 := [(0, .ref 76), (1, bI v1)]) (st' := [.ref 76]) l215_0 (fun _ => rfl) ?_
  refine b_s (pc' := 2) (lv1 := [(0, .ref 76), (1, bI v1)]) (st' := [bI v1, .ref 76]) l215_1 (fun _ => rfl) ?_
  refine b_s (pc' := 3) (lv1 := [(0, .ref 76), (1, bI v1)]) (st' := [bI (-1), bI v1, .ref 76]) l215_2 (fun _ => rfl) ?_
  refine b_ieq (pt := 14) l215_3 h1 (by decide) (by decide) rfl (fun c1 => ?_) (fun c1 => b_pc (pc' := 6) rfl ?_)
  · refine bD.wk (lv' := [(0, .ref 76), (1, bI v1)]) (bSb rfl (bSb rfl bSn)) ?_
    exact p_X11_find_14 hr h1
  · refine b_s (pc' := 7) (lv1 := [(0, .ref 76), (1, bI v1)]) (st' := [.ref 76, .ref 76]) l215_6 (fun _ => rfl) ?_
    refine b_s (pc' := 8) (lv1 := [(0, .ref 76), (1, bI v1)]) (st' := [bI v1, .ref 76, .ref 76]) l215_7 (fun _ => rfl) ?_
    refine b_cPz l215_8 rfl (b_rc (ci := 9) (by rfl) (by decide) (by decide +kernel)) (Nat.le_of_ble_eq_true rfl) (Nat.le_of_ble_eq_true rfl) rfl (r_X11_isEntry v1 h1) fun w2 hw2 => b_pc (pc' := 11) rfl ?_
    refine b_zeq (pt := 18) l215_11 (bZ_R hw2) (by decide) rfl (fun c3 => ?_) (fun c3 => b_pc (pc' := 14) rfl ?_)
    · refine b_s (pc' := 19) (lv1 := [(0, .ref 76), (1, bI v1)]) (st' := [bI 0, .ref 76]) l215_18 (fun _ => rfl) ?_
      refine bD.wk (lv' := [(0, .ref 76), (1, bI v1)]) (bSb rfl (bSb rfl bSn)) ?_
      exact p_X11_find_19 hr h1 (by decide)
    · refine bD.wk (lv' := [(0, .ref 76), (1, bI v1)]) (bSb rfl (bSb rfl bSn)) ?_
      exact p_X11_find_14 hr h1
/-! ETModel.numberNamed -/
theorem l216_0 : (ax_dt (ax_T 216)).lookup 0 = some (.aload_n 0, 1, 0, 0, 0) := by decide +kernel
theorem l216_1 : (ax_dt (ax_T 216)).lookup 1 = some (.iload_n 1, 1, 0, 0, 0) := by decide +kernel
theorem l216_2 : (ax_dt (ax_T 216)).lookup 2 = some (.invokevirtual 140, 3, 140, 1, 0) := by decide +kernel
theorem l216_5 : (ax_dt (ax_T 216)).lookup 5 = some (.istore_n 3, 1, 0, 0, 0) := by decide +kernel
theorem l216_6 : (ax_dt (ax_T 216)).lookup 6 = some (.bipush 8, 2, 0, 0, 0) := by decide +kernel
theorem l216_8 : (ax_dt (ax_T 216)).lookup 8 = some (.iload_n 3, 1, 0, 0, 0) := by decide +kernel
theorem l216_9 : (ax_dt (ax_T 216)).lookup 9 = some (.imul, 1, 0, 0, 0) := by decide +kernel
theorem l216_10 : (ax_dt (ax_T 216)).lookup 10 = some (.istore 4, 2, 0, 0, 0) := by decide +kernel
theorem l216_12 : (ax_dt (ax_T 216)).lookup 12 = some (.iload 4, 2, 0, 0, 0) := by decide +kernel
theorem l216_14 : (ax_dt (ax_T 216)).lookup 14 = some (.bipush 8, 2, 0, 0, 0) := by decide +kernel
theorem l216_16 : (ax_dt (ax_T 216)).lookup 16 = some (.iload_n 3, 1, 0, 0, 0) := by decide +kernel
theorem l216_17 : (ax_dt (ax_T 216)).lookup 17 = some (.imul, 1, 0, 0, 0) := by decide +kernel
theorem l216_18 : (ax_dt (ax_T 216)).lookup 18 = some (.aload_n 0, 1, 0, 0, 0) := by decide +kernel
theorem l216_19 : (ax_dt (ax_T 216)).lookup 19 = some (.getfield 32, 3, 9, 10, 0) := by decide +kernel
theorem l216_22 : (ax_dt (ax_T 216)).lookup 22 = some (.iload_n 3, 1, 0, 0, 0) := by decide +kernel
theorem l216_23 : (ax_dt (ax_T 216)).lookup 23 = some (.iaload, 1, 0, 0, 0) := by decide +kernel
theorem l216_24 : (ax_dt (ax_T 216)).lookup 24 = some (.iadd, 1, 0, 0, 0) := by decide +kernel
theorem l216_25 : (ax_dt (ax_T 216)).lookup 25 = some (.if_icmp .ge 36, 3, 0, 0, 0) := by decide +kernel
theorem l216_28 : (ax_dt (ax_T 216)).lookup 28 = some (.aload_n 0, 1, 0, 0, 0) := by decide +kernel
theorem l216_29 : (ax_dt (ax_T 216)).lookup 29 = some (.getfield 35, 3, 9, 11, 0) := by decide +kernel
theorem l216_32 : (ax_dt (ax_T 216)).lookup 32 = some (.iload 4, 2, 0, 0, 0) := by decide +kernel
theorem l216_34 : (ax_dt (ax_T 216)).lookup 34 = some (.iaload, 1, 0, 0, 0) := by decide +kernel
theorem l216_35 : (ax_dt (ax_T 216)).lookup 35 = some (.iload_n 2, 1, 0, 0, 0) := by decide +kernel
theorem l216_36 : (ax_dt (ax_T 216)).lookup 36 = some (.if_icmp .ne 19, 3, 0, 0, 0) := by decide +kernel
theorem l216_39 : (ax_dt (ax_T 216)).lookup 39 = some (.aload_n 0, 1, 0, 0, 0) := by decide +kernel
theorem l216_40 : (ax_dt (ax_T 216)).lookup 40 = some (.getfield 38, 3, 9, 12, 0) := by decide +kernel
theorem l216_43 : (ax_dt (ax_T 216)).lookup 43 = some (.iload 4, 2, 0, 0, 0) := by decide +kernel
theorem l216_45 : (ax_dt (ax_T 216)).lookup 45 = some (.iaload, 1, 0, 0, 0) := by decide +kernel
theorem l216_46 : (ax_dt (ax_T 216)).lookup 46 = some (.invokestatic 160, 3, 146, 1, 0) := by decide +kernel
theorem l216_49 : (ax_dt (ax_T 216)).lookup 49 = some (.ifCond .eq 6, 3, 0, 0, 0) := by decide +kernel
theorem l216_52 : (ax_dt (ax_T 216)).lookup 52 = some (.iload 4, 2, 0, 0, 0) := by decide +kernel
theorem l216_54 : (ax_dt (ax_T 216)).lookup 54 = some (.ireturn, 1, 0, 0, 0) := by decide +kernel
theorem l216_55 : (ax_dt (ax_T 216)).lookup 55 = some (.iinc 4 1, 3, 0, 0, 0) := by decide +kernel
theorem l216_58 : (ax_dt (ax_T 216)).lookup 58 = some (.goto (-46), 3, 0, 0, 0) := by decide +kernel
theorem l216_61 : (ax_dt (ax_T 216)).lookup 61 = some (.iconst (-1), 1, 0, 0, 0) := by decide +kernel
theorem l216_62 : (ax_dt (ax_T 216)).lookup 62 = some (.ireturn, 1, 0, 0, 0) := by decide +kernel
noncomputable def F_X11_numberNamed_12 (v2 : Int) (v3 : Int) (μ : bM) (v4 : Int) : Option ((Int) ⊕ (Int)) := bG (bR (8 * v3)) (bG (0 ≤ v3 ∧ v3 < 800) (bG (bR ((8 * v3) + (μ 84 v3.toNat))) (if ((8 * v3) + (μ 84 v3.toNat)) ≤ v4 then some (.inr ((-1))) else bG (0 ≤ v4 ∧ v4 < 6400) (if ¬ (μ 85 v4.toNat) = v2 then bG (bR (v4 + 1)) (some (.inl (v4 + 1))) else bG (0 ≤ v4 ∧ v4 < 6400) ((F_X11_isNumber (μ 86 v4.toNat) μ).bind fun w6 => if w6 = 0 then bG (bR (v4 + 1)) (some (.inl (v4 + 1))) else some (.inr (v4)))))))
noncomputable def F_X11_numberNamed (v1 : Int) (v2 : Int) (μ : bM) : Option (Int) := (F_X11_at v1 μ).bind fun w1 => bG (bR (8 * w1)) (bLoop (fun z => F_X11_numberNamed_12 v2 w1 μ z) (8 * w1))
theorem q_X11_numberNamed_12 {L : Nat} {xs : Nat → Int32} {d : Nat} {μ : bM} {v2 : Int} {v3 : Int} {κ : ((Int) ⊕ (Int)) → Option bX} (hr : ∀ r : Int, κ (.inr r) = (bPc μ) r) (H12 : ∀ (v4 : Int), bR v4 → bD L xs (d + 1) 216 12 [(0, .ref 76), (2, bI v2), (3, bI v3), (4, bI v4)] [] μ (κ (.inl v4)))  (h2 : bR v2) (h3 : bR v3) {v4 : Int} (h4 : bR v4) : bD L xs (d + 1) 216 12 [(0, .ref 76), (2, bI v2), (3, bI v3), (4, bI v4)] [] μ ((F_X11_numberNamed_12 v2 v3 μ v4).bind κ) := by
  unfold F_X11_numberNamed_12
  refine bD.ok fun hk => ?_
  refine b_s (pc' := 14) (lv1 := [(0, .ref 76), (2, bI v2), (3, bI v3), (4, bI v4)]) (st' := [bI v4]) l216_12 (fun _ => rfl) ?_
  refine b_bipush l216_14 (by decide) (b_pc (pc' := 16) rfl ?_)
  refine b_s (pc' := 17) (lv1 := [(0, .ref 76), (2, bI v2), (3, bI v3), (4, bI v4)]) (st' := [bI v3, bI 8, bI v4]) l216_16 (fun _ => rfl) ?_
  refine b_imul l216_17 fun g1 => (b_pc (pc' := 18) rfl ?_)
  refine b_s (pc' := 19) (lv1 := [(0, .ref 76), (2, bI v2), (3, bI v3), (4, bI v4)]) (st' := [.ref 76, bI (8 * v3), bI v4]) l216_18 (fun _ => rfl) ?_
  refine b_gp (q' := 84) (j := 8) l216_19 (by rfl) (by decide) (by decide) rfl hk rfl rfl (b_pc (pc' := 22) rfl ?_)
  refine b_s (pc' := 23) (lv1 := [(0, .ref 76), (2, bI v2), (3, bI v3), (4, bI v4)]) (st' := [bI v3, .ref 84, bI (8 * v3), bI v4]) l216_22 (fun _ => rfl) ?_
  refine b_g fun g11 => ?_
  refine b_ial l216_23 (by rfl) g11 (b_pc (pc' := 24) rfl ?_)
  refine b_iadd l216_24 fun g2 => (b_pc (pc' := 25) rfl ?_)
  refine b_ige (pt := 61) l216_25 h4 g2 (by decide) rfl (fun c3 => ?_) (fun c3 => b_pc (pc' := 28) rfl ?_)
  · refine b_s (pc' := 62) (lv1 := [(0, .ref 76), (2, bI v2), (3, bI v3), (4, bI v4)]) (st' := [bI (-1)]) l216_61 (fun _ => rfl) ?_
    exact b_reti l216_62 rfl (by decide) (hr _)
  · refine b_s (pc' := 29) (lv1 := [(0, .ref 76), (2, bI v2), (3, bI v3), (4, bI v4)]) (st' := [.ref 76]) l216_28 (fun _ => rfl) ?_
    refine b_gp (q' := 85) (j := 9) l216_29 (by rfl) (by decide) (by decide) rfl hk rfl rfl (b_pc (pc' := 32) rfl ?_)
    refine b_s (pc' := 34) (lv1 := [(0, .ref 76), (2, bI v2), (3, bI v3), (4, bI v4)]) (st' := [bI v4, .ref 85]) l216_32 (fun _ => rfl) ?_
    refine b_g fun g10 => ?_
    refine b_ial l216_34 (by rfl) g10 (b_pc (pc' := 35) rfl ?_)
    refine b_s (pc' := 36) (lv1 := [(0, .ref 76), (2, bI v2), (3, bI v3), (4, bI v4)]) (st' := [bI v2, bI (μ 85 v4.toNat)]) l216_35 (fun _ => rfl) ?_
    refine b_ine (pt := 55) l216_36 (bO_i hk (by rfl)) h2 (by decide) rfl (fun c4 => ?_) (fun c4 => b_pc (pc' := 39) rfl ?_)
    · refine b_inc (lv' := [(0, .ref 76), (2, bI v2), (3, bI v3), (4, bI (v4 + 1))]) l216_55 rfl (by decide +kernel) (bSb rfl (bSb rfl (bSb rfl (bSb rfl bSn)))) fun g5 => (b_pc (pc' := 58) rfl ?_)
      refine b_s (pc' := 12) (lv1 := [(0, .ref 76), (2, bI v2), (3, bI v3), (4, bI (v4 + 1))]) (st' := []) l216_58 (fun _ => rfl) ?_
      refine bD.wk (lv' := [(0, .ref 76), (2, bI v2), (3, bI v3), (4, bI (v4 + 1))]) (bSb rfl (bSb rfl (bSb rfl (bSb rfl bSn)))) ?_
      exact H12 (v4 + 1) g5
    · refine b_s (pc' := 40) (lv1 := [(0, .ref 76), (2, bI v2), (3, bI v3), (4, bI v4)]) (st' := [.ref 76]) l216_39 (fun _ => rfl) ?_
      refine b_gp (q' := 86) (j := 10) l216_40 (by rfl) (by decide) (by decide) rfl hk rfl rfl (b_pc (pc' := 43) rfl ?_)
      refine b_s (pc' := 45) (lv1 := [(0, .ref 76), (2, bI v2), (3, bI v3), (4, bI v4)]) (st' := [bI v4, .ref 86]) l216_43 (fun _ => rfl) ?_
      refine b_g fun g9 => ?_
      refine b_ial l216_45 (by rfl) g9 (b_pc (pc' := 46) rfl ?_)
      refine b_cPz l216_46 rfl (fun _ => trivial) (Nat.le_of_ble_eq_true rfl) (Nat.le_of_ble_eq_true rfl) rfl (r_X11_isNumber (μ 86 v4.toNat) (bO_i hk (by rfl))) fun w6 hw6 => b_pc (pc' := 49) rfl ?_
      refine b_zeq (pt := 55) l216_49 (bZ_R hw6) (by decide) rfl (fun c7 => ?_) (fun c7 => b_pc (pc' := 52) rfl ?_)
      · refine b_inc (lv' := [(0, .ref 76), (2, bI v2), (3, bI v3), (4, bI (v4 + 1))]) l216_55 rfl (by decide +kernel) (bSb rfl (bSb rfl (bSb rfl (bSb rfl bSn)))) fun g8 => (b_pc (pc' := 58) rfl ?_)
        refine b_s (pc' := 12) (lv1 := [(0, .ref 76), (2, bI v2), (3, bI v3), (4, bI (v4 + 1))]) (st' := []) l216_58 (fun _ => rfl) ?_
        refine bD.wk (lv' := [(0, .ref 76), (2, bI v2), (3, bI v3), (4, bI (v4 + 1))]) (bSb rfl (bSb rfl (bSb rfl (bSb rfl bSn)))) ?_
        exact H12 (v4 + 1) g8
      · refine b_s (pc' := 54) (lv1 := [(0, .ref 76), (2, bI v2), (3, bI v3), (4, bI v4)]) (st' := [bI v4]) l216_52 (fun _ => rfl) ?_
        exact b_reti l216_54 rfl h4 (hr _)
theorem p_X11_numberNamed_12 {L : Nat} {xs : Nat → Int32} {d : Nat} {μ : bM}  {κ : (Int) → Option bX} (hr : ∀ r : Int, κ r = (bPc μ) r)  {v2 : Int} (h2 : bR v2) {v3 : Int} (h3 : bR v3) {v4 : Int} (h4 : bR v4) : bD L xs (d + 1) 216 12 [(0, .ref 76), (2, bI v2), (3, bI v3), (4, bI v4)] [] μ ((bLoop (fun z => F_X11_numberNamed_12 v2 v3 μ z) v4).bind κ) :=
  b_loop (fun z => [(0, .ref 76), (2, bI v2), (3, bI v3), (4, bI z)]) (fun z => μ) (fun z => bR z) (fun κ' hκ HH z hz => q_X11_numberNamed_12 (κ := κ') (fun r => (hκ _).trans (hr r)) (fun a4 b4 => HH a4 b4)  h2 h3 hz) v4 h4
theorem r_X11_numberNamed {L : Nat} {xs : Nat → Int32} {d : Nat} {μ : bM}  (v1 : Int) (h1 : bR v1) (v2 : Int) (h2 : bR v2) : bD L xs (d + 1) 216 0 [(0, .ref 76), (1, bI v1), (2, bI v2)] [] μ ((F_X11_numberNamed v1 v2 μ).bind (bPc μ)) := by
  have hr : ∀ r, (bPc μ) r = (bPc μ) r := fun _ => rfl
  unfold F_X11_numberNamed
  refine bD.ok fun hk => ?_
  refine b_s (pc' := 1) (lv1 := [(0, .ref 76), (1, bI v1), (2, bI v2)]) (st' := [.ref 76]) l216_0 (fun _ => rfl) ?_
  refine b_s (pc' := 2) (lv1 := [(0, .ref 76), (1, bI v1), (2, bI v2)]) (st' := [bI v1, .ref 76]) l216_1 (fun _ => rfl) ?_
  refine b_cPi l216_2 rfl (b_rc (ci := 9) (by rfl) (by decide) (by decide +kernel)) (Nat.le_of_ble_eq_true rfl) (Nat.le_of_ble_eq_true rfl) rfl (r_X11_at v1 h1) fun w1 hw1 => b_pc (pc' := 5) rfl ?_
  refine b_w (pc' := 6) (lv1 := ax_st1 [(0, .ref 76), (1, bI v1), (2, bI v2)] 3 (bI w1)) (lv' := [(0, .ref 76), (2, bI v2), (3, bI w1)]) (st' := []) l216_5 (fun _ => rfl) (bSb rfl (bSb rfl (bSb rfl bSn))) ?_
  refine b_bipush l216_6 (by decide) (b_pc (pc' := 8) rfl ?_)
  refine b_s (pc' := 9) (lv1 := [(0, .ref 76), (2, bI v2), (3, bI w1)]) (st' := [bI w1, bI 8]) l216_8 (fun _ => rfl) ?_
  refine b_imul l216_9 fun g2 => (b_pc (pc' := 10) rfl ?_)
  refine b_w (pc' := 12) (lv1 := ax_st1 [(0, .ref 76), (2, bI v2), (3, bI w1)] 4 (bI (8 * w1))) (lv' := [(0, .ref 76), (2, bI v2), (3, bI w1), (4, bI (8 * w1))]) (st' := []) l216_10 (fun _ => rfl) (bSb rfl (bSb rfl (bSb rfl (bSb rfl bSn)))) ?_
  refine bD.wk (lv' := [(0, .ref 76), (2, bI v2), (3, bI w1), (4, bI (8 * w1))]) (bSb rfl (bSb rfl (bSb rfl (bSb rfl bSn)))) ?_
  exact p_X11_numberNamed_12 hr h2 hw1 g2
/-! ETModel.isBelow -/
theorem l217_0 : (ax_dt (ax_T 217)).lookup 0 = some (.lload_n 0, 1, 0, 0, 0) := by decide +kernel
theorem l217_1 : (ax_dt (ax_T 217)).lookup 1 = some (.ldc2_w 420, 3, 0, 0, (-9223372036854775808)) := by decide +kernel
theorem l217_4 : (ax_dt (ax_T 217)).lookup 4 = some (.lxor, 1, 0, 0, 0) := by decide +kernel
theorem l217_5 : (ax_dt (ax_T 217)).lookup 5 = some (.lload_n 2, 1, 0, 0, 0) := by decide +kernel
theorem l217_6 : (ax_dt (ax_T 217)).lookup 6 = some (.ldc2_w 420, 3, 0, 0, (-9223372036854775808)) := by decide +kernel
theorem l217_9 : (ax_dt (ax_T 217)).lookup 9 = some (.lxor, 1, 0, 0, 0) := by decide +kernel
theorem l217_10 : (ax_dt (ax_T 217)).lookup 10 = some (.lcmp, 1, 0, 0, 0) := by decide +kernel
theorem l217_11 : (ax_dt (ax_T 217)).lookup 11 = some (.ifCond .ge 7, 3, 0, 0, 0) := by decide +kernel
theorem l217_14 : (ax_dt (ax_T 217)).lookup 14 = some (.iconst 1, 1, 0, 0, 0) := by decide +kernel
theorem l217_15 : (ax_dt (ax_T 217)).lookup 15 = some (.goto 4, 3, 0, 0, 0) := by decide +kernel
theorem l217_18 : (ax_dt (ax_T 217)).lookup 18 = some (.iconst 0, 1, 0, 0, 0) := by decide +kernel
theorem l217_19 : (ax_dt (ax_T 217)).lookup 19 = some (.ireturn, 1, 0, 0, 0) := by decide +kernel
noncomputable def F_X11_isBelow (v0 : Int) (v2 : Int) (μ : bM) : Option (Int) := if 0 ≤ (bCmp (bXorL v0 (-9223372036854775808)) (bXorL v2 (-9223372036854775808))) then some (0) else some (1)
theorem r_X11_isBelow {L : Nat} {xs : Nat → Int32} {d : Nat} {μ : bM}  (v0 : Int) (h0 : bRL v0) (v2 : Int) (h2 : bRL v2) : bD L xs (d + 0) 217 0 [(0, bLg v0), (2, bLg v2)] [] μ ((F_X11_isBelow v0 v2 μ).bind (bPc μ)) := by
  have hr : ∀ r, (bPc μ) r = (bPc μ) r := fun _ => rfl
  unfold F_X11_isBelow
  refine bD.ok fun hk => ?_
  refine b_s (pc' := 1) (lv1 := [(0, bLg v0), (2, bLg v2)]) (st' := [bLg v0]) l217_0 (fun _ => rfl) ?_
  refine b_s (pc' := 4) (lv1 := [(0, bLg v0), (2, bLg v2)]) (st' := [bLg (-9223372036854775808), bLg v0]) l217_1 (fun _ => rfl) ?_
  refine b_lxor l217_4 (b_pc (pc' := 5) rfl ?_)
  refine b_s (pc' := 6) (lv1 := [(0, bLg v0), (2, bLg v2)]) (st' := [bLg v2, bLg (bXorL v0 (-9223372036854775808))]) l217_5 (fun _ => rfl) ?_
  refine b_s (pc' := 9) (lv1 := [(0, bLg v0), (2, bLg v2)]) (st' := [bLg (-9223372036854775808), bLg v2, bLg (bXorL v0 (-9223372036854775808))]) l217_6 (fun _ => rfl) ?_
  refine b_lxor l217_9 (b_pc (pc' := 10) rfl ?_)
  refine b_lcmp l217_10 (bl_rg _) (bl_rg _) (b_pc (pc' := 11) rfl ?_)
  refine b_zge (pt := 18) l217_11 (bCmp_R _ _) (by decide) rfl (fun c1 => ?_) (fun c1 => b_pc (pc' := 14) rfl ?_)
  · refine b_s (pc' := 19) (lv1 := [(0, bLg v0), (2, bLg v2)]) (st' := [bI 0]) l217_18 (fun _ => rfl) ?_
    exact b_retz l217_19 rfl (by decide) (hr _)
  · refine b_s (pc' := 15) (lv1 := [(0, bLg v0), (2, bLg v2)]) (st' := [bI 1]) l217_14 (fun _ => rfl) ?_
    refine b_s (pc' := 19) (lv1 := [(0, bLg v0), (2, bLg v2)]) (st' := [bI 1]) l217_15 (fun _ => rfl) ?_
    exact b_retz l217_19 rfl (by decide) (hr _)
/-! ETModel.covers -/
theorem l218_0 : (ax_dt (ax_T 218)).lookup 0 = some (.aload_n 0, 1, 0, 0, 0) := by decide +kernel
theorem l218_1 : (ax_dt (ax_T 218)).lookup 1 = some (.iconst 0, 1, 0, 0, 0) := by decide +kernel
theorem l218_2 : (ax_dt (ax_T 218)).lookup 2 = some (.putfield 120, 3, 9, 0, 0) := by decide +kernel
theorem l218_5 : (ax_dt (ax_T 218)).lookup 5 = some (.iconst (-1), 1, 0, 0, 0) := by decide +kernel
theorem l218_6 : (ax_dt (ax_T 218)).lookup 6 = some (.istore_n 3, 1, 0, 0, 0) := by decide +kernel
theorem l218_7 : (ax_dt (ax_T 218)).lookup 7 = some (.iconst (-1), 1, 0, 0, 0) := by decide +kernel
theorem l218_8 : (ax_dt (ax_T 218)).lookup 8 = some (.istore 4, 2, 0, 0, 0) := by decide +kernel
theorem l218_10 : (ax_dt (ax_T 218)).lookup 10 = some (.iconst 0, 1, 0, 0, 0) := by decide +kernel
theorem l218_11 : (ax_dt (ax_T 218)).lookup 11 = some (.istore 5, 2, 0, 0, 0) := by decide +kernel
theorem l218_13 : (ax_dt (ax_T 218)).lookup 13 = some (.iload 5, 2, 0, 0, 0) := by decide +kernel
theorem l218_15 : (ax_dt (ax_T 218)).lookup 15 = some (.aload_n 0, 1, 0, 0, 0) := by decide +kernel
theorem l218_16 : (ax_dt (ax_T 218)).lookup 16 = some (.getfield 13, 3, 9, 4, 0) := by decide +kernel
theorem l218_19 : (ax_dt (ax_T 218)).lookup 19 = some (.aload_n 0, 1, 0, 0, 0) := by decide +kernel
theorem l218_20 : (ax_dt (ax_T 218)).lookup 20 = some (.getfield 137, 3, 9, 3, 0) := by decide +kernel
theorem l218_23 : (ax_dt (ax_T 218)).lookup 23 = some (.iaload, 1, 0, 0, 0) := by decide +kernel
theorem l218_24 : (ax_dt (ax_T 218)).lookup 24 = some (.if_icmp .ge 103, 3, 0, 0, 0) := by decide +kernel
theorem l218_27 : (ax_dt (ax_T 218)).lookup 27 = some (.aload_n 0, 1, 0, 0, 0) := by decide +kernel
theorem l218_28 : (ax_dt (ax_T 218)).lookup 28 = some (.iload 5, 2, 0, 0, 0) := by decide +kernel
theorem l218_30 : (ax_dt (ax_T 218)).lookup 30 = some (.bipush 17, 2, 0, 0, 0) := by decide +kernel
theorem l218_32 : (ax_dt (ax_T 218)).lookup 32 = some (.invokevirtual 422, 3, 216, 2, 0) := by decide +kernel
theorem l218_35 : (ax_dt (ax_T 218)).lookup 35 = some (.istore 6, 2, 0, 0, 0) := by decide +kernel
theorem l218_37 : (ax_dt (ax_T 218)).lookup 37 = some (.aload_n 0, 1, 0, 0, 0) := by decide +kernel
theorem l218_38 : (ax_dt (ax_T 218)).lookup 38 = some (.iload 5, 2, 0, 0, 0) := by decide +kernel
theorem l218_40 : (ax_dt (ax_T 218)).lookup 40 = some (.bipush 18, 2, 0, 0, 0) := by decide +kernel
theorem l218_42 : (ax_dt (ax_T 218)).lookup 42 = some (.invokevirtual 422, 3, 216, 2, 0) := by decide +kernel
theorem l218_45 : (ax_dt (ax_T 218)).lookup 45 = some (.istore 7, 2, 0, 0, 0) := by decide +kernel
theorem l218_47 : (ax_dt (ax_T 218)).lookup 47 = some (.iload 6, 2, 0, 0, 0) := by decide +kernel
theorem l218_49 : (ax_dt (ax_T 218)).lookup 49 = some (.iconst (-1), 1, 0, 0, 0) := by decide +kernel
theorem l218_50 : (ax_dt (ax_T 218)).lookup 50 = some (.if_icmp .eq 41, 3, 0, 0, 0) := by decide +kernel
theorem l218_53 : (ax_dt (ax_T 218)).lookup 53 = some (.iload 7, 2, 0, 0, 0) := by decide +kernel
theorem l218_55 : (ax_dt (ax_T 218)).lookup 55 = some (.iconst (-1), 1, 0, 0, 0) := by decide +kernel
theorem l218_56 : (ax_dt (ax_T 218)).lookup 56 = some (.if_icmp .eq 35, 3, 0, 0, 0) := by decide +kernel
theorem l218_59 : (ax_dt (ax_T 218)).lookup 59 = some (.lload_n 1, 1, 0, 0, 0) := by decide +kernel
theorem l218_60 : (ax_dt (ax_T 218)).lookup 60 = some (.aload_n 0, 1, 0, 0, 0) := by decide +kernel
theorem l218_61 : (ax_dt (ax_T 218)).lookup 61 = some (.getfield 41, 3, 9, 13, 0) := by decide +kernel
theorem l218_64 : (ax_dt (ax_T 218)).lookup 64 = some (.iload 6, 2, 0, 0, 0) := by decide +kernel
theorem l218_66 : (ax_dt (ax_T 218)).lookup 66 = some (.laload, 1, 0, 0, 0) := by decide +kernel
theorem l218_67 : (ax_dt (ax_T 218)).lookup 67 = some (.invokestatic 425, 3, 217, 2, 0) := by decide +kernel
theorem l218_70 : (ax_dt (ax_T 218)).lookup 70 = some (.ifCond .ne 21, 3, 0, 0, 0) := by decide +kernel
theorem l218_73 : (ax_dt (ax_T 218)).lookup 73 = some (.lload_n 1, 1, 0, 0, 0) := by decide +kernel
theorem l218_74 : (ax_dt (ax_T 218)).lookup 74 = some (.aload_n 0, 1, 0, 0, 0) := by decide +kernel
theorem l218_75 : (ax_dt (ax_T 218)).lookup 75 = some (.getfield 41, 3, 9, 13, 0) := by decide +kernel
theorem l218_78 : (ax_dt (ax_T 218)).lookup 78 = some (.iload 7, 2, 0, 0, 0) := by decide +kernel
theorem l218_80 : (ax_dt (ax_T 218)).lookup 80 = some (.laload, 1, 0, 0, 0) := by decide +kernel
theorem l218_81 : (ax_dt (ax_T 218)).lookup 81 = some (.invokestatic 425, 3, 217, 2, 0) := by decide +kernel
theorem l218_84 : (ax_dt (ax_T 218)).lookup 84 = some (.ifCond .eq 7, 3, 0, 0, 0) := by decide +kernel
theorem l218_87 : (ax_dt (ax_T 218)).lookup 87 = some (.iconst 1, 1, 0, 0, 0) := by decide +kernel
theorem l218_88 : (ax_dt (ax_T 218)).lookup 88 = some (.goto 4, 3, 0, 0, 0) := by decide +kernel
theorem l218_91 : (ax_dt (ax_T 218)).lookup 91 = some (.iconst 0, 1, 0, 0, 0) := by decide +kernel
theorem l218_92 : (ax_dt (ax_T 218)).lookup 92 = some (.istore 8, 2, 0, 0, 0) := by decide +kernel
theorem l218_94 : (ax_dt (ax_T 218)).lookup 94 = some (.iload 8, 2, 0, 0, 0) := by decide +kernel
theorem l218_96 : (ax_dt (ax_T 218)).lookup 96 = some (.ifCond .eq 25, 3, 0, 0, 0) := by decide +kernel
theorem l218_99 : (ax_dt (ax_T 218)).lookup 99 = some (.aload_n 0, 1, 0, 0, 0) := by decide +kernel
theorem l218_100 : (ax_dt (ax_T 218)).lookup 100 = some (.iload 5, 2, 0, 0, 0) := by decide +kernel
theorem l218_102 : (ax_dt (ax_T 218)).lookup 102 = some (.invokevirtual 155, 3, 144, 1, 0) := by decide +kernel
theorem l218_105 : (ax_dt (ax_T 218)).lookup 105 = some (.iload 4, 2, 0, 0, 0) := by decide +kernel
theorem l218_107 : (ax_dt (ax_T 218)).lookup 107 = some (.if_icmp .le 14, 3, 0, 0, 0) := by decide +kernel
theorem l218_110 : (ax_dt (ax_T 218)).lookup 110 = some (.aload_n 0, 1, 0, 0, 0) := by decide +kernel
theorem l218_111 : (ax_dt (ax_T 218)).lookup 111 = some (.iload 5, 2, 0, 0, 0) := by decide +kernel
theorem l218_113 : (ax_dt (ax_T 218)).lookup 113 = some (.invokevirtual 155, 3, 144, 1, 0) := by decide +kernel
theorem l218_116 : (ax_dt (ax_T 218)).lookup 116 = some (.istore 4, 2, 0, 0, 0) := by decide +kernel
theorem l218_118 : (ax_dt (ax_T 218)).lookup 118 = some (.iload 5, 2, 0, 0, 0) := by decide +kernel
theorem l218_120 : (ax_dt (ax_T 218)).lookup 120 = some (.istore_n 3, 1, 0, 0, 0) := by decide +kernel
theorem l218_121 : (ax_dt (ax_T 218)).lookup 121 = some (.iinc 5 1, 3, 0, 0, 0) := by decide +kernel
theorem l218_124 : (ax_dt (ax_T 218)).lookup 124 = some (.goto (-111), 3, 0, 0, 0) := by decide +kernel
theorem l218_127 : (ax_dt (ax_T 218)).lookup 127 = some (.iload_n 3, 1, 0, 0, 0) := by decide +kernel
theorem l218_128 : (ax_dt (ax_T 218)).lookup 128 = some (.ireturn, 1, 0, 0, 0) := by decide +kernel
noncomputable def F_X11_covers_92 (v1 : Int) (v3 : Int) (v4 : Int) (v5 : Int) (y0 : Int) (μ : bM) : Option ((Int × Int × Int) ⊕ (Int × bM)) := if y0 = 0 then bG (bR (v5 + 1)) (some (.inl (v3, v4, (v5 + 1)))) else (F_X11_depth v5 μ).bind fun w3 => if w3 ≤ v4 then bG (bR (v5 + 1)) (some (.inl (v3, v4, (v5 + 1)))) else (F_X11_depth v5 μ).bind fun w6 => bG (bR (v5 + 1)) (some (.inl (v5, w6, (v5 + 1))))
noncomputable def F_X11_covers_91 (v1 : Int) (v3 : Int) (v4 : Int) (v5 : Int) (μ : bM) : Option ((Int × Int × Int) ⊕ (Int × bM)) := F_X11_covers_92 v1 v3 v4 v5 0 μ
noncomputable def F_X11_covers_13 (v1 : Int) (μ : bM) (v3 : Int) (v4 : Int) (v5 : Int) : Option ((Int × Int × Int) ⊕ (Int × bM)) := bG (0 ≤ (μ 76 3) ∧ (μ 76 3) < 2) (if (μ 78 (μ 76 3).toNat) ≤ v5 then some (.inr (v3, μ)) else (F_X11_numberNamed v5 17 μ).bind fun w2 => (F_X11_numberNamed v5 18 μ).bind fun w3 => if w2 = (-1) then F_X11_covers_91 v1 v3 v4 v5 μ else if w3 = (-1) then F_X11_covers_91 v1 v3 v4 v5 μ else bG (0 ≤ w2 ∧ w2 < 6400) ((F_X11_isBelow v1 (μ 87 w2.toNat) μ).bind fun w6 => if ¬ w6 = 0 then F_X11_covers_91 v1 v3 v4 v5 μ else bG (0 ≤ w3 ∧ w3 < 6400) ((F_X11_isBelow v1 (μ 87 w3.toNat) μ).bind fun w8 => if w8 = 0 then F_X11_covers_91 v1 v3 v4 v5 μ else F_X11_covers_92 v1 v3 v4 v5 1 μ)))
noncomputable def F_X11_covers (v1 : Int) (μ : bM) : Option (Int × bM) := bLoop (fun z => F_X11_covers_13 v1 (bset μ 76 0 0) z.1 z.2.1 z.2.2) ((-1), (-1), 0)
theorem p_X11_covers_92 {L : Nat} {xs : Nat → Int32} {d : Nat} {μ : bM} {v1 : Int} {κ : ((Int × Int × Int) ⊕ (Int × bM)) → Option bX} (hr : ∀ r : Int × bM, κ (.inr r) = (bMc) r) (H13 : ∀ (v3 : Int) (v4 : Int) (v5 : Int), bR v3 → bR v4 → bR v5 → bD L xs (d + 2) 218 13 [(0, .ref 76), (1, bLg v1), (3, bI v3), (4, bI v4), (5, bI v5)] [] μ (κ (.inl (v3, v4, v5))))  (h1 : bRL v1) {v3 : Int} (h3 : bR v3) {v4 : Int} (h4 : bR v4) {v5 : Int} (h5 : bR v5) {y0 : Int} (hy0 : bR y0) : bD L xs (d + 2) 218 92 [(0, .ref 76), (1, bLg v1), (3, bI v3), (4, bI v4), (5, bI v5)] [bI y0] μ ((F_X11_covers_92 v1 v3 v4 v5 y0 μ).bind κ) := by
  unfold F_X11_covers_92
  refine bD.ok fun hk => ?_
  refine b_w (pc' := 94) (lv1 := ax_st1 [(0, .ref 76), (1, bLg v1), (3, bI v3), (4, bI v4), (5, bI v5)] 8 (bI y0)) (lv' := [(0, .ref 76), (1, bLg v1), (3, bI v3), (4, bI v4), (5, bI v5), (8, bI y0)]) (st' := []) l218_92 (fun _ => rfl) (bSb rfl (bSb rfl (bSb rfl (bSb rfl (bSb rfl (bSb rfl bSn)))))) ?_
  refine b_s (pc' := 96) (lv1 := [(0, .ref 76), (1, bLg v1), (3, bI v3), (4, bI v4), (5, bI v5), (8, bI y0)]) (st' := [bI y0]) l218_94 (fun _ => rfl) ?_
  refine b_zeq (pt := 121) l218_96 hy0 (by decide) rfl (fun c1 => ?_) (fun c1 => b_pc (pc' := 99) rfl ?_)
  · refine b_inc (lv' := [(0, .ref 76), (1, bLg v1), (3, bI v3), (4, bI v4), (5, bI (v5 + 1))]) l218_121 rfl (by decide +kernel) (bSb rfl (bSb rfl (bSb rfl (bSb rfl (bSb rfl bSn))))) fun g2 => (b_pc (pc' := 124) rfl ?_)
    refine b_s (pc' := 13) (lv1 := [(0, .ref 76), (1, bLg v1), (3, bI v3), (4, bI v4), (5, bI (v5 + 1))]) (st' := []) l218_124 (fun _ => rfl) ?_
    refine bD.wk (lv' := [(0, .ref 76), (1, bLg v1), (3, bI v3), (4, bI v4), (5, bI (v5 + 1))]) (bSb rfl (bSb rfl (bSb rfl (bSb rfl (bSb rfl bSn))))) ?_
    exact H13 v3 v4 (v5 + 1) h3 h4 g2
  · refine b_s (pc' := 100) (lv1 := [(0, .ref 76), (1, bLg v1), (3, bI v3), (4, bI v4), (5, bI v5), (8, bI y0)]) (st' := [.ref 76]) l218_99 (fun _ => rfl) ?_
    refine b_s (pc' := 102) (lv1 := [(0, .ref 76), (1, bLg v1), (3, bI v3), (4, bI v4), (5, bI v5), (8, bI y0)]) (st' := [bI v5, .ref 76]) l218_100 (fun _ => rfl) ?_
    refine b_cPi l218_102 rfl (b_rc (ci := 9) (by rfl) (by decide) (by decide +kernel)) (Nat.le_of_ble_eq_true rfl) (Nat.le_of_ble_eq_true rfl) rfl (r_X11_depth v5 h5) fun w3 hw3 => b_pc (pc' := 105) rfl ?_
    refine b_s (pc' := 107) (lv1 := [(0, .ref 76), (1, bLg v1), (3, bI v3), (4, bI v4), (5, bI v5), (8, bI y0)]) (st' := [bI v4, bI w3]) l218_105 (fun _ => rfl) ?_
    refine b_ile (pt := 121) l218_107 hw3 h4 (by decide) rfl (fun c4 => ?_) (fun c4 => b_pc (pc' := 110) rfl ?_)
    · refine b_inc (lv' := [(0, .ref 76), (1, bLg v1), (3, bI v3), (4, bI v4), (5, bI (v5 + 1))]) l218_121 rfl (by decide +kernel) (bSb rfl (bSb rfl (bSb rfl (bSb rfl (bSb rfl bSn))))) fun g5 => (b_pc (pc' := 124) rfl ?_)
      refine b_s (pc' := 13) (lv1 := [(0, .ref 76), (1, bLg v1), (3, bI v3), (4, bI v4), (5, bI (v5 + 1))]) (st' := []) l218_124 (fun _ => rfl) ?_
      refine bD.wk (lv' := [(0, .ref 76), (1, bLg v1), (3, bI v3), (4, bI v4), (5, bI (v5 + 1))]) (bSb rfl (bSb rfl (bSb rfl (bSb rfl (bSb rfl bSn))))) ?_
      exact H13 v3 v4 (v5 + 1) h3 h4 g5
    · refine b_s (pc' := 111) (lv1 := [(0, .ref 76), (1, bLg v1), (3, bI v3), (4, bI v4), (5, bI v5), (8, bI y0)]) (st' := [.ref 76]) l218_110 (fun _ => rfl) ?_
      refine b_s (pc' := 113) (lv1 := [(0, .ref 76), (1, bLg v1), (3, bI v3), (4, bI v4), (5, bI v5), (8, bI y0)]) (st' := [bI v5, .ref 76]) l218_111 (fun _ => rfl) ?_
      refine b_cPi l218_113 rfl (b_rc (ci := 9) (by rfl) (by decide) (by decide +kernel)) (Nat.le_of_ble_eq_true rfl) (Nat.le_of_ble_eq_true rfl) rfl (r_X11_depth v5 h5) fun w6 hw6 => b_pc (pc' := 116) rfl ?_
      refine b_w (pc' := 118) (lv1 := ax_st1 [(0, .ref 76), (1, bLg v1), (3, bI v3), (4, bI v4), (5, bI v5), (8, bI y0)] 4 (bI w6)) (lv' := [(0, .ref 76), (1, bLg v1), (4, bI w6), (5, bI v5)]) (st' := []) l218_116 (fun _ => rfl) (bSb rfl (bSb rfl (bSb rfl (bSb rfl bSn)))) ?_
      refine b_s (pc' := 120) (lv1 := [(0, .ref 76), (1, bLg v1), (4, bI w6), (5, bI v5)]) (st' := [bI v5]) l218_118 (fun _ => rfl) ?_
      refine b_w (pc' := 121) (lv1 := ax_st1 [(0, .ref 76), (1, bLg v1), (4, bI w6), (5, bI v5)] 3 (bI v5)) (lv' := [(0, .ref 76), (1, bLg v1), (3, bI v5), (4, bI w6), (5, bI v5)]) (st' := []) l218_120 (fun _ => rfl) (bSb rfl (bSb rfl (bSb rfl (bSb rfl (bSb rfl bSn))))) ?_
      refine b_inc (lv' := [(0, .ref 76), (1, bLg v1), (3, bI v5), (4, bI w6), (5, bI (v5 + 1))]) l218_121 rfl (by decide +kernel) (bSb rfl (bSb rfl (bSb rfl (bSb rfl (bSb rfl bSn))))) fun g7 => (b_pc (pc' := 124) rfl ?_)
      refine b_s (pc' := 13) (lv1 := [(0, .ref 76), (1, bLg v1), (3, bI v5), (4, bI w6), (5, bI (v5 + 1))]) (st' := []) l218_124 (fun _ => rfl) ?_
      refine bD.wk (lv' := [(0, .ref 76), (1, bLg v1), (3, bI v5), (4, bI w6), (5, bI (v5 + 1))]) (bSb rfl (bSb rfl (bSb rfl (bSb rfl (bSb rfl bSn))))) ?_
      exact H13 v5 w6 (v5 + 1) h5 hw6 g7
theorem p_X11_covers_91 {L : Nat} {xs : Nat → Int32} {d : Nat} {μ : bM} {v1 : Int} {κ : ((Int × Int × Int) ⊕ (Int × bM)) → Option bX} (hr : ∀ r : Int × bM, κ (.inr r) = (bMc) r) (H13 : ∀ (v3 : Int) (v4 : Int) (v5 : Int), bR v3 → bR v4 → bR v5 → bD L xs (d + 2) 218 13 [(0, .ref 76), (1, bLg v1), (3, bI v3), (4, bI v4), (5, bI v5)] [] μ (κ (.inl (v3, v4, v5))))  (h1 : bRL v1) {v3 : Int} (h3 : bR v3) {v4 : Int} (h4 : bR v4) {v5 : Int} (h5 : bR v5) : bD L xs (d + 2) 218 91 [(0, .ref 76), (1, bLg v1), (3, bI v3), (4, bI v4), (5, bI v5)] [] μ ((F_X11_covers_91 v1 v3 v4 v5 μ).bind κ) := by
  unfold F_X11_covers_91
  refine bD.ok fun hk => ?_
  refine b_s (pc' := 92) (lv1 := [(0, .ref 76), (1, bLg v1), (3, bI v3), (4, bI v4), (5, bI v5)]) (st' := [bI 0]) l218_91 (fun _ => rfl) ?_
  refine bD.wk (lv' := [(0, .ref 76), (1, bLg v1), (3, bI v3), (4, bI v4), (5, bI v5)]) (bSb rfl (bSb rfl (bSb rfl (bSb rfl (bSb rfl bSn))))) ?_
  exact p_X11_covers_92 hr H13 h1 h3 h4 h5 (by decide)
theorem q_X11_covers_13 {L : Nat} {xs : Nat → Int32} {d : Nat} {μ : bM} {v1 : Int} {κ : ((Int × Int × Int) ⊕ (Int × bM)) → Option bX} (hr : ∀ r : Int × bM, κ (.inr r) = (bMc) r) (H13 : ∀ (v3 : Int) (v4 : Int) (v5 : Int), bR v3 → bR v4 → bR v5 → bD L xs (d + 2) 218 13 [(0, .ref 76), (1, bLg v1), (3, bI v3), (4, bI v4), (5, bI v5)] [] μ (κ (.inl (v3, v4, v5))))  (h1 : bRL v1) {v3 : Int} (h3 : bR v3) {v4 : Int} (h4 : bR v4) {v5 : Int} (h5 : bR v5) : bD L xs (d + 2) 218 13 [(0, .ref 76), (1, bLg v1), (3, bI v3), (4, bI v4), (5, bI v5)] [] μ ((F_X11_covers_13 v1 μ v3 v4 v5).bind κ) := by
  unfold F_X11_covers_13
  refine bD.ok fun hk => ?_
  refine b_s (pc' := 15) (lv1 := [(0, .ref 76), (1, bLg v1), (3, bI v3), (4, bI v4), (5, bI v5)]) (st' := [bI v5]) l218_13 (fun _ => rfl) ?_
  refine b_s (pc' := 16) (lv1 := [(0, .ref 76), (1, bLg v1), (3, bI v3), (4, bI v4), (5, bI v5)]) (st' := [.ref 76, bI v5]) l218_15 (fun _ => rfl) ?_
  refine b_gp (q' := 78) (j := 2) l218_16 (by rfl) (by decide) (by decide) rfl hk rfl rfl (b_pc (pc' := 19) rfl ?_)
  refine b_s (pc' := 20) (lv1 := [(0, .ref 76), (1, bLg v1), (3, bI v3), (4, bI v4), (5, bI v5)]) (st' := [.ref 76, .ref 78, bI v5]) l218_19 (fun _ => rfl) ?_
  refine b_gi l218_20 (by rfl) (by decide) (by decide) rfl (b_pc (pc' := 23) rfl ?_)
  refine b_g fun g12 => ?_
  refine b_ial l218_23 (by rfl) g12 (b_pc (pc' := 24) rfl ?_)
  refine b_ige (pt := 127) l218_24 h5 (bO_i hk (by rfl)) (by decide) rfl (fun c1 => ?_) (fun c1 => b_pc (pc' := 27) rfl ?_)
  · refine b_s (pc' := 128) (lv1 := [(0, .ref 76), (1, bLg v1), (3, bI v3), (4, bI v4), (5, bI v5)]) (st' := [bI v3]) l218_127 (fun _ => rfl) ?_
    exact b_reti l218_128 rfl h3 (hr _)
  · refine b_s (pc' := 28) (lv1 := [(0, .ref 76), (1, bLg v1), (3, bI v3), (4, bI v4), (5, bI v5)]) (st' := [.ref 76]) l218_27 (fun _ => rfl) ?_
    refine b_s (pc' := 30) (lv1 := [(0, .ref 76), (1, bLg v1), (3, bI v3), (4, bI v4), (5, bI v5)]) (st' := [bI v5, .ref 76]) l218_28 (fun _ => rfl) ?_
    refine b_bipush l218_30 (by decide) (b_pc (pc' := 32) rfl ?_)
    refine b_cPi l218_32 rfl (b_rc (ci := 9) (by rfl) (by decide) (by decide +kernel)) (Nat.le_of_ble_eq_true rfl) (Nat.le_of_ble_eq_true rfl) rfl (r_X11_numberNamed v5 h5 17 (by decide)) fun w2 hw2 => b_pc (pc' := 35) rfl ?_
    refine b_w (pc' := 37) (lv1 := ax_st1 [(0, .ref 76), (1, bLg v1), (3, bI v3), (4, bI v4), (5, bI v5)] 6 (bI w2)) (lv' := [(0, .ref 76), (1, bLg v1), (3, bI v3), (4, bI v4), (5, bI v5), (6, bI w2)]) (st' := []) l218_35 (fun _ => rfl) (bSb rfl (bSb rfl (bSb rfl (bSb rfl (bSb rfl (bSb rfl bSn)))))) ?_
    refine b_s (pc' := 38) (lv1 := [(0, .ref 76), (1, bLg v1), (3, bI v3), (4, bI v4), (5, bI v5), (6, bI w2)]) (st' := [.ref 76]) l218_37 (fun _ => rfl) ?_
    refine b_s (pc' := 40) (lv1 := [(0, .ref 76), (1, bLg v1), (3, bI v3), (4, bI v4), (5, bI v5), (6, bI w2)]) (st' := [bI v5, .ref 76]) l218_38 (fun _ => rfl) ?_
    refine b_bipush l218_40 (by decide) (b_pc (pc' := 42) rfl ?_)
    refine b_cPi l218_42 rfl (b_rc (ci := 9) (by rfl) (by decide) (by decide +kernel)) (Nat.le_of_ble_eq_true rfl) (Nat.le_of_ble_eq_true rfl) rfl (r_X11_numberNamed v5 h5 18 (by decide)) fun w3 hw3 => b_pc (pc' := 45) rfl ?_
    refine b_w (pc' := 47) (lv1 := ax_st1 [(0, .ref 76), (1, bLg v1), (3, bI v3), (4, bI v4), (5, bI v5), (6, bI w2)] 7 (bI w3)) (lv' := [(0, .ref 76), (1, bLg v1), (3, bI v3), (4, bI v4), (5, bI v5), (6, bI w2), (7, bI w3)]) (st' := []) l218_45 (fun _ => rfl) (bSb rfl (bSb rfl (bSb rfl (bSb rfl (bSb rfl (bSb rfl (bSb rfl bSn))))))) ?_
    refine b_s (pc' := 49) (lv1 := [(0, .ref 76), (1, bLg v1), (3, bI v3), (4, bI v4), (5, bI v5), (6, bI w2), (7, bI w3)]) (st' := [bI w2]) l218_47 (fun _ => rfl) ?_
    refine b_s (pc' := 50) (lv1 := [(0, .ref 76), (1, bLg v1), (3, bI v3), (4, bI v4), (5, bI v5), (6, bI w2), (7, bI w3)]) (st' := [bI (-1), bI w2]) l218_49 (fun _ => rfl) ?_
    refine b_ieq (pt := 91) l218_50 hw2 (by decide) (by decide) rfl (fun c4 => ?_) (fun c4 => b_pc (pc' := 53) rfl ?_)
    · refine bD.wk (lv' := [(0, .ref 76), (1, bLg v1), (3, bI v3), (4, bI v4), (5, bI v5)]) (bSb rfl (bSb rfl (bSb rfl (bSb rfl (bSb rfl bSn))))) ?_
      exact p_X11_covers_91 hr H13 h1 h3 h4 h5
    · refine b_s (pc' := 55) (lv1 := [(0, .ref 76), (1, bLg v1), (3, bI v3), (4, bI v4), (5, bI v5), (6, bI w2), (7, bI w3)]) (st' := [bI w3]) l218_53 (fun _ => rfl) ?_
      refine b_s (pc' := 56) (lv1 := [(0, .ref 76), (1, bLg v1), (3, bI v3), (4, bI v4), (5, bI v5), (6, bI w2), (7, bI w3)]) (st' := [bI (-1), bI w3]) l218_55 (fun _ => rfl) ?_
      refine b_ieq (pt := 91) l218_56 hw3 (by decide) (by decide) rfl (fun c5 => ?_) (fun c5 => b_pc (pc' := 59) rfl ?_)
      · refine bD.wk (lv' := [(0, .ref 76), (1, bLg v1), (3, bI v3), (4, bI v4), (5, bI v5)]) (bSb rfl (bSb rfl (bSb rfl (bSb rfl (bSb rfl bSn))))) ?_
        exact p_X11_covers_91 hr H13 h1 h3 h4 h5
      · refine b_s (pc' := 60) (lv1 := [(0, .ref 76), (1, bLg v1), (3, bI v3), (4, bI v4), (5, bI v5), (6, bI w2), (7, bI w3)]) (st' := [bLg v1]) l218_59 (fun _ => rfl) ?_
        refine b_s (pc' := 61) (lv1 := [(0, .ref 76), (1, bLg v1), (3, bI v3), (4, bI v4), (5, bI v5), (6, bI w2), (7, bI w3)]) (st' := [.ref 76, bLg v1]) l218_60 (fun _ => rfl) ?_
        refine b_gp (q' := 87) (j := 11) l218_61 (by rfl) (by decide) (by decide) rfl hk rfl rfl (b_pc (pc' := 64) rfl ?_)
        refine b_s (pc' := 66) (lv1 := [(0, .ref 76), (1, bLg v1), (3, bI v3), (4, bI v4), (5, bI v5), (6, bI w2), (7, bI w3)]) (st' := [bI w2, .ref 87, bLg v1]) l218_64 (fun _ => rfl) ?_
        refine b_g fun g11 => ?_
        refine b_lal l218_66 (by rfl) g11 (b_pc (pc' := 67) rfl ?_)
        refine b_cPz l218_67 rfl (fun _ => trivial) (Nat.le_of_ble_eq_true rfl) (Nat.le_of_ble_eq_true rfl) rfl (r_X11_isBelow v1 h1 (μ 87 w2.toNat) (bO_l hk (by rfl))) fun w6 hw6 => b_pc (pc' := 70) rfl ?_
        refine b_zne (pt := 91) l218_70 (bZ_R hw6) (by decide) rfl (fun c7 => ?_) (fun c7 => b_pc (pc' := 73) rfl ?_)
        · refine bD.wk (lv' := [(0, .ref 76), (1, bLg v1), (3, bI v3), (4, bI v4), (5, bI v5)]) (bSb rfl (bSb rfl (bSb rfl (bSb rfl (bSb rfl bSn))))) ?_
          exact p_X11_covers_91 hr H13 h1 h3 h4 h5
        · refine b_s (pc' := 74) (lv1 := [(0, .ref 76), (1, bLg v1), (3, bI v3), (4, bI v4), (5, bI v5), (6, bI w2), (7, bI w3)]) (st' := [bLg v1]) l218_73 (fun _ => rfl) ?_
          refine b_s (pc' := 75) (lv1 := [(0, .ref 76), (1, bLg v1), (3, bI v3), (4, bI v4), (5, bI v5), (6, bI w2), (7, bI w3)]) (st' := [.ref 76, bLg v1]) l218_74 (fun _ => rfl) ?_
          refine b_gp (q' := 87) (j := 11) l218_75 (by rfl) (by decide) (by decide) rfl hk rfl rfl (b_pc (pc' := 78) rfl ?_)
          refine b_s (pc' := 80) (lv1 := [(0, .ref 76), (1, bLg v1), (3, bI v3), (4, bI v4), (5, bI v5), (6, bI w2), (7, bI w3)]) (st' := [bI w3, .ref 87, bLg v1]) l218_78 (fun _ => rfl) ?_
          refine b_g fun g10 => ?_
          refine b_lal l218_80 (by rfl) g10 (b_pc (pc' := 81) rfl ?_)
          refine b_cPz l218_81 rfl (fun _ => trivial) (Nat.le_of_ble_eq_true rfl) (Nat.le_of_ble_eq_true rfl) rfl (r_X11_isBelow v1 h1 (μ 87 w3.toNat) (bO_l hk (by rfl))) fun w8 hw8 => b_pc (pc' := 84) rfl ?_
          refine b_zeq (pt := 91) l218_84 (bZ_R hw8) (by decide) rfl (fun c9 => ?_) (fun c9 => b_pc (pc' := 87) rfl ?_)
          · refine bD.wk (lv' := [(0, .ref 76), (1, bLg v1), (3, bI v3), (4, bI v4), (5, bI v5)]) (bSb rfl (bSb rfl (bSb rfl (bSb rfl (bSb rfl bSn))))) ?_
            exact p_X11_covers_91 hr H13 h1 h3 h4 h5
          · refine b_s (pc' := 88) (lv1 := [(0, .ref 76), (1, bLg v1), (3, bI v3), (4, bI v4), (5, bI v5), (6, bI w2), (7, bI w3)]) (st' := [bI 1]) l218_87 (fun _ => rfl) ?_
            refine b_s (pc' := 92) (lv1 := [(0, .ref 76), (1, bLg v1), (3, bI v3), (4, bI v4), (5, bI v5), (6, bI w2), (7, bI w3)]) (st' := [bI 1]) l218_88 (fun _ => rfl) ?_
            refine bD.wk (lv' := [(0, .ref 76), (1, bLg v1), (3, bI v3), (4, bI v4), (5, bI v5)]) (bSb rfl (bSb rfl (bSb rfl (bSb rfl (bSb rfl bSn))))) ?_
            exact p_X11_covers_92 hr H13 h1 h3 h4 h5 (by decide)
theorem p_X11_covers_13 {L : Nat} {xs : Nat → Int32} {d : Nat} {μ : bM}  {κ : (Int × bM) → Option bX} (hr : ∀ r : Int × bM, κ r = (bMc) r)  {v1 : Int} (h1 : bRL v1) {v3 : Int} (h3 : bR v3) {v4 : Int} (h4 : bR v4) {v5 : Int} (h5 : bR v5) : bD L xs (d + 2) 218 13 [(0, .ref 76), (1, bLg v1), (3, bI v3), (4, bI v4), (5, bI v5)] [] μ ((bLoop (fun z => F_X11_covers_13 v1 μ z.1 z.2.1 z.2.2) (v3, v4, v5)).bind κ) :=
  b_loop (fun z => [(0, .ref 76), (1, bLg v1), (3, bI z.1), (4, bI z.2.1), (5, bI z.2.2)]) (fun z => μ) (fun z => bR z.1 ∧ bR z.2.1 ∧ bR z.2.2) (fun κ' hκ HH z hz => q_X11_covers_13 (κ := κ') (fun r => (hκ _).trans (hr r)) (fun a3 a4 a5 b3 b4 b5 => HH (a3, a4, a5) ⟨b3, b4, b5⟩)  h1 hz.1 hz.2.1 hz.2.2) (v3, v4, v5) ⟨h3, h4, h5⟩
theorem r_X11_covers {L : Nat} {xs : Nat → Int32} {d : Nat} {μ : bM}  (v1 : Int) (h1 : bRL v1) : bD L xs (d + 2) 218 0 [(0, .ref 76), (1, bLg v1)] [] μ ((F_X11_covers v1 μ).bind (bMc)) := by
  have hr : ∀ r, (bMc) r = (bMc) r := fun _ => rfl
  unfold F_X11_covers
  refine bD.ok fun hk => ?_
  refine b_s (pc' := 1) (lv1 := [(0, .ref 76), (1, bLg v1)]) (st' := [.ref 76]) l218_0 (fun _ => rfl) ?_
  refine b_s (pc' := 2) (lv1 := [(0, .ref 76), (1, bLg v1)]) (st' := [bI 0, .ref 76]) l218_1 (fun _ => rfl) ?_
  refine b_pi l218_2 (by rfl) (by decide) (by decide) rfl rfl (by decide) (bD.ok fun hk1 => b_pc (pc' := 5) rfl ?_)
  refine b_s (pc' := 6) (lv1 := [(0, .ref 76), (1, bLg v1)]) (st' := [bI (-1)]) l218_5 (fun _ => rfl) ?_
  refine b_w (pc' := 7) (lv1 := ax_st1 [(0, .ref 76), (1, bLg v1)] 3 (bI (-1))) (lv' := [(0, .ref 76), (1, bLg v1), (3, bI (-1))]) (st' := []) l218_6 (fun _ => rfl) (bSb rfl (bSb rfl (bSb rfl bSn))) ?_
  refine b_s (pc' := 8) (lv1 := [(0, .ref 76), (1, bLg v1), (3, bI (-1))]) (st' := [bI (-1)]) l218_7 (fun _ => rfl) ?_
  refine b_w (pc' := 10) (lv1 := ax_st1 [(0, .ref 76), (1, bLg v1), (3, bI (-1))] 4 (bI (-1))) (lv' := [(0, .ref 76), (1, bLg v1), (3, bI (-1)), (4, bI (-1))]) (st' := []) l218_8 (fun _ => rfl) (bSb rfl (bSb rfl (bSb rfl (bSb rfl bSn)))) ?_
  refine b_s (pc' := 11) (lv1 := [(0, .ref 76), (1, bLg v1), (3, bI (-1)), (4, bI (-1))]) (st' := [bI 0]) l218_10 (fun _ => rfl) ?_
  refine b_w (pc' := 13) (lv1 := ax_st1 [(0, .ref 76), (1, bLg v1), (3, bI (-1)), (4, bI (-1))] 5 (bI 0)) (lv' := [(0, .ref 76), (1, bLg v1), (3, bI (-1)), (4, bI (-1)), (5, bI 0)]) (st' := []) l218_11 (fun _ => rfl) (bSb rfl (bSb rfl (bSb rfl (bSb rfl (bSb rfl bSn))))) ?_
  refine bD.wk (lv' := [(0, .ref 76), (1, bLg v1), (3, bI (-1)), (4, bI (-1)), (5, bI 0)]) (bSb rfl (bSb rfl (bSb rfl (bSb rfl (bSb rfl bSn))))) ?_
  exact p_X11_covers_13 hr h1 (by decide) (by decide) (by decide)
end
